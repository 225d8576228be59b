theorem dX4_got_24 : decode cX4_got 24 = .ok (.getfield 105, 3) := by decide +kernel
theorem dX4_got_27 : decode cX4_got 27 = .ok (.astore_n 3, 1) := by decide +kernel
theorem dX4_got_28 : decode cX4_got 28 = .ok (.iload_n 1, 1) := by decide +kernel
theorem dX4_got_29 : decode cX4_got 29 = .ok (.aload_n 3, 1) := by decide +kernel
theorem dX4_got_30 : decode cX4_got 30 = .ok (.getfield 109, 3) := by decide +kernel
theorem dX4_got_33 : decode cX4_got 33 = .ok (.if_icmp .ge 10, 3) := by decide +kernel
theorem dX4_got_36 : decode cX4_got 36 = .ok (.iload_n 1, 1) := by decide +kernel
theorem dX4_got_37 : decode cX4_got 37 = .ok (.sipush 200, 3) := by decide +kernel
theorem dX4_got_40 : decode cX4_got 40 = .ok (.if_icmp .lt 5, 3) := by decide +kernel
theorem dX4_got_43 : decode cX4_got 43 = .ok (.iconst (-1), 1) := by decide +kernel
theorem dX4_got_44 : decode cX4_got 44 = .ok (.ireturn, 1) := by decide +kernel
theorem dX4_got_45 : decode cX4_got 45 = .ok (.iload_n 2, 1) := by decide +kernel
theorem dX4_got_46 : decode cX4_got 46 = .ok (.ifCond .ne 12, 3) := by decide +kernel
theorem dX4_got_49 : decode cX4_got 49 = .ok (.aload_n 3, 1) := by decide +kernel
theorem dX4_got_50 : decode cX4_got 50 = .ok (.getfield 114, 3) := by decide +kernel
theorem dX4_got_53 : decode cX4_got 53 = .ok (.iload_n 1, 1) := by decide +kernel
theorem dX4_got_54 : decode cX4_got 54 = .ok (.iaload, 1) := by decide +kernel
theorem dX4_got_55 : decode cX4_got 55 = .ok (.goto 23, 3) := by decide +kernel
theorem dX4_got_58 : decode cX4_got 58 = .ok (.iload_n 2, 1) := by decide +kernel
theorem dX4_got_59 : decode cX4_got 59 = .ok (.iconst 1, 1) := by decide +kernel
theorem dX4_got_60 : decode cX4_got 60 = .ok (.if_icmp .ne 12, 3) := by decide +kernel
theorem dX4_got_63 : decode cX4_got 63 = .ok (.aload_n 3, 1) := by decide +kernel
theorem dX4_got_64 : decode cX4_got 64 = .ok (.getfield 117, 3) := by decide +kernel
theorem dX4_got_67 : decode cX4_got 67 = .ok (.iload_n 1, 1) := by decide +kernel
theorem dX4_got_68 : decode cX4_got 68 = .ok (.iaload, 1) := by decide +kernel
theorem dX4_got_69 : decode cX4_got 69 = .ok (.goto 9, 3) := by decide +kernel
theorem dX4_got_72 : decode cX4_got 72 = .ok (.aload_n 3, 1) := by decide +kernel
theorem dX4_got_73 : decode cX4_got 73 = .ok (.getfield 120, 3) := by decide +kernel
theorem dX4_got_76 : decode cX4_got 76 = .ok (.iload_n 1, 1) := by decide +kernel
theorem dX4_got_77 : decode cX4_got 77 = .ok (.iaload, 1) := by decide +kernel
theorem dX4_got_78 : decode cX4_got 78 = .ok (.ireturn, 1) := by decide +kernel
theorem dX4_often_0 : decode cX4_often 0 = .ok (.iload_n 1, 1) := by decide +kernel
theorem dX4_often_1 : decode cX4_often 1 = .ok (.ifCond .lt 9, 3) := by decide +kernel
theorem dX4_often_4 : decode cX4_often 4 = .ok (.iload_n 1, 1) := by decide +kernel
theorem dX4_often_5 : decode cX4_often 5 = .ok (.bipush 10, 2) := by decide +kernel
theorem dX4_often_7 : decode cX4_often 7 = .ok (.if_icmp .lt 10, 3) := by decide +kernel
theorem dX4_often_10 : decode cX4_often 10 = .ok (.aload_n 0, 1) := by decide +kernel
theorem dX4_often_11 : decode cX4_often 11 = .ok (.bipush (-2), 2) := by decide +kernel
theorem dX4_often_13 : decode cX4_often 13 = .ok (.invokevirtual 47, 3) := by decide +kernel
theorem dX4_often_16 : decode cX4_often 16 = .ok (.ireturn, 1) := by decide +kernel
theorem dX4_often_17 : decode cX4_often 17 = .ok (.aload_n 0, 1) := by decide +kernel
theorem dX4_often_18 : decode cX4_often 18 = .ok (.getfield 10, 3) := by decide +kernel
theorem dX4_often_21 : decode cX4_often 21 = .ok (.getfield 60, 3) := by decide +kernel
theorem dX4_often_24 : decode cX4_often 24 = .ok (.iload_n 1, 1) := by decide +kernel
theorem dX4_often_25 : decode cX4_often 25 = .ok (.iaload, 1) := by decide +kernel
theorem dX4_often_26 : decode cX4_often 26 = .ok (.ireturn, 1) := by decide +kernel
theorem dX4_where_0 : decode cX4_where 0 = .ok (.iload_n 1, 1) := by decide +kernel
theorem dX4_where_1 : decode cX4_where 1 = .ok (.invokestatic 63, 3) := by decide +kernel
theorem dX4_where_4 : decode cX4_where 4 = .ok (.ifCond .ne 10, 3) := by decide +kernel
theorem dX4_where_7 : decode cX4_where 7 = .ok (.aload_n 0, 1) := by decide +kernel
theorem dX4_where_8 : decode cX4_where 8 = .ok (.bipush (-2), 2) := by decide +kernel
theorem dX4_where_10 : decode cX4_where 10 = .ok (.invokevirtual 47, 3) := by decide +kernel
theorem dX4_where_13 : decode cX4_where 13 = .ok (.ireturn, 1) := by decide +kernel
theorem dX4_where_14 : decode cX4_where 14 = .ok (.aload_n 0, 1) := by decide +kernel
theorem dX4_where_15 : decode cX4_where 15 = .ok (.getfield 10, 3) := by decide +kernel
theorem dX4_where_18 : decode cX4_where 18 = .ok (.getfield 70, 3) := by decide +kernel
theorem dX4_where_21 : decode cX4_where 21 = .ok (.iload_n 1, 1) := by decide +kernel
theorem dX4_where_22 : decode cX4_where 22 = .ok (.aaload, 1) := by decide +kernel
theorem dX4_where_23 : decode cX4_where 23 = .ok (.getfield 123, 3) := by decide +kernel
theorem dX4_where_26 : decode cX4_where 26 = .ok (.ireturn, 1) := by decide +kernel
theorem dX4_item_0 : decode cX4_item 0 = .ok (.iload_n 1, 1) := by decide +kernel
theorem dX4_item_1 : decode cX4_item 1 = .ok (.invokestatic 63, 3) := by decide +kernel
theorem dX4_item_4 : decode cX4_item 4 = .ok (.ifCond .eq 19, 3) := by decide +kernel
theorem dX4_item_7 : decode cX4_item 7 = .ok (.iload_n 2, 1) := by decide +kernel
theorem dX4_item_8 : decode cX4_item 8 = .ok (.invokestatic 67, 3) := by decide +kernel
theorem dX4_item_11 : decode cX4_item 11 = .ok (.ifCond .eq 12, 3) := by decide +kernel
theorem dX4_item_14 : decode cX4_item 14 = .ok (.iload_n 3, 1) := by decide +kernel
theorem dX4_item_15 : decode cX4_item 15 = .ok (.ifCond .lt 8, 3) := by decide +kernel
theorem dX4_item_18 : decode cX4_item 18 = .ok (.iload_n 3, 1) := by decide +kernel
theorem dX4_item_19 : decode cX4_item 19 = .ok (.iconst 2, 1) := by decide +kernel
theorem dX4_item_20 : decode cX4_item 20 = .ok (.if_icmp .le 10, 3) := by decide +kernel
theorem dX4_item_23 : decode cX4_item 23 = .ok (.aload_n 0, 1) := by decide +kernel
theorem dX4_item_24 : decode cX4_item 24 = .ok (.bipush (-2), 2) := by decide +kernel
theorem dX4_item_26 : decode cX4_item 26 = .ok (.invokevirtual 47, 3) := by decide +kernel
theorem dX4_item_29 : decode cX4_item 29 = .ok (.ireturn, 1) := by decide +kernel
theorem dX4_item_30 : decode cX4_item 30 = .ok (.aload_n 0, 1) := by decide +kernel
theorem dX4_item_31 : decode cX4_item 31 = .ok (.getfield 10, 3) := by decide +kernel
theorem dX4_item_34 : decode cX4_item 34 = .ok (.getfield 70, 3) := by decide +kernel
theorem dX4_item_37 : decode cX4_item 37 = .ok (.iload_n 1, 1) := by decide +kernel
theorem dX4_item_38 : decode cX4_item 38 = .ok (.aaload, 1) := by decide +kernel
theorem dX4_item_39 : decode cX4_item 39 = .ok (.astore 4, 2) := by decide +kernel
theorem dX4_item_41 : decode cX4_item 41 = .ok (.iload_n 3, 1) := by decide +kernel
theorem dX4_item_42 : decode cX4_item 42 = .ok (.ifCond .ne 11, 3) := by decide +kernel
theorem dX4_item_45 : decode cX4_item 45 = .ok (.aload 4, 2) := by decide +kernel
theorem dX4_item_47 : decode cX4_item 47 = .ok (.getfield 128, 3) := by decide +kernel
theorem dX4_item_50 : decode cX4_item 50 = .ok (.iload_n 2, 1) := by decide +kernel
theorem dX4_item_51 : decode cX4_item 51 = .ok (.iaload, 1) := by decide +kernel
theorem dX4_item_52 : decode cX4_item 52 = .ok (.ireturn, 1) := by decide +kernel
theorem dX4_item_53 : decode cX4_item 53 = .ok (.iload_n 3, 1) := by decide +kernel
theorem dX4_item_54 : decode cX4_item 54 = .ok (.iconst 1, 1) := by decide +kernel
theorem dX4_item_55 : decode cX4_item 55 = .ok (.if_icmp .ne 12, 3) := by decide +kernel
theorem dX4_item_58 : decode cX4_item 58 = .ok (.aload 4, 2) := by decide +kernel
theorem dX4_item_60 : decode cX4_item 60 = .ok (.iload_n 2, 1) := by decide +kernel
theorem dX4_item_61 : decode cX4_item 61 = .ok (.invokevirtual 131, 3) := by decide +kernel
theorem dX4_item_64 : decode cX4_item 64 = .ok (.goto 9, 3) := by decide +kernel
theorem dX4_item_67 : decode cX4_item 67 = .ok (.aload 4, 2) := by decide +kernel
theorem dX4_item_69 : decode cX4_item 69 = .ok (.iload_n 2, 1) := by decide +kernel
theorem dX4_item_70 : decode cX4_item 70 = .ok (.invokevirtual 134, 3) := by decide +kernel
theorem dX4_item_73 : decode cX4_item 73 = .ok (.ireturn, 1) := by decide +kernel
theorem dX4_place_0 : decode cX4_place 0 = .ok (.iload_n 1, 1) := by decide +kernel
theorem dX4_place_1 : decode cX4_place 1 = .ok (.ifCond .lt 17, 3) := by decide +kernel
theorem dX4_place_4 : decode cX4_place 4 = .ok (.iload_n 1, 1) := by decide +kernel
theorem dX4_place_5 : decode cX4_place 5 = .ok (.iconst 4, 1) := by decide +kernel
theorem dX4_place_6 : decode cX4_place 6 = .ok (.if_icmp .ge 12, 3) := by decide +kernel
theorem dX4_place_9 : decode cX4_place 9 = .ok (.iload_n 2, 1) := by decide +kernel
theorem dX4_place_10 : decode cX4_place 10 = .ok (.ifCond .lt 8, 3) := by decide +kernel
theorem dX4_place_13 : decode cX4_place 13 = .ok (.iload_n 2, 1) := by decide +kernel
theorem dX4_place_14 : decode cX4_place 14 = .ok (.iconst 3, 1) := by decide +kernel
theorem dX4_place_15 : decode cX4_place 15 = .ok (.if_icmp .lt 10, 3) := by decide +kernel
theorem dX4_place_18 : decode cX4_place 18 = .ok (.aload_n 0, 1) := by decide +kernel
theorem dX4_place_19 : decode cX4_place 19 = .ok (.bipush (-2), 2) := by decide +kernel
theorem dX4_place_21 : decode cX4_place 21 = .ok (.invokevirtual 47, 3) := by decide +kernel
theorem dX4_place_24 : decode cX4_place 24 = .ok (.ireturn, 1) := by decide +kernel
theorem dX4_place_25 : decode cX4_place 25 = .ok (.aload_n 0, 1) := by decide +kernel
theorem dX4_place_26 : decode cX4_place 26 = .ok (.getfield 10, 3) := by decide +kernel
theorem dX4_place_29 : decode cX4_place 29 = .ok (.iload_n 1, 1) := by decide +kernel
theorem dX4_place_30 : decode cX4_place 30 = .ok (.iload_n 2, 1) := by decide +kernel
theorem dX4_place_31 : decode cX4_place 31 = .ok (.invokevirtual 137, 3) := by decide +kernel
theorem dX4_place_34 : decode cX4_place 34 = .ok (.ireturn, 1) := by decide +kernel
theorem dX4_fetch_0 : decode cX4_fetch 0 = .ok (.iload_n 1, 1) := by decide +kernel
theorem dX4_fetch_1 : decode cX4_fetch 1 = .ok (.ifCond .lt 12, 3) := by decide +kernel
theorem dX4_fetch_4 : decode cX4_fetch 4 = .ok (.iload_n 2, 1) := by decide +kernel
theorem dX4_fetch_5 : decode cX4_fetch 5 = .ok (.ifCond .lt 8, 3) := by decide +kernel
theorem dX4_fetch_8 : decode cX4_fetch 8 = .ok (.iload_n 2, 1) := by decide +kernel
theorem dX4_fetch_9 : decode cX4_fetch 9 = .ok (.iconst 2, 1) := by decide +kernel
theorem dX4_fetch_10 : decode cX4_fetch 10 = .ok (.if_icmp .le 10, 3) := by decide +kernel
theorem dX4_fetch_13 : decode cX4_fetch 13 = .ok (.aload_n 0, 1) := by decide +kernel
theorem dX4_fetch_14 : decode cX4_fetch 14 = .ok (.bipush (-2), 2) := by decide +kernel
theorem dX4_fetch_16 : decode cX4_fetch 16 = .ok (.invokevirtual 47, 3) := by decide +kernel
theorem dX4_fetch_19 : decode cX4_fetch 19 = .ok (.ireturn, 1) := by decide +kernel
theorem dX4_fetch_20 : decode cX4_fetch 20 = .ok (.aload_n 0, 1) := by decide +kernel
theorem dX4_fetch_21 : decode cX4_fetch 21 = .ok (.getfield 10, 3) := by decide +kernel
theorem dX4_fetch_24 : decode cX4_fetch 24 = .ok (.iload_n 1, 1) := by decide +kernel
theorem dX4_fetch_25 : decode cX4_fetch 25 = .ok (.invokevirtual 141, 3) := by decide +kernel
theorem dX4_fetch_28 : decode cX4_fetch 28 = .ok (.astore_n 3, 1) := by decide +kernel
theorem dX4_fetch_29 : decode cX4_fetch 29 = .ok (.aload_n 3, 1) := by decide +kernel
theorem dX4_fetch_30 : decode cX4_fetch 30 = .ok (.ifnonnull 5, 3) := by decide +kernel
theorem dX4_fetch_33 : decode cX4_fetch 33 = .ok (.iconst (-1), 1) := by decide +kernel
theorem dX4_fetch_34 : decode cX4_fetch 34 = .ok (.ireturn, 1) := by decide +kernel
theorem dX4_fetch_35 : decode cX4_fetch 35 = .ok (.iload_n 2, 1) := by decide +kernel
theorem dX4_fetch_36 : decode cX4_fetch 36 = .ok (.ifCond .ne 10, 3) := by decide +kernel
theorem dX4_fetch_39 : decode cX4_fetch 39 = .ok (.aload_n 3, 1) := by decide +kernel
theorem dX4_fetch_40 : decode cX4_fetch 40 = .ok (.getfield 145, 3) := by decide +kernel
theorem dX4_fetch_43 : decode cX4_fetch 43 = .ok (.goto 30, 3) := by decide +kernel
theorem dX4_fetch_46 : decode cX4_fetch 46 = .ok (.iload_n 2, 1) := by decide +kernel
theorem dX4_fetch_47 : decode cX4_fetch 47 = .ok (.iconst 1, 1) := by decide +kernel
theorem dX4_fetch_48 : decode cX4_fetch 48 = .ok (.if_icmp .ne 21, 3) := by decide +kernel
theorem dX4_fetch_51 : decode cX4_fetch 51 = .ok (.aload_n 3, 1) := by decide +kernel
theorem dX4_fetch_52 : decode cX4_fetch 52 = .ok (.getfield 148, 3) := by decide +kernel
theorem dX4_fetch_55 : decode cX4_fetch 55 = .ok (.aload_n 0, 1) := by decide +kernel
theorem dX4_fetch_56 : decode cX4_fetch 56 = .ok (.getfield 10, 3) := by decide +kernel
theorem dX4_fetch_59 : decode cX4_fetch 59 = .ok (.getfield 60, 3) := by decide +kernel
theorem dX4_fetch_62 : decode cX4_fetch 62 = .ok (.bipush 9, 2) := by decide +kernel
theorem dX4_fetch_64 : decode cX4_fetch 64 = .ok (.iaload, 1) := by decide +kernel
theorem dX4_fetch_65 : decode cX4_fetch 65 = .ok (.isub, 1) := by decide +kernel
theorem dX4_fetch_66 : decode cX4_fetch 66 = .ok (.goto 7, 3) := by decide +kernel
theorem dX4_fetch_69 : decode cX4_fetch 69 = .ok (.aload_n 3, 1) := by decide +kernel
theorem dX4_fetch_70 : decode cX4_fetch 70 = .ok (.getfield 151, 3) := by decide +kernel
theorem dX4_fetch_73 : decode cX4_fetch 73 = .ok (.ireturn, 1) := by decide +kernel
theorem dX4_cost_0 : decode cX4_cost 0 = .ok (.iload_n 1, 1) := by decide +kernel
theorem dX4_cost_1 : decode cX4_cost 1 = .ok (.ifCond .lt 8, 3) := by decide +kernel
theorem dX4_cost_4 : decode cX4_cost 4 = .ok (.iload_n 1, 1) := by decide +kernel
theorem dX4_cost_5 : decode cX4_cost 5 = .ok (.iconst 2, 1) := by decide +kernel
theorem dX4_cost_6 : decode cX4_cost 6 = .ok (.if_icmp .le 10, 3) := by decide +kernel
theorem dX4_cost_9 : decode cX4_cost 9 = .ok (.aload_n 0, 1) := by decide +kernel
theorem dX4_cost_10 : decode cX4_cost 10 = .ok (.bipush (-2), 2) := by decide +kernel
theorem dX4_cost_12 : decode cX4_cost 12 = .ok (.invokevirtual 47, 3) := by decide +kernel
theorem dX4_cost_15 : decode cX4_cost 15 = .ok (.ireturn, 1) := by decide +kernel
theorem dX4_cost_16 : decode cX4_cost 16 = .ok (.aload_n 0, 1) := by decide +kernel
theorem dX4_cost_17 : decode cX4_cost 17 = .ok (.getfield 10, 3) := by decide +kernel
theorem dX4_cost_20 : decode cX4_cost 20 = .ok (.getfield 105, 3) := by decide +kernel
theorem dX4_cost_23 : decode cX4_cost 23 = .ok (.astore_n 2, 1) := by decide +kernel
theorem dX4_cost_24 : decode cX4_cost 24 = .ok (.iload_n 1, 1) := by decide +kernel
theorem dX4_cost_25 : decode cX4_cost 25 = .ok (.ifCond .ne 13, 3) := by decide +kernel
theorem dX4_cost_28 : decode cX4_cost 28 = .ok (.aload_n 0, 1) := by decide +kernel
theorem dX4_cost_29 : decode cX4_cost 29 = .ok (.getfield 10, 3) := by decide +kernel
theorem dX4_cost_32 : decode cX4_cost 32 = .ok (.getfield 154, 3) := by decide +kernel
theorem dX4_cost_35 : decode cX4_cost 35 = .ok (.goto 20, 3) := by decide +kernel
theorem dX4_cost_38 : decode cX4_cost 38 = .ok (.iload_n 1, 1) := by decide +kernel
theorem dX4_cost_39 : decode cX4_cost 39 = .ok (.iconst 1, 1) := by decide +kernel
theorem dX4_cost_40 : decode cX4_cost 40 = .ok (.if_icmp .ne 10, 3) := by decide +kernel
theorem dX4_cost_43 : decode cX4_cost 43 = .ok (.aload_n 2, 1) := by decide +kernel
theorem dX4_cost_44 : decode cX4_cost 44 = .ok (.invokevirtual 158, 3) := by decide +kernel
theorem dX4_cost_47 : decode cX4_cost 47 = .ok (.goto 8, 3) := by decide +kernel
theorem dX4_cost_50 : decode cX4_cost 50 = .ok (.aload_n 2, 1) := by decide +kernel
theorem dX4_cost_51 : decode cX4_cost 51 = .ok (.getfield 162, 3) := by decide +kernel
theorem dX4_cost_54 : decode cX4_cost 54 = .ok (.i2f, 1) := by decide +kernel
theorem dX4_cost_55 : decode cX4_cost 55 = .ok (.invokestatic 165, 3) := by decide +kernel
theorem dX4_cost_58 : decode cX4_cost 58 = .ok (.ireturn, 1) := by decide +kernel
theorem dX4_even_0 : decode cX4_even 0 = .ok (.aload_n 0, 1) := by decide +kernel
theorem dX4_even_1 : decode cX4_even 1 = .ok (.getfield 10, 3) := by decide +kernel
theorem dX4_even_4 : decode cX4_even 4 = .ok (.getfield 105, 3) := by decide +kernel
theorem dX4_even_7 : decode cX4_even 7 = .ok (.invokevirtual 169, 3) := by decide +kernel
theorem dX4_even_10 : decode cX4_even 10 = .ok (.invokestatic 173, 3) := by decide +kernel
theorem dX4_even_13 : decode cX4_even 13 = .ok (.lreturn, 1) := by decide +kernel
theorem dX4_best_0 : decode cX4_best 0 = .ok (.iload_n 1, 1) := by decide +kernel
theorem dX4_best_1 : decode cX4_best 1 = .ok (.ifCond .lt 8, 3) := by decide +kernel
theorem dX4_best_4 : decode cX4_best 4 = .ok (.iload_n 1, 1) := by decide +kernel
theorem dX4_best_5 : decode cX4_best 5 = .ok (.iconst 1, 1) := by decide +kernel
theorem dX4_best_6 : decode cX4_best 6 = .ok (.if_icmp .le 10, 3) := by decide +kernel
theorem dX4_best_9 : decode cX4_best 9 = .ok (.aload_n 0, 1) := by decide +kernel
theorem dX4_best_10 : decode cX4_best 10 = .ok (.bipush (-2), 2) := by decide +kernel
theorem dX4_best_12 : decode cX4_best 12 = .ok (.invokevirtual 47, 3) := by decide +kernel
theorem dX4_best_15 : decode cX4_best 15 = .ok (.ireturn, 1) := by decide +kernel
theorem dX4_best_16 : decode cX4_best 16 = .ok (.aload_n 0, 1) := by decide +kernel
theorem dX4_best_17 : decode cX4_best 17 = .ok (.getfield 26, 3) := by decide +kernel
theorem dX4_best_20 : decode cX4_best 20 = .ok (.invokevirtual 177, 3) := by decide +kernel
theorem dX4_best_23 : decode cX4_best 23 = .ok (.istore_n 2, 1) := by decide +kernel
theorem dX4_best_24 : decode cX4_best 24 = .ok (.iload_n 2, 1) := by decide +kernel
theorem dX4_best_25 : decode cX4_best 25 = .ok (.iconst (-1), 1) := by decide +kernel
theorem dX4_best_26 : decode cX4_best 26 = .ok (.if_icmp .eq 8, 3) := by decide +kernel
theorem dX4_best_29 : decode cX4_best 29 = .ok (.bipush (-10), 2) := by decide +kernel
theorem dX4_best_31 : decode cX4_best 31 = .ok (.iload_n 2, 1) := by decide +kernel
theorem dX4_best_32 : decode cX4_best 32 = .ok (.isub, 1) := by decide +kernel
theorem dX4_best_33 : decode cX4_best 33 = .ok (.ireturn, 1) := by decide +kernel
theorem dX4_best_34 : decode cX4_best 34 = .ok (.iconst 0, 1) := by decide +kernel
theorem dX4_best_35 : decode cX4_best 35 = .ok (.istore_n 3, 1) := by decide +kernel
theorem dX4_best_36 : decode cX4_best 36 = .ok (.ldc 181, 2) := by decide +kernel
theorem dX4_best_38 : decode cX4_best 38 = .ok (.istore 4, 2) := by decide +kernel
theorem dX4_best_40 : decode cX4_best 40 = .ok (.iconst 1, 1) := by decide +kernel
theorem dX4_best_41 : decode cX4_best 41 = .ok (.istore 5, 2) := by decide +kernel
theorem dX4_best_43 : decode cX4_best 43 = .ok (.iload 5, 2) := by decide +kernel
theorem dX4_best_45 : decode cX4_best 45 = .ok (.iconst 4, 1) := by decide +kernel
theorem dX4_best_46 : decode cX4_best 46 = .ok (.if_icmp .gt 73, 3) := by decide +kernel
theorem dX4_best_49 : decode cX4_best 49 = .ok (.aload_n 0, 1) := by decide +kernel
theorem dX4_best_50 : decode cX4_best 50 = .ok (.getfield 16, 3) := by decide +kernel
theorem dX4_best_53 : decode cX4_best 53 = .ok (.aload_n 0, 1) := by decide +kernel
theorem dX4_best_54 : decode cX4_best 54 = .ok (.getfield 10, 3) := by decide +kernel
theorem dX4_best_57 : decode cX4_best 57 = .ok (.getfield 54, 3) := by decide +kernel
theorem dX4_best_60 : decode cX4_best 60 = .ok (.iload 5, 2) := by decide +kernel
theorem dX4_best_62 : decode cX4_best 62 = .ok (.invokevirtual 182, 3) := by decide +kernel
theorem dX4_best_65 : decode cX4_best 65 = .ok (.aload_n 0, 1) := by decide +kernel
theorem dX4_best_66 : decode cX4_best 66 = .ok (.getfield 16, 3) := by decide +kernel
theorem dX4_best_69 : decode cX4_best 69 = .ok (.aload_n 0, 1) := by decide +kernel
theorem dX4_best_70 : decode cX4_best 70 = .ok (.getfield 26, 3) := by decide +kernel
theorem dX4_best_73 : decode cX4_best 73 = .ok (.invokevirtual 186, 3) := by decide +kernel
theorem dX4_best_76 : decode cX4_best 76 = .ok (.aload_n 0, 1) := by decide +kernel
theorem dX4_best_77 : decode cX4_best 77 = .ok (.getfield 16, 3) := by decide +kernel
theorem dX4_best_80 : decode cX4_best 80 = .ok (.invokevirtual 190, 3) := by decide +kernel
theorem dX4_best_83 : decode cX4_best 83 = .ok (.aload_n 0, 1) := by decide +kernel
theorem dX4_best_84 : decode cX4_best 84 = .ok (.getfield 16, 3) := by decide +kernel
theorem dX4_best_87 : decode cX4_best 87 = .ok (.getfield 60, 3) := by decide +kernel
theorem dX4_best_90 : decode cX4_best 90 = .ok (.bipush 9, 2) := by decide +kernel
theorem dX4_best_92 : decode cX4_best 92 = .ok (.iaload, 1) := by decide +kernel
theorem dX4_best_93 : decode cX4_best 93 = .ok (.iload 4, 2) := by decide +kernel
theorem dX4_best_95 : decode cX4_best 95 = .ok (.if_icmp .ge 18, 3) := by decide +kernel
theorem dX4_best_98 : decode cX4_best 98 = .ok (.iload 5, 2) := by decide +kernel
theorem dX4_best_100 : decode cX4_best 100 = .ok (.istore_n 3, 1) := by decide +kernel
theorem dX4_best_101 : decode cX4_best 101 = .ok (.aload_n 0, 1) := by decide +kernel
theorem dX4_best_102 : decode cX4_best 102 = .ok (.getfield 16, 3) := by decide +kernel
theorem dX4_best_105 : decode cX4_best 105 = .ok (.getfield 60, 3) := by decide +kernel
theorem dX4_best_108 : decode cX4_best 108 = .ok (.bipush 9, 2) := by decide +kernel
theorem dX4_best_110 : decode cX4_best 110 = .ok (.iaload, 1) := by decide +kernel
theorem dX4_best_111 : decode cX4_best 111 = .ok (.istore 4, 2) := by decide +kernel
theorem dX4_best_113 : decode cX4_best 113 = .ok (.iinc 5 1, 3) := by decide +kernel
theorem dX4_best_116 : decode cX4_best 116 = .ok (.goto (-73), 3) := by decide +kernel
theorem dX4_best_119 : decode cX4_best 119 = .ok (.iload_n 1, 1) := by decide +kernel
theorem dX4_best_120 : decode cX4_best 120 = .ok (.ifCond .ne 7, 3) := by decide +kernel
theorem dX4_best_123 : decode cX4_best 123 = .ok (.iload_n 3, 1) := by decide +kernel
theorem dX4_best_124 : decode cX4_best 124 = .ok (.goto 5, 3) := by decide +kernel
theorem dX4_best_127 : decode cX4_best 127 = .ok (.iload 4, 2) := by decide +kernel
theorem dX4_best_129 : decode cX4_best 129 = .ok (.ireturn, 1) := by decide +kernel
theorem dX4_type_0 : decode cX4_type 0 = .ok (.iload_n 1, 1) := by decide +kernel
theorem dX4_type_1 : decode cX4_type 1 = .ok (.ifCond .lt 9, 3) := by decide +kernel
theorem dX4_type_4 : decode cX4_type 4 = .ok (.iload_n 1, 1) := by decide +kernel
theorem dX4_type_5 : decode cX4_type 5 = .ok (.bipush 127, 2) := by decide +kernel
theorem dX4_type_7 : decode cX4_type 7 = .ok (.if_icmp .le 10, 3) := by decide +kernel
theorem dX4_type_10 : decode cX4_type 10 = .ok (.aload_n 0, 1) := by decide +kernel
theorem dX4_type_11 : decode cX4_type 11 = .ok (.bipush (-2), 2) := by decide +kernel
theorem dX4_type_13 : decode cX4_type 13 = .ok (.invokevirtual 47, 3) := by decide +kernel
theorem dX4_type_16 : decode cX4_type 16 = .ok (.ireturn, 1) := by decide +kernel
theorem dX4_type_17 : decode cX4_type 17 = .ok (.aload_n 0, 1) := by decide +kernel
theorem dX4_type_18 : decode cX4_type 18 = .ok (.getfield 26, 3) := by decide +kernel
theorem dX4_type_21 : decode cX4_type 21 = .ok (.getfield 193, 3) := by decide +kernel
theorem dX4_type_24 : decode cX4_type 24 = .ok (.ifCond .lt 15, 3) := by decide +kernel
theorem dX4_type_27 : decode cX4_type 27 = .ok (.aload_n 0, 1) := by decide +kernel
theorem dX4_type_28 : decode cX4_type 28 = .ok (.getfield 26, 3) := by decide +kernel
theorem dX4_type_31 : decode cX4_type 31 = .ok (.getfield 193, 3) := by decide +kernel
theorem dX4_type_34 : decode cX4_type 34 = .ok (.bipush 120, 2) := by decide +kernel
theorem dX4_type_36 : decode cX4_type 36 = .ok (.if_icmp .lt 10, 3) := by decide +kernel
theorem dX4_type_39 : decode cX4_type 39 = .ok (.aload_n 0, 1) := by decide +kernel
theorem dX4_type_40 : decode cX4_type 40 = .ok (.bipush (-4), 2) := by decide +kernel
theorem dX4_type_42 : decode cX4_type 42 = .ok (.invokevirtual 47, 3) := by decide +kernel
theorem dX4_type_45 : decode cX4_type 45 = .ok (.ireturn, 1) := by decide +kernel
theorem dX4_type_46 : decode cX4_type 46 = .ok (.aload_n 0, 1) := by decide +kernel
theorem dX4_type_47 : decode cX4_type 47 = .ok (.getfield 26, 3) := by decide +kernel
theorem dX4_type_50 : decode cX4_type 50 = .ok (.getfield 196, 3) := by decide +kernel
theorem dX4_type_53 : decode cX4_type 53 = .ok (.aload_n 0, 1) := by decide +kernel
theorem dX4_type_54 : decode cX4_type 54 = .ok (.getfield 26, 3) := by decide +kernel
theorem dX4_type_57 : decode cX4_type 57 = .ok (.getfield 193, 3) := by decide +kernel
theorem dX4_type_60 : decode cX4_type 60 = .ok (.iload_n 1, 1) := by decide +kernel
theorem dX4_type_61 : decode cX4_type 61 = .ok (.iastore, 1) := by decide +kernel
theorem dX4_type_62 : decode cX4_type 62 = .ok (.aload_n 0, 1) := by decide +kernel
theorem dX4_type_63 : decode cX4_type 63 = .ok (.getfield 26, 3) := by decide +kernel
theorem dX4_type_66 : decode cX4_type 66 = .ok (.dup, 1) := by decide +kernel
theorem dX4_type_67 : decode cX4_type 67 = .ok (.getfield 193, 3) := by decide +kernel
theorem dX4_type_70 : decode cX4_type 70 = .ok (.iconst 1, 1) := by decide +kernel
theorem dX4_type_71 : decode cX4_type 71 = .ok (.iadd, 1) := by decide +kernel
theorem dX4_type_72 : decode cX4_type 72 = .ok (.putfield 193, 3) := by decide +kernel
theorem dX4_type_75 : decode cX4_type 75 = .ok (.aload_n 0, 1) := by decide +kernel
theorem dX4_type_76 : decode cX4_type 76 = .ok (.getfield 26, 3) := by decide +kernel
theorem dX4_type_79 : decode cX4_type 79 = .ok (.getfield 193, 3) := by decide +kernel
theorem dX4_type_82 : decode cX4_type 82 = .ok (.ireturn, 1) := by decide +kernel
theorem dX4_clear_0 : decode cX4_clear 0 = .ok (.aload_n 0, 1) := by decide +kernel
theorem dX4_clear_1 : decode cX4_clear 1 = .ok (.getfield 26, 3) := by decide +kernel
theorem dX4_clear_4 : decode cX4_clear 4 = .ok (.getfield 193, 3) := by decide +kernel
theorem dX4_clear_7 : decode cX4_clear 7 = .ok (.istore_n 1, 1) := by decide +kernel
theorem dX4_clear_8 : decode cX4_clear 8 = .ok (.aload_n 0, 1) := by decide +kernel
theorem dX4_clear_9 : decode cX4_clear 9 = .ok (.getfield 26, 3) := by decide +kernel
theorem dX4_clear_12 : decode cX4_clear 12 = .ok (.iconst 0, 1) := by decide +kernel
theorem dX4_clear_13 : decode cX4_clear 13 = .ok (.putfield 193, 3) := by decide +kernel
theorem dX4_clear_16 : decode cX4_clear 16 = .ok (.iload_n 1, 1) := by decide +kernel
theorem dX4_clear_17 : decode cX4_clear 17 = .ok (.ireturn, 1) := by decide +kernel
theorem dX4_runs_0 : decode cX4_runs 0 = .ok (.aload_n 0, 1) := by decide +kernel
theorem dX4_runs_1 : decode cX4_runs 1 = .ok (.getfield 26, 3) := by decide +kernel
theorem dX4_runs_4 : decode cX4_runs 4 = .ok (.invokevirtual 177, 3) := by decide +kernel
theorem dX4_runs_7 : decode cX4_runs 7 = .ok (.istore_n 1, 1) := by decide +kernel
theorem dX4_runs_8 : decode cX4_runs 8 = .ok (.iload_n 1, 1) := by decide +kernel
theorem dX4_runs_9 : decode cX4_runs 9 = .ok (.iconst (-1), 1) := by decide +kernel
theorem dX4_runs_10 : decode cX4_runs 10 = .ok (.if_icmp .eq 8, 3) := by decide +kernel
theorem dX4_runs_13 : decode cX4_runs 13 = .ok (.bipush (-10), 2) := by decide +kernel
theorem dX4_runs_15 : decode cX4_runs 15 = .ok (.iload_n 1, 1) := by decide +kernel
theorem dX4_runs_16 : decode cX4_runs 16 = .ok (.isub, 1) := by decide +kernel
theorem dX4_runs_17 : decode cX4_runs 17 = .ok (.ireturn, 1) := by decide +kernel
theorem dX4_runs_18 : decode cX4_runs 18 = .ok (.aload_n 0, 1) := by decide +kernel
theorem dX4_runs_19 : decode cX4_runs 19 = .ok (.invokevirtual 51, 3) := by decide +kernel
theorem dX4_runs_22 : decode cX4_runs 22 = .ok (.aload_n 0, 1) := by decide +kernel
theorem dX4_runs_23 : decode cX4_runs 23 = .ok (.getfield 10, 3) := by decide +kernel
theorem dX4_runs_26 : decode cX4_runs 26 = .ok (.getfield 60, 3) := by decide +kernel
theorem dX4_runs_29 : decode cX4_runs 29 = .ok (.bipush 9, 2) := by decide +kernel
theorem dX4_runs_31 : decode cX4_runs 31 = .ok (.iaload, 1) := by decide +kernel
theorem dX4_runs_32 : decode cX4_runs 32 = .ok (.istore_n 2, 1) := by decide +kernel
theorem dX4_runs_33 : decode cX4_runs 33 = .ok (.aload_n 0, 1) := by decide +kernel
theorem dX4_runs_34 : decode cX4_runs 34 = .ok (.getfield 10, 3) := by decide +kernel
theorem dX4_runs_37 : decode cX4_runs 37 = .ok (.aload_n 0, 1) := by decide +kernel
theorem dX4_runs_38 : decode cX4_runs 38 = .ok (.getfield 26, 3) := by decide +kernel
theorem dX4_runs_41 : decode cX4_runs 41 = .ok (.invokevirtual 186, 3) := by decide +kernel
theorem dX4_runs_44 : decode cX4_runs 44 = .ok (.aload_n 0, 1) := by decide +kernel
theorem dX4_runs_45 : decode cX4_runs 45 = .ok (.getfield 10, 3) := by decide +kernel
theorem dX4_runs_48 : decode cX4_runs 48 = .ok (.getfield 60, 3) := by decide +kernel
theorem dX4_runs_51 : decode cX4_runs 51 = .ok (.bipush 9, 2) := by decide +kernel
theorem dX4_runs_53 : decode cX4_runs 53 = .ok (.iaload, 1) := by decide +kernel
theorem dX4_runs_54 : decode cX4_runs 54 = .ok (.iload_n 2, 1) := by decide +kernel
theorem dX4_runs_55 : decode cX4_runs 55 = .ok (.isub, 1) := by decide +kernel
theorem dX4_runs_56 : decode cX4_runs 56 = .ok (.ireturn, 1) := by decide +kernel
theorem dX4_back_0 : decode cX4_back 0 = .ok (.aload_n 0, 1) := by decide +kernel
theorem dX4_back_1 : decode cX4_back 1 = .ok (.getfield 38, 3) := by decide +kernel
theorem dX4_back_4 : decode cX4_back 4 = .ok (.ifCond .le 19, 3) := by decide +kernel
theorem dX4_back_7 : decode cX4_back 7 = .ok (.aload_n 0, 1) := by decide +kernel
theorem dX4_back_8 : decode cX4_back 8 = .ok (.getfield 34, 3) := by decide +kernel
theorem dX4_back_11 : decode cX4_back 11 = .ok (.ifCond .lt 12, 3) := by decide +kernel
theorem dX4_back_14 : decode cX4_back 14 = .ok (.aload_n 0, 1) := by decide +kernel
theorem dX4_back_15 : decode cX4_back 15 = .ok (.getfield 34, 3) := by decide +kernel
theorem dX4_back_18 : decode cX4_back 18 = .ok (.bipush 6, 2) := by decide +kernel
theorem dX4_back_20 : decode cX4_back 20 = .ok (.if_icmp .lt 10, 3) := by decide +kernel
theorem dX4_back_23 : decode cX4_back 23 = .ok (.aload_n 0, 1) := by decide +kernel
theorem dX4_back_24 : decode cX4_back 24 = .ok (.bipush (-3), 2) := by decide +kernel
theorem dX4_back_26 : decode cX4_back 26 = .ok (.invokevirtual 47, 3) := by decide +kernel
theorem dX4_back_29 : decode cX4_back 29 = .ok (.ireturn, 1) := by decide +kernel
theorem dX4_back_30 : decode cX4_back 30 = .ok (.aload_n 0, 1) := by decide +kernel
theorem dX4_back_31 : decode cX4_back 31 = .ok (.getfield 10, 3) := by decide +kernel
theorem dX4_back_34 : decode cX4_back 34 = .ok (.aload_n 0, 1) := by decide +kernel
theorem dX4_back_35 : decode cX4_back 35 = .ok (.getfield 19, 3) := by decide +kernel
theorem dX4_back_38 : decode cX4_back 38 = .ok (.aload_n 0, 1) := by decide +kernel
theorem dX4_back_39 : decode cX4_back 39 = .ok (.getfield 34, 3) := by decide +kernel
theorem dX4_back_42 : decode cX4_back 42 = .ok (.aaload, 1) := by decide +kernel
theorem dX4_back_43 : decode cX4_back 43 = .ok (.invokevirtual 199, 3) := by decide +kernel
theorem dX4_back_46 : decode cX4_back 46 = .ok (.aload_n 0, 1) := by decide +kernel
theorem dX4_back_47 : decode cX4_back 47 = .ok (.aload_n 0, 1) := by decide +kernel
theorem dX4_back_48 : decode cX4_back 48 = .ok (.getfield 34, 3) := by decide +kernel
theorem dX4_back_51 : decode cX4_back 51 = .ok (.bipush 6, 2) := by decide +kernel
theorem dX4_back_53 : decode cX4_back 53 = .ok (.iadd, 1) := by decide +kernel
theorem dX4_back_54 : decode cX4_back 54 = .ok (.iconst 1, 1) := by decide +kernel
theorem dX4_back_55 : decode cX4_back 55 = .ok (.isub, 1) := by decide +kernel
theorem dX4_back_56 : decode cX4_back 56 = .ok (.bipush 6, 2) := by decide +kernel
theorem dX4_back_58 : decode cX4_back 58 = .ok (.irem, 1) := by decide +kernel
theorem dX4_back_59 : decode cX4_back 59 = .ok (.putfield 34, 3) := by decide +kernel
theorem dX4_back_62 : decode cX4_back 62 = .ok (.aload_n 0, 1) := by decide +kernel
theorem dX4_back_63 : decode cX4_back 63 = .ok (.dup, 1) := by decide +kernel
theorem dX4_back_64 : decode cX4_back 64 = .ok (.getfield 38, 3) := by decide +kernel
theorem dX4_back_67 : decode cX4_back 67 = .ok (.iconst 1, 1) := by decide +kernel
theorem dX4_back_68 : decode cX4_back 68 = .ok (.isub, 1) := by decide +kernel
theorem dX4_back_69 : decode cX4_back 69 = .ok (.putfield 38, 3) := by decide +kernel
theorem dX4_back_72 : decode cX4_back 72 = .ok (.aload_n 0, 1) := by decide +kernel
theorem dX4_back_73 : decode cX4_back 73 = .ok (.getfield 38, 3) := by decide +kernel
theorem dX4_back_76 : decode cX4_back 76 = .ok (.ireturn, 1) := by decide +kernel
theorem dX4_told_0 : decode cX4_told 0 = .ok (.iload_n 1, 1) := by decide +kernel
theorem dX4_told_1 : decode cX4_told 1 = .ok (.ifCond .lt 9, 3) := by decide +kernel
theorem dX4_told_4 : decode cX4_told 4 = .ok (.iload_n 1, 1) := by decide +kernel
theorem dX4_told_5 : decode cX4_told 5 = .ok (.bipush 9, 2) := by decide +kernel
theorem dX4_told_7 : decode cX4_told 7 = .ok (.if_icmp .le 10, 3) := by decide +kernel
theorem dX4_told_10 : decode cX4_told 10 = .ok (.aload_n 0, 1) := by decide +kernel
theorem dX4_told_11 : decode cX4_told 11 = .ok (.bipush (-2), 2) := by decide +kernel
theorem dX4_told_13 : decode cX4_told 13 = .ok (.invokevirtual 47, 3) := by decide +kernel
theorem dX4_told_16 : decode cX4_told 16 = .ok (.ireturn, 1) := by decide +kernel
theorem dX4_told_17 : decode cX4_told 17 = .ok (.iload_n 1, 1) := by decide +kernel
theorem dX4_told_18 : decode cX4_told 18 = .ok (.iconst 3, 1) := by decide +kernel
theorem dX4_told_19 : decode cX4_told 19 = .ok (.if_icmp .ge 10, 3) := by decide +kernel
theorem dX4_told_22 : decode cX4_told 22 = .ok (.aload_n 0, 1) := by decide +kernel
theorem dX4_told_23 : decode cX4_told 23 = .ok (.getfield 30, 3) := by decide +kernel
theorem dX4_told_26 : decode cX4_told 26 = .ok (.iload_n 1, 1) := by decide +kernel
theorem dX4_told_27 : decode cX4_told 27 = .ok (.iaload, 1) := by decide +kernel
theorem dX4_told_28 : decode cX4_told 28 = .ok (.ireturn, 1) := by decide +kernel
theorem dX4_told_29 : decode cX4_told 29 = .ok (.iload_n 1, 1) := by decide +kernel
theorem dX4_told_30 : decode cX4_told 30 = .ok (.iconst 3, 1) := by decide +kernel
theorem dX4_told_31 : decode cX4_told 31 = .ok (.if_icmp .ne 11, 3) := by decide +kernel
theorem dX4_told_34 : decode cX4_told 34 = .ok (.aload_n 0, 1) := by decide +kernel
theorem dX4_told_35 : decode cX4_told 35 = .ok (.getfield 26, 3) := by decide +kernel
theorem dX4_told_38 : decode cX4_told 38 = .ok (.getfield 193, 3) := by decide +kernel
theorem dX4_told_41 : decode cX4_told 41 = .ok (.ireturn, 1) := by decide +kernel
theorem dX4_told_42 : decode cX4_told 42 = .ok (.iload_n 1, 1) := by decide +kernel
theorem dX4_told_43 : decode cX4_told 43 = .ok (.bipush 9, 2) := by decide +kernel
theorem dX4_told_45 : decode cX4_told 45 = .ok (.if_icmp .ne 10, 3) := by decide +kernel
theorem dX4_told_48 : decode cX4_told 48 = .ok (.aload_n 0, 1) := by decide +kernel
theorem dX4_told_49 : decode cX4_told 49 = .ok (.getfield 38, 3) := by decide +kernel
theorem dX4_told_52 : decode cX4_told 52 = .ok (.goto 14, 3) := by decide +kernel
theorem dX4_told_55 : decode cX4_told 55 = .ok (.aload_n 0, 1) := by decide +kernel
theorem dX4_told_56 : decode cX4_told 56 = .ok (.getfield 10, 3) := by decide +kernel
theorem dX4_told_59 : decode cX4_told 59 = .ok (.getfield 54, 3) := by decide +kernel
theorem dX4_told_62 : decode cX4_told 62 = .ok (.iload_n 1, 1) := by decide +kernel
theorem dX4_told_63 : decode cX4_told 63 = .ok (.iconst 4, 1) := by decide +kernel
theorem dX4_told_64 : decode cX4_told 64 = .ok (.isub, 1) := by decide +kernel
theorem dX4_told_65 : decode cX4_told 65 = .ok (.iaload, 1) := by decide +kernel
theorem dX4_told_66 : decode cX4_told 66 = .ok (.ireturn, 1) := by decide +kernel
theorem dX4_digest_0 : decode cX4_digest 0 = .ok (.ldc2_w 203, 3) := by decide +kernel
theorem dX4_digest_3 : decode cX4_digest 3 = .ok (.lstore_n 1, 1) := by decide +kernel
theorem dX4_digest_4 : decode cX4_digest 4 = .ok (.iconst 0, 1) := by decide +kernel
theorem dX4_digest_5 : decode cX4_digest 5 = .ok (.istore_n 3, 1) := by decide +kernel
theorem dX4_digest_6 : decode cX4_digest 6 = .ok (.iload_n 3, 1) := by decide +kernel
theorem dX4_digest_7 : decode cX4_digest 7 = .ok (.bipush 9, 2) := by decide +kernel
theorem dX4_digest_9 : decode cX4_digest 9 = .ok (.if_icmp .gt 22, 3) := by decide +kernel
theorem dX4_digest_12 : decode cX4_digest 12 = .ok (.ldc2_w 205, 3) := by decide +kernel
theorem dX4_digest_15 : decode cX4_digest 15 = .ok (.lload_n 1, 1) := by decide +kernel
theorem dX4_digest_16 : decode cX4_digest 16 = .ok (.lmul, 1) := by decide +kernel
theorem dX4_digest_17 : decode cX4_digest 17 = .ok (.aload_n 0, 1) := by decide +kernel
theorem dX4_digest_18 : decode cX4_digest 18 = .ok (.iload_n 3, 1) := by decide +kernel
theorem dX4_digest_19 : decode cX4_digest 19 = .ok (.invokevirtual 207, 3) := by decide +kernel
theorem dX4_digest_22 : decode cX4_digest 22 = .ok (.i2l, 1) := by decide +kernel
theorem dX4_digest_23 : decode cX4_digest 23 = .ok (.ladd, 1) := by decide +kernel
theorem dX4_digest_24 : decode cX4_digest 24 = .ok (.lstore_n 1, 1) := by decide +kernel
theorem dX4_digest_25 : decode cX4_digest 25 = .ok (.iinc 3 1, 3) := by decide +kernel
theorem dX4_digest_28 : decode cX4_digest 28 = .ok (.goto (-22), 3) := by decide +kernel
theorem dX4_digest_31 : decode cX4_digest 31 = .ok (.iconst 0, 1) := by decide +kernel
theorem dX4_digest_32 : decode cX4_digest 32 = .ok (.istore_n 3, 1) := by decide +kernel
theorem dX4_digest_33 : decode cX4_digest 33 = .ok (.iload_n 3, 1) := by decide +kernel
theorem dX4_digest_34 : decode cX4_digest 34 = .ok (.bipush 10, 2) := by decide +kernel
theorem dX4_digest_36 : decode cX4_digest 36 = .ok (.if_icmp .ge 22, 3) := by decide +kernel
theorem dX4_digest_39 : decode cX4_digest 39 = .ok (.ldc2_w 205, 3) := by decide +kernel
theorem dX4_digest_42 : decode cX4_digest 42 = .ok (.lload_n 1, 1) := by decide +kernel
theorem dX4_digest_43 : decode cX4_digest 43 = .ok (.lmul, 1) := by decide +kernel
theorem dX4_digest_44 : decode cX4_digest 44 = .ok (.aload_n 0, 1) := by decide +kernel
theorem dX4_digest_45 : decode cX4_digest 45 = .ok (.iload_n 3, 1) := by decide +kernel
theorem dX4_digest_46 : decode cX4_digest 46 = .ok (.invokevirtual 210, 3) := by decide +kernel
theorem dX4_digest_49 : decode cX4_digest 49 = .ok (.i2l, 1) := by decide +kernel
theorem dX4_digest_50 : decode cX4_digest 50 = .ok (.ladd, 1) := by decide +kernel
theorem dX4_digest_51 : decode cX4_digest 51 = .ok (.lstore_n 1, 1) := by decide +kernel
theorem dX4_digest_52 : decode cX4_digest 52 = .ok (.iinc 3 1, 3) := by decide +kernel
theorem dX4_digest_55 : decode cX4_digest 55 = .ok (.goto (-22), 3) := by decide +kernel
theorem dX4_digest_58 : decode cX4_digest 58 = .ok (.iconst 0, 1) := by decide +kernel
theorem dX4_digest_59 : decode cX4_digest 59 = .ok (.istore_n 3, 1) := by decide +kernel
theorem dX4_digest_60 : decode cX4_digest 60 = .ok (.iload_n 3, 1) := by decide +kernel
theorem dX4_digest_61 : decode cX4_digest 61 = .ok (.bipush 16, 2) := by decide +kernel
theorem dX4_digest_63 : decode cX4_digest 63 = .ok (.if_icmp .ge 40, 3) := by decide +kernel
theorem dX4_digest_66 : decode cX4_digest 66 = .ok (.iconst 0, 1) := by decide +kernel
theorem dX4_digest_67 : decode cX4_digest 67 = .ok (.istore 4, 2) := by decide +kernel
theorem dX4_digest_69 : decode cX4_digest 69 = .ok (.iload 4, 2) := by decide +kernel
theorem dX4_digest_71 : decode cX4_digest 71 = .ok (.iconst 4, 1) := by decide +kernel
theorem dX4_digest_72 : decode cX4_digest 72 = .ok (.if_icmp .ge 25, 3) := by decide +kernel
theorem dX4_digest_75 : decode cX4_digest 75 = .ok (.ldc2_w 205, 3) := by decide +kernel
theorem dX4_digest_78 : decode cX4_digest 78 = .ok (.lload_n 1, 1) := by decide +kernel
theorem dX4_digest_79 : decode cX4_digest 79 = .ok (.lmul, 1) := by decide +kernel
theorem dX4_digest_80 : decode cX4_digest 80 = .ok (.aload_n 0, 1) := by decide +kernel
theorem dX4_digest_81 : decode cX4_digest 81 = .ok (.iload_n 3, 1) := by decide +kernel
theorem dX4_digest_82 : decode cX4_digest 82 = .ok (.iload 4, 2) := by decide +kernel
theorem dX4_digest_84 : decode cX4_digest 84 = .ok (.iconst 0, 1) := by decide +kernel
theorem dX4_digest_85 : decode cX4_digest 85 = .ok (.invokevirtual 213, 3) := by decide +kernel
theorem dX4_digest_88 : decode cX4_digest 88 = .ok (.i2l, 1) := by decide +kernel
theorem dX4_digest_89 : decode cX4_digest 89 = .ok (.ladd, 1) := by decide +kernel
theorem dX4_digest_90 : decode cX4_digest 90 = .ok (.lstore_n 1, 1) := by decide +kernel
theorem dX4_digest_91 : decode cX4_digest 91 = .ok (.iinc 4 1, 3) := by decide +kernel
theorem dX4_digest_94 : decode cX4_digest 94 = .ok (.goto (-25), 3) := by decide +kernel
theorem dX4_digest_97 : decode cX4_digest 97 = .ok (.iinc 3 1, 3) := by decide +kernel
theorem dX4_digest_100 : decode cX4_digest 100 = .ok (.goto (-40), 3) := by decide +kernel
theorem dX4_digest_103 : decode cX4_digest 103 = .ok (.iconst 0, 1) := by decide +kernel
theorem dX4_digest_104 : decode cX4_digest 104 = .ok (.istore_n 3, 1) := by decide +kernel
theorem dX4_digest_105 : decode cX4_digest 105 = .ok (.iload_n 3, 1) := by decide +kernel
theorem dX4_digest_106 : decode cX4_digest 106 = .ok (.bipush 16, 2) := by decide +kernel
theorem dX4_digest_108 : decode cX4_digest 108 = .ok (.if_icmp .ge 22, 3) := by decide +kernel
theorem dX4_digest_111 : decode cX4_digest 111 = .ok (.ldc2_w 205, 3) := by decide +kernel
theorem dX4_digest_114 : decode cX4_digest 114 = .ok (.lload_n 1, 1) := by decide +kernel
theorem dX4_digest_115 : decode cX4_digest 115 = .ok (.lmul, 1) := by decide +kernel
theorem dX4_digest_116 : decode cX4_digest 116 = .ok (.aload_n 0, 1) := by decide +kernel
theorem dX4_digest_117 : decode cX4_digest 117 = .ok (.iload_n 3, 1) := by decide +kernel
theorem dX4_digest_118 : decode cX4_digest 118 = .ok (.invokevirtual 217, 3) := by decide +kernel
theorem dX4_digest_121 : decode cX4_digest 121 = .ok (.i2l, 1) := by decide +kernel
theorem dX4_digest_122 : decode cX4_digest 122 = .ok (.ladd, 1) := by decide +kernel
theorem dX4_digest_123 : decode cX4_digest 123 = .ok (.lstore_n 1, 1) := by decide +kernel
theorem dX4_digest_124 : decode cX4_digest 124 = .ok (.iinc 3 1, 3) := by decide +kernel
theorem dX4_digest_127 : decode cX4_digest 127 = .ok (.goto (-22), 3) := by decide +kernel
theorem dX4_digest_130 : decode cX4_digest 130 = .ok (.ldc2_w 205, 3) := by decide +kernel
theorem dX4_digest_133 : decode cX4_digest 133 = .ok (.lload_n 1, 1) := by decide +kernel
theorem dX4_digest_134 : decode cX4_digest 134 = .ok (.lmul, 1) := by decide +kernel
theorem dX4_digest_135 : decode cX4_digest 135 = .ok (.aload_n 0, 1) := by decide +kernel
theorem dX4_digest_136 : decode cX4_digest 136 = .ok (.iconst 0, 1) := by decide +kernel
theorem dX4_digest_137 : decode cX4_digest 137 = .ok (.invokevirtual 220, 3) := by decide +kernel
theorem dX4_digest_140 : decode cX4_digest 140 = .ok (.i2l, 1) := by decide +kernel
theorem dX4_digest_141 : decode cX4_digest 141 = .ok (.ladd, 1) := by decide +kernel
theorem dX4_digest_142 : decode cX4_digest 142 = .ok (.lstore_n 1, 1) := by decide +kernel
theorem dX4_digest_143 : decode cX4_digest 143 = .ok (.ldc2_w 205, 3) := by decide +kernel
theorem dX4_digest_146 : decode cX4_digest 146 = .ok (.lload_n 1, 1) := by decide +kernel
theorem dX4_digest_147 : decode cX4_digest 147 = .ok (.lmul, 1) := by decide +kernel
theorem dX4_digest_148 : decode cX4_digest 148 = .ok (.aload_n 0, 1) := by decide +kernel
theorem dX4_digest_149 : decode cX4_digest 149 = .ok (.iconst 1, 1) := by decide +kernel
theorem dX4_digest_150 : decode cX4_digest 150 = .ok (.invokevirtual 220, 3) := by decide +kernel
theorem dX4_digest_153 : decode cX4_digest 153 = .ok (.i2l, 1) := by decide +kernel
theorem dX4_digest_154 : decode cX4_digest 154 = .ok (.ladd, 1) := by decide +kernel
theorem dX4_digest_155 : decode cX4_digest 155 = .ok (.lstore_n 1, 1) := by decide +kernel
theorem dX4_digest_156 : decode cX4_digest 156 = .ok (.ldc2_w 205, 3) := by decide +kernel
theorem dX4_digest_159 : decode cX4_digest 159 = .ok (.lload_n 1, 1) := by decide +kernel
theorem dX4_digest_160 : decode cX4_digest 160 = .ok (.lmul, 1) := by decide +kernel
theorem dX4_digest_161 : decode cX4_digest 161 = .ok (.aload_n 0, 1) := by decide +kernel
theorem dX4_digest_162 : decode cX4_digest 162 = .ok (.invokevirtual 222, 3) := by decide +kernel
theorem dX4_digest_165 : decode cX4_digest 165 = .ok (.ladd, 1) := by decide +kernel
theorem dX4_digest_166 : decode cX4_digest 166 = .ok (.lreturn, 1) := by decide +kernel
theorem dX4_isBox_0 : decode cX4_isBox 0 = .ok (.iload_n 0, 1) := by decide +kernel
theorem dX4_isBox_1 : decode cX4_isBox 1 = .ok (.ifCond .lt 13, 3) := by decide +kernel
theorem dX4_isBox_4 : decode cX4_isBox 4 = .ok (.iload_n 0, 1) := by decide +kernel
theorem dX4_isBox_5 : decode cX4_isBox 5 = .ok (.bipush 16, 2) := by decide +kernel
theorem dX4_isBox_7 : decode cX4_isBox 7 = .ok (.if_icmp .ge 7, 3) := by decide +kernel
theorem dX4_isBox_10 : decode cX4_isBox 10 = .ok (.iconst 1, 1) := by decide +kernel
theorem dX4_isBox_11 : decode cX4_isBox 11 = .ok (.goto 4, 3) := by decide +kernel
theorem dX4_isBox_14 : decode cX4_isBox 14 = .ok (.iconst 0, 1) := by decide +kernel
theorem dX4_isBox_15 : decode cX4_isBox 15 = .ok (.ireturn, 1) := by decide +kernel
theorem dX4_isItem_0 : decode cX4_isItem 0 = .ok (.iload_n 0, 1) := by decide +kernel
theorem dX4_isItem_1 : decode cX4_isItem 1 = .ok (.ifCond .lt 12, 3) := by decide +kernel
theorem dX4_isItem_4 : decode cX4_isItem 4 = .ok (.iload_n 0, 1) := by decide +kernel
theorem dX4_isItem_5 : decode cX4_isItem 5 = .ok (.iconst 4, 1) := by decide +kernel
theorem dX4_isItem_6 : decode cX4_isItem 6 = .ok (.if_icmp .ge 7, 3) := by decide +kernel
theorem dX4_isItem_9 : decode cX4_isItem 9 = .ok (.iconst 1, 1) := by decide +kernel
theorem dX4_isItem_10 : decode cX4_isItem 10 = .ok (.goto 4, 3) := by decide +kernel
theorem dX4_isItem_13 : decode cX4_isItem 13 = .ok (.iconst 0, 1) := by decide +kernel
theorem dX4_isItem_14 : decode cX4_isItem 14 = .ok (.ireturn, 1) := by decide +kernel
theorem dX4_refuse_0 : decode cX4_refuse 0 = .ok (.bipush (-2), 2) := by decide +kernel
theorem dX4_refuse_2 : decode cX4_refuse 2 = .ok (.iload_n 1, 1) := by decide +kernel
theorem dX4_refuse_3 : decode cX4_refuse 3 = .ok (.isub, 1) := by decide +kernel
theorem dX4_refuse_4 : decode cX4_refuse 4 = .ok (.istore_n 2, 1) := by decide +kernel
theorem dX4_refuse_5 : decode cX4_refuse 5 = .ok (.iload_n 2, 1) := by decide +kernel
theorem dX4_refuse_6 : decode cX4_refuse 6 = .ok (.ifCond .lt 22, 3) := by decide +kernel
theorem dX4_refuse_9 : decode cX4_refuse 9 = .ok (.iload_n 2, 1) := by decide +kernel
theorem dX4_refuse_10 : decode cX4_refuse 10 = .ok (.aload_n 0, 1) := by decide +kernel
theorem dX4_refuse_11 : decode cX4_refuse 11 = .ok (.getfield 30, 3) := by decide +kernel
theorem dX4_refuse_14 : decode cX4_refuse 14 = .ok (.arraylength, 1) := by decide +kernel
theorem dX4_refuse_15 : decode cX4_refuse 15 = .ok (.if_icmp .ge 13, 3) := by decide +kernel
theorem dX4_refuse_18 : decode cX4_refuse 18 = .ok (.aload_n 0, 1) := by decide +kernel
theorem dX4_refuse_19 : decode cX4_refuse 19 = .ok (.getfield 30, 3) := by decide +kernel
theorem dX4_refuse_22 : decode cX4_refuse 22 = .ok (.iload_n 2, 1) := by decide +kernel
theorem dX4_refuse_23 : decode cX4_refuse 23 = .ok (.dup2, 1) := by decide +kernel
theorem dX4_refuse_24 : decode cX4_refuse 24 = .ok (.iaload, 1) := by decide +kernel
theorem dX4_refuse_25 : decode cX4_refuse 25 = .ok (.iconst 1, 1) := by decide +kernel
theorem dX4_refuse_26 : decode cX4_refuse 26 = .ok (.iadd, 1) := by decide +kernel
theorem dX4_refuse_27 : decode cX4_refuse 27 = .ok (.iastore, 1) := by decide +kernel
theorem dX4_refuse_28 : decode cX4_refuse 28 = .ok (.iload_n 1, 1) := by decide +kernel
theorem dX4_refuse_29 : decode cX4_refuse 29 = .ok (.ireturn, 1) := by decide +kernel
theorem dX4_keep_0 : decode cX4_keep 0 = .ok (.aload_n 0, 1) := by decide +kernel
theorem dX4_keep_1 : decode cX4_keep 1 = .ok (.aload_n 0, 1) := by decide +kernel
theorem dX4_keep_2 : decode cX4_keep 2 = .ok (.getfield 34, 3) := by decide +kernel
theorem dX4_keep_5 : decode cX4_keep 5 = .ok (.iconst 1, 1) := by decide +kernel
theorem dX4_keep_6 : decode cX4_keep 6 = .ok (.iadd, 1) := by decide +kernel
theorem dX4_keep_7 : decode cX4_keep 7 = .ok (.bipush 6, 2) := by decide +kernel
theorem dX4_keep_9 : decode cX4_keep 9 = .ok (.irem, 1) := by decide +kernel
theorem dX4_keep_10 : decode cX4_keep 10 = .ok (.putfield 34, 3) := by decide +kernel
theorem dX4_keep_13 : decode cX4_keep 13 = .ok (.aload_n 0, 1) := by decide +kernel
theorem dX4_keep_14 : decode cX4_keep 14 = .ok (.getfield 34, 3) := by decide +kernel
theorem dX4_keep_17 : decode cX4_keep 17 = .ok (.ifCond .lt 19, 3) := by decide +kernel
theorem dX4_keep_20 : decode cX4_keep 20 = .ok (.aload_n 0, 1) := by decide +kernel
theorem dX4_keep_21 : decode cX4_keep 21 = .ok (.getfield 19, 3) := by decide +kernel
theorem dX4_keep_24 : decode cX4_keep 24 = .ok (.aload_n 0, 1) := by decide +kernel
theorem dX4_keep_25 : decode cX4_keep 25 = .ok (.getfield 34, 3) := by decide +kernel
theorem dX4_keep_28 : decode cX4_keep 28 = .ok (.aaload, 1) := by decide +kernel
theorem dX4_keep_29 : decode cX4_keep 29 = .ok (.aload_n 0, 1) := by decide +kernel
theorem dX4_keep_30 : decode cX4_keep 30 = .ok (.getfield 10, 3) := by decide +kernel
theorem dX4_keep_33 : decode cX4_keep 33 = .ok (.invokevirtual 199, 3) := by decide +kernel
theorem dX4_keep_36 : decode cX4_keep 36 = .ok (.aload_n 0, 1) := by decide +kernel
theorem dX4_keep_37 : decode cX4_keep 37 = .ok (.getfield 38, 3) := by decide +kernel
theorem dX4_keep_40 : decode cX4_keep 40 = .ok (.bipush 6, 2) := by decide +kernel
theorem dX4_keep_42 : decode cX4_keep 42 = .ok (.if_icmp .ge 13, 3) := by decide +kernel
theorem dX4_keep_45 : decode cX4_keep 45 = .ok (.aload_n 0, 1) := by decide +kernel
theorem dX4_keep_46 : decode cX4_keep 46 = .ok (.dup, 1) := by decide +kernel
theorem dX4_keep_47 : decode cX4_keep 47 = .ok (.getfield 38, 3) := by decide +kernel
theorem dX4_keep_50 : decode cX4_keep 50 = .ok (.iconst 1, 1) := by decide +kernel
theorem dX4_keep_51 : decode cX4_keep 51 = .ok (.iadd, 1) := by decide +kernel
theorem dX4_keep_52 : decode cX4_keep 52 = .ok (.putfield 38, 3) := by decide +kernel
theorem dX4_keep_55 : decode cX4_keep 55 = .ok (.return_, 1) := by decide +kernel
theorem dX4_floatBits_0 : decode cX4_floatBits 0 = .ok (.fload_n 0, 1) := by decide +kernel
theorem dX4_floatBits_1 : decode cX4_floatBits 1 = .ok (.fconst 0, 1) := by decide +kernel
theorem dX4_floatBits_2 : decode cX4_floatBits 2 = .ok (.fcmp .g, 1) := by decide +kernel
theorem dX4_floatBits_3 : decode cX4_floatBits 3 = .ok (.ifCond .ge 8, 3) := by decide +kernel
theorem dX4_floatBits_6 : decode cX4_floatBits 6 = .ok (.fload_n 0, 1) := by decide +kernel
theorem dX4_floatBits_7 : decode cX4_floatBits 7 = .ok (.fneg, 1) := by decide +kernel
theorem dX4_floatBits_8 : decode cX4_floatBits 8 = .ok (.goto 4, 3) := by decide +kernel
theorem dX4_floatBits_11 : decode cX4_floatBits 11 = .ok (.fload_n 0, 1) := by decide +kernel
theorem dX4_floatBits_12 : decode cX4_floatBits 12 = .ok (.fstore_n 1, 1) := by decide +kernel
theorem dX4_floatBits_13 : decode cX4_floatBits 13 = .ok (.bipush 127, 2) := by decide +kernel
theorem dX4_floatBits_15 : decode cX4_floatBits 15 = .ok (.istore_n 2, 1) := by decide +kernel
theorem dX4_floatBits_16 : decode cX4_floatBits 16 = .ok (.iconst 0, 1) := by decide +kernel
theorem dX4_floatBits_17 : decode cX4_floatBits 17 = .ok (.istore_n 3, 1) := by decide +kernel
theorem dX4_floatBits_18 : decode cX4_floatBits 18 = .ok (.iload_n 3, 1) := by decide +kernel
theorem dX4_floatBits_19 : decode cX4_floatBits 19 = .ok (.sipush 300, 3) := by decide +kernel
theorem dX4_floatBits_22 : decode cX4_floatBits 22 = .ok (.if_icmp .ge 23, 3) := by decide +kernel
theorem dX4_floatBits_25 : decode cX4_floatBits 25 = .ok (.fload_n 1, 1) := by decide +kernel
theorem dX4_floatBits_26 : decode cX4_floatBits 26 = .ok (.fconst 2, 1) := by decide +kernel
theorem dX4_floatBits_27 : decode cX4_floatBits 27 = .ok (.fcmp .l, 1) := by decide +kernel
theorem dX4_floatBits_28 : decode cX4_floatBits 28 = .ok (.ifCond .lt 17, 3) := by decide +kernel
theorem dX4_floatBits_31 : decode cX4_floatBits 31 = .ok (.fload_n 1, 1) := by decide +kernel
theorem dX4_floatBits_32 : decode cX4_floatBits 32 = .ok (.ldc 226, 2) := by decide +kernel
theorem dX4_floatBits_34 : decode cX4_floatBits 34 = .ok (.fmul, 1) := by decide +kernel
theorem dX4_floatBits_35 : decode cX4_floatBits 35 = .ok (.fstore_n 1, 1) := by decide +kernel
theorem dX4_floatBits_36 : decode cX4_floatBits 36 = .ok (.iinc 2 1, 3) := by decide +kernel
theorem dX4_floatBits_39 : decode cX4_floatBits 39 = .ok (.iinc 3 1, 3) := by decide +kernel
theorem dX4_floatBits_42 : decode cX4_floatBits 42 = .ok (.goto (-24), 3) := by decide +kernel
theorem dX4_floatBits_45 : decode cX4_floatBits 45 = .ok (.iconst 0, 1) := by decide +kernel
theorem dX4_floatBits_46 : decode cX4_floatBits 46 = .ok (.istore_n 3, 1) := by decide +kernel
theorem dX4_floatBits_47 : decode cX4_floatBits 47 = .ok (.iload_n 3, 1) := by decide +kernel
theorem dX4_floatBits_48 : decode cX4_floatBits 48 = .ok (.sipush 300, 3) := by decide +kernel
theorem dX4_floatBits_51 : decode cX4_floatBits 51 = .ok (.if_icmp .ge 33, 3) := by decide +kernel
theorem dX4_floatBits_54 : decode cX4_floatBits 54 = .ok (.fload_n 1, 1) := by decide +kernel
theorem dX4_floatBits_55 : decode cX4_floatBits 55 = .ok (.fconst 0, 1) := by decide +kernel
theorem dX4_floatBits_56 : decode cX4_floatBits 56 = .ok (.fcmp .l, 1) := by decide +kernel
theorem dX4_floatBits_57 : decode cX4_floatBits 57 = .ok (.ifCond .le 27, 3) := by decide +kernel
theorem dX4_floatBits_60 : decode cX4_floatBits 60 = .ok (.fload_n 1, 1) := by decide +kernel
theorem dX4_floatBits_61 : decode cX4_floatBits 61 = .ok (.fconst 1, 1) := by decide +kernel
theorem dX4_floatBits_62 : decode cX4_floatBits 62 = .ok (.fcmp .g, 1) := by decide +kernel
theorem dX4_floatBits_63 : decode cX4_floatBits 63 = .ok (.ifCond .ge 21, 3) := by decide +kernel
theorem dX4_floatBits_66 : decode cX4_floatBits 66 = .ok (.iload_n 2, 1) := by decide +kernel
theorem dX4_floatBits_67 : decode cX4_floatBits 67 = .ok (.iconst 1, 1) := by decide +kernel
theorem dX4_floatBits_68 : decode cX4_floatBits 68 = .ok (.if_icmp .le 16, 3) := by decide +kernel
theorem dX4_floatBits_71 : decode cX4_floatBits 71 = .ok (.fload_n 1, 1) := by decide +kernel
theorem dX4_floatBits_72 : decode cX4_floatBits 72 = .ok (.fconst 2, 1) := by decide +kernel
theorem dX4_floatBits_73 : decode cX4_floatBits 73 = .ok (.fmul, 1) := by decide +kernel
theorem dX4_floatBits_74 : decode cX4_floatBits 74 = .ok (.fstore_n 1, 1) := by decide +kernel
theorem dX4_floatBits_75 : decode cX4_floatBits 75 = .ok (.iinc 2 (-1), 3) := by decide +kernel
theorem dX4_floatBits_78 : decode cX4_floatBits 78 = .ok (.iinc 3 1, 3) := by decide +kernel
theorem dX4_floatBits_81 : decode cX4_floatBits 81 = .ok (.goto (-34), 3) := by decide +kernel
theorem dX4_floatBits_84 : decode cX4_floatBits 84 = .ok (.fload_n 1, 1) := by decide +kernel
theorem dX4_floatBits_85 : decode cX4_floatBits 85 = .ok (.fconst 1, 1) := by decide +kernel
theorem dX4_floatBits_86 : decode cX4_floatBits 86 = .ok (.fcmp .g, 1) := by decide +kernel
theorem dX4_floatBits_87 : decode cX4_floatBits 87 = .ok (.ifCond .ge 11, 3) := by decide +kernel
theorem dX4_floatBits_90 : decode cX4_floatBits 90 = .ok (.fload_n 1, 1) := by decide +kernel
theorem dX4_floatBits_91 : decode cX4_floatBits 91 = .ok (.ldc 227, 2) := by decide +kernel
theorem dX4_floatBits_93 : decode cX4_floatBits 93 = .ok (.fmul, 1) := by decide +kernel
theorem dX4_floatBits_94 : decode cX4_floatBits 94 = .ok (.f2i, 1) := by decide +kernel
theorem dX4_floatBits_95 : decode cX4_floatBits 95 = .ok (.goto 15, 3) := by decide +kernel
theorem dX4_floatBits_98 : decode cX4_floatBits 98 = .ok (.iload_n 2, 1) := by decide +kernel
theorem dX4_floatBits_99 : decode cX4_floatBits 99 = .ok (.bipush 23, 2) := by decide +kernel
theorem dX4_floatBits_101 : decode cX4_floatBits 101 = .ok (.ishl, 1) := by decide +kernel
theorem dX4_floatBits_102 : decode cX4_floatBits 102 = .ok (.fload_n 1, 1) := by decide +kernel
theorem dX4_floatBits_103 : decode cX4_floatBits 103 = .ok (.fconst 1, 1) := by decide +kernel
theorem dX4_floatBits_104 : decode cX4_floatBits 104 = .ok (.fsub, 1) := by decide +kernel
theorem dX4_floatBits_105 : decode cX4_floatBits 105 = .ok (.ldc 227, 2) := by decide +kernel
theorem dX4_floatBits_107 : decode cX4_floatBits 107 = .ok (.fmul, 1) := by decide +kernel
theorem dX4_floatBits_108 : decode cX4_floatBits 108 = .ok (.f2i, 1) := by decide +kernel
theorem dX4_floatBits_109 : decode cX4_floatBits 109 = .ok (.ior, 1) := by decide +kernel
theorem dX4_floatBits_110 : decode cX4_floatBits 110 = .ok (.istore_n 3, 1) := by decide +kernel
theorem dX4_floatBits_111 : decode cX4_floatBits 111 = .ok (.fload_n 0, 1) := by decide +kernel
theorem dX4_floatBits_112 : decode cX4_floatBits 112 = .ok (.fconst 0, 1) := by decide +kernel
theorem dX4_floatBits_113 : decode cX4_floatBits 113 = .ok (.fcmp .g, 1) := by decide +kernel
theorem dX4_floatBits_114 : decode cX4_floatBits 114 = .ok (.ifCond .ge 10, 3) := by decide +kernel
theorem dX4_floatBits_117 : decode cX4_floatBits 117 = .ok (.iload_n 3, 1) := by decide +kernel
theorem dX4_floatBits_118 : decode cX4_floatBits 118 = .ok (.ldc 228, 2) := by decide +kernel
theorem dX4_floatBits_120 : decode cX4_floatBits 120 = .ok (.ior, 1) := by decide +kernel
theorem dX4_floatBits_121 : decode cX4_floatBits 121 = .ok (.goto 4, 3) := by decide +kernel
theorem dX4_floatBits_124 : decode cX4_floatBits 124 = .ok (.iload_n 3, 1) := by decide +kernel
theorem dX4_floatBits_125 : decode cX4_floatBits 125 = .ok (.ireturn, 1) := by decide +kernel
theorem dX4_doubleBits_0 : decode cX4_doubleBits 0 = .ok (.dload_n 0, 1) := by decide +kernel
theorem dX4_doubleBits_1 : decode cX4_doubleBits 1 = .ok (.dconst 0, 1) := by decide +kernel
theorem dX4_doubleBits_2 : decode cX4_doubleBits 2 = .ok (.dcmp .g, 1) := by decide +kernel
theorem dX4_doubleBits_3 : decode cX4_doubleBits 3 = .ok (.ifCond .ge 8, 3) := by decide +kernel
theorem dX4_doubleBits_6 : decode cX4_doubleBits 6 = .ok (.dload_n 0, 1) := by decide +kernel
theorem dX4_doubleBits_7 : decode cX4_doubleBits 7 = .ok (.dneg, 1) := by decide +kernel
theorem dX4_doubleBits_8 : decode cX4_doubleBits 8 = .ok (.goto 4, 3) := by decide +kernel
theorem dX4_doubleBits_11 : decode cX4_doubleBits 11 = .ok (.dload_n 0, 1) := by decide +kernel
theorem dX4_doubleBits_12 : decode cX4_doubleBits 12 = .ok (.dstore_n 2, 1) := by decide +kernel
theorem dX4_doubleBits_13 : decode cX4_doubleBits 13 = .ok (.ldc2_w 229, 3) := by decide +kernel
theorem dX4_doubleBits_16 : decode cX4_doubleBits 16 = .ok (.lstore 4, 2) := by decide +kernel
theorem dX4_doubleBits_18 : decode cX4_doubleBits 18 = .ok (.iconst 0, 1) := by decide +kernel
theorem dX4_doubleBits_19 : decode cX4_doubleBits 19 = .ok (.istore 6, 2) := by decide +kernel
theorem dX4_doubleBits_21 : decode cX4_doubleBits 21 = .ok (.iload 6, 2) := by decide +kernel
theorem dX4_doubleBits_23 : decode cX4_doubleBits 23 = .ok (.sipush 1100, 3) := by decide +kernel
theorem dX4_doubleBits_26 : decode cX4_doubleBits 26 = .ok (.if_icmp .ge 29, 3) := by decide +kernel
theorem dX4_doubleBits_29 : decode cX4_doubleBits 29 = .ok (.dload_n 2, 1) := by decide +kernel
theorem dX4_doubleBits_30 : decode cX4_doubleBits 30 = .ok (.ldc2_w 231, 3) := by decide +kernel
theorem dX4_doubleBits_33 : decode cX4_doubleBits 33 = .ok (.dcmp .l, 1) := by decide +kernel
theorem dX4_doubleBits_34 : decode cX4_doubleBits 34 = .ok (.ifCond .lt 21, 3) := by decide +kernel
theorem dX4_doubleBits_37 : decode cX4_doubleBits 37 = .ok (.dload_n 2, 1) := by decide +kernel
theorem dX4_doubleBits_38 : decode cX4_doubleBits 38 = .ok (.ldc2_w 233, 3) := by decide +kernel
theorem dX4_doubleBits_41 : decode cX4_doubleBits 41 = .ok (.dmul, 1) := by decide +kernel
theorem dX4_doubleBits_42 : decode cX4_doubleBits 42 = .ok (.dstore_n 2, 1) := by decide +kernel
theorem dX4_doubleBits_43 : decode cX4_doubleBits 43 = .ok (.lload 4, 2) := by decide +kernel
theorem dX4_doubleBits_45 : decode cX4_doubleBits 45 = .ok (.lconst 1, 1) := by decide +kernel
theorem dX4_doubleBits_46 : decode cX4_doubleBits 46 = .ok (.ladd, 1) := by decide +kernel
theorem dX4_doubleBits_47 : decode cX4_doubleBits 47 = .ok (.lstore 4, 2) := by decide +kernel
theorem dX4_doubleBits_49 : decode cX4_doubleBits 49 = .ok (.iinc 6 1, 3) := by decide +kernel
theorem dX4_doubleBits_52 : decode cX4_doubleBits 52 = .ok (.goto (-31), 3) := by decide +kernel
theorem dX4_doubleBits_55 : decode cX4_doubleBits 55 = .ok (.iconst 0, 1) := by decide +kernel
theorem dX4_doubleBits_56 : decode cX4_doubleBits 56 = .ok (.istore 6, 2) := by decide +kernel
theorem dX4_doubleBits_58 : decode cX4_doubleBits 58 = .ok (.iload 6, 2) := by decide +kernel
theorem dX4_doubleBits_60 : decode cX4_doubleBits 60 = .ok (.sipush 1100, 3) := by decide +kernel
theorem dX4_doubleBits_63 : decode cX4_doubleBits 63 = .ok (.if_icmp .ge 40, 3) := by decide +kernel
theorem dX4_doubleBits_66 : decode cX4_doubleBits 66 = .ok (.dload_n 2, 1) := by decide +kernel
theorem dX4_doubleBits_67 : decode cX4_doubleBits 67 = .ok (.dconst 0, 1) := by decide +kernel
theorem dX4_doubleBits_68 : decode cX4_doubleBits 68 = .ok (.dcmp .l, 1) := by decide +kernel
theorem dX4_doubleBits_69 : decode cX4_doubleBits 69 = .ok (.ifCond .le 34, 3) := by decide +kernel
theorem dX4_doubleBits_72 : decode cX4_doubleBits 72 = .ok (.dload_n 2, 1) := by decide +kernel
theorem dX4_doubleBits_73 : decode cX4_doubleBits 73 = .ok (.dconst 1, 1) := by decide +kernel
theorem dX4_doubleBits_74 : decode cX4_doubleBits 74 = .ok (.dcmp .g, 1) := by decide +kernel
theorem dX4_doubleBits_75 : decode cX4_doubleBits 75 = .ok (.ifCond .ge 28, 3) := by decide +kernel
theorem dX4_doubleBits_78 : decode cX4_doubleBits 78 = .ok (.lload 4, 2) := by decide +kernel
theorem dX4_doubleBits_80 : decode cX4_doubleBits 80 = .ok (.lconst 1, 1) := by decide +kernel
theorem dX4_doubleBits_81 : decode cX4_doubleBits 81 = .ok (.lcmp, 1) := by decide +kernel
theorem dX4_doubleBits_82 : decode cX4_doubleBits 82 = .ok (.ifCond .le 21, 3) := by decide +kernel
theorem dX4_doubleBits_85 : decode cX4_doubleBits 85 = .ok (.dload_n 2, 1) := by decide +kernel
theorem dX4_doubleBits_86 : decode cX4_doubleBits 86 = .ok (.ldc2_w 231, 3) := by decide +kernel
theorem dX4_doubleBits_89 : decode cX4_doubleBits 89 = .ok (.dmul, 1) := by decide +kernel
theorem dX4_doubleBits_90 : decode cX4_doubleBits 90 = .ok (.dstore_n 2, 1) := by decide +kernel
theorem dX4_doubleBits_91 : decode cX4_doubleBits 91 = .ok (.lload 4, 2) := by decide +kernel
theorem dX4_doubleBits_93 : decode cX4_doubleBits 93 = .ok (.lconst 1, 1) := by decide +kernel
theorem dX4_doubleBits_94 : decode cX4_doubleBits 94 = .ok (.lsub, 1) := by decide +kernel
theorem dX4_doubleBits_95 : decode cX4_doubleBits 95 = .ok (.lstore 4, 2) := by decide +kernel
theorem dX4_doubleBits_97 : decode cX4_doubleBits 97 = .ok (.iinc 6 1, 3) := by decide +kernel
theorem dX4_doubleBits_100 : decode cX4_doubleBits 100 = .ok (.goto (-42), 3) := by decide +kernel
theorem dX4_doubleBits_103 : decode cX4_doubleBits 103 = .ok (.dload_n 2, 1) := by decide +kernel
theorem dX4_doubleBits_104 : decode cX4_doubleBits 104 = .ok (.dconst 1, 1) := by decide +kernel
theorem dX4_doubleBits_105 : decode cX4_doubleBits 105 = .ok (.dcmp .g, 1) := by decide +kernel
theorem dX4_doubleBits_106 : decode cX4_doubleBits 106 = .ok (.ifCond .ge 12, 3) := by decide +kernel
theorem dX4_doubleBits_109 : decode cX4_doubleBits 109 = .ok (.dload_n 2, 1) := by decide +kernel
theorem dX4_doubleBits_110 : decode cX4_doubleBits 110 = .ok (.ldc2_w 235, 3) := by decide +kernel
theorem dX4_doubleBits_113 : decode cX4_doubleBits 113 = .ok (.dmul, 1) := by decide +kernel
theorem dX4_doubleBits_114 : decode cX4_doubleBits 114 = .ok (.d2l, 1) := by decide +kernel
theorem dX4_doubleBits_115 : decode cX4_doubleBits 115 = .ok (.goto 17, 3) := by decide +kernel
theorem dX4_doubleBits_118 : decode cX4_doubleBits 118 = .ok (.lload 4, 2) := by decide +kernel
theorem dX4_doubleBits_120 : decode cX4_doubleBits 120 = .ok (.bipush 52, 2) := by decide +kernel
theorem dX4_doubleBits_122 : decode cX4_doubleBits 122 = .ok (.lshl, 1) := by decide +kernel
theorem dX4_doubleBits_123 : decode cX4_doubleBits 123 = .ok (.dload_n 2, 1) := by decide +kernel
theorem dX4_doubleBits_124 : decode cX4_doubleBits 124 = .ok (.dconst 1, 1) := by decide +kernel
theorem dX4_doubleBits_125 : decode cX4_doubleBits 125 = .ok (.dsub, 1) := by decide +kernel
theorem dX4_doubleBits_126 : decode cX4_doubleBits 126 = .ok (.ldc2_w 235, 3) := by decide +kernel
theorem dX4_doubleBits_129 : decode cX4_doubleBits 129 = .ok (.dmul, 1) := by decide +kernel
theorem dX4_doubleBits_130 : decode cX4_doubleBits 130 = .ok (.d2l, 1) := by decide +kernel
theorem dX4_doubleBits_131 : decode cX4_doubleBits 131 = .ok (.lor, 1) := by decide +kernel
theorem dX4_doubleBits_132 : decode cX4_doubleBits 132 = .ok (.lstore 6, 2) := by decide +kernel
theorem dX4_doubleBits_134 : decode cX4_doubleBits 134 = .ok (.dload_n 0, 1) := by decide +kernel
theorem dX4_doubleBits_135 : decode cX4_doubleBits 135 = .ok (.dconst 0, 1) := by decide +kernel
theorem dX4_doubleBits_136 : decode cX4_doubleBits 136 = .ok (.dcmp .g, 1) := by decide +kernel
theorem dX4_doubleBits_137 : decode cX4_doubleBits 137 = .ok (.ifCond .ge 12, 3) := by decide +kernel
theorem dX4_doubleBits_140 : decode cX4_doubleBits 140 = .ok (.lload 6, 2) := by decide +kernel
theorem dX4_doubleBits_142 : decode cX4_doubleBits 142 = .ok (.ldc2_w 237, 3) := by decide +kernel
theorem dX4_doubleBits_145 : decode cX4_doubleBits 145 = .ok (.lor, 1) := by decide +kernel
theorem dX4_doubleBits_146 : decode cX4_doubleBits 146 = .ok (.goto 5, 3) := by decide +kernel
theorem dX4_doubleBits_149 : decode cX4_doubleBits 149 = .ok (.lload 6, 2) := by decide +kernel
theorem dX4_doubleBits_151 : decode cX4_doubleBits 151 = .ok (.lreturn, 1) := by decide +kernel
theorem dX5_bad_0 : decode cX5_bad 0 = .ok (.aload_n 0, 1) := by decide +kernel
theorem dX5_bad_1 : decode cX5_bad 1 = .ok (.getfield 1, 3) := by decide +kernel
theorem dX5_bad_4 : decode cX5_bad 4 = .ok (.iconst 0, 1) := by decide +kernel
theorem dX5_bad_5 : decode cX5_bad 5 = .ok (.dup2, 1) := by decide +kernel
theorem dX5_bad_6 : decode cX5_bad 6 = .ok (.iaload, 1) := by decide +kernel
theorem dX5_bad_7 : decode cX5_bad 7 = .ok (.iconst 1, 1) := by decide +kernel
theorem dX5_bad_8 : decode cX5_bad 8 = .ok (.iadd, 1) := by decide +kernel
theorem dX5_bad_9 : decode cX5_bad 9 = .ok (.iastore, 1) := by decide +kernel
theorem dX5_bad_10 : decode cX5_bad 10 = .ok (.bipush (-2), 2) := by decide +kernel
theorem dX5_bad_12 : decode cX5_bad 12 = .ok (.ireturn, 1) := by decide +kernel
theorem dX5_in_0 : decode cX5_in 0 = .ok (.iload_n 0, 1) := by decide +kernel
theorem dX5_in_1 : decode cX5_in 1 = .ok (.iload_n 1, 1) := by decide +kernel
theorem dX5_in_2 : decode cX5_in 2 = .ok (.if_icmp .lt 12, 3) := by decide +kernel
theorem dX5_in_5 : decode cX5_in 5 = .ok (.iload_n 0, 1) := by decide +kernel
theorem dX5_in_6 : decode cX5_in 6 = .ok (.iload_n 2, 1) := by decide +kernel
theorem dX5_in_7 : decode cX5_in 7 = .ok (.if_icmp .gt 7, 3) := by decide +kernel
theorem dX5_in_10 : decode cX5_in 10 = .ok (.iconst 1, 1) := by decide +kernel
theorem dX5_in_11 : decode cX5_in 11 = .ok (.goto 4, 3) := by decide +kernel
theorem dX5_in_14 : decode cX5_in 14 = .ok (.iconst 0, 1) := by decide +kernel
theorem dX5_in_15 : decode cX5_in 15 = .ok (.ireturn, 1) := by decide +kernel
theorem dX5_init_0 : decode cX5_init 0 = .ok (.aload_n 0, 1) := by decide +kernel
theorem dX5_init_1 : decode cX5_init 1 = .ok (.invokespecial 7, 3) := by decide +kernel
theorem dX5_init_4 : decode cX5_init 4 = .ok (.aload_n 0, 1) := by decide +kernel
theorem dX5_init_5 : decode cX5_init 5 = .ok (.iconst 3, 1) := by decide +kernel
theorem dX5_init_6 : decode cX5_init 6 = .ok (.newarray .int, 2) := by decide +kernel
theorem dX5_init_8 : decode cX5_init 8 = .ok (.putfield 1, 3) := by decide +kernel
theorem dX5_init_11 : decode cX5_init 11 = .ok (.aload_n 0, 1) := by decide +kernel
theorem dX5_init_12 : decode cX5_init 12 = .ok (.iconst 5, 1) := by decide +kernel
theorem dX5_init_13 : decode cX5_init 13 = .ok (.newarray .int, 2) := by decide +kernel
theorem dX5_init_15 : decode cX5_init 15 = .ok (.putfield 13, 3) := by decide +kernel
theorem dX5_init_18 : decode cX5_init 18 = .ok (.aload_n 0, 1) := by decide +kernel
theorem dX5_init_19 : decode cX5_init 19 = .ok (.bipush 64, 2) := by decide +kernel
theorem dX5_init_21 : decode cX5_init 21 = .ok (.newarray .int, 2) := by decide +kernel
theorem dX5_init_23 : decode cX5_init 23 = .ok (.putfield 16, 3) := by decide +kernel
theorem dX5_init_26 : decode cX5_init 26 = .ok (.aload_n 0, 1) := by decide +kernel
theorem dX5_init_27 : decode cX5_init 27 = .ok (.bipush 64, 2) := by decide +kernel
theorem dX5_init_29 : decode cX5_init 29 = .ok (.newarray .int, 2) := by decide +kernel
theorem dX5_init_31 : decode cX5_init 31 = .ok (.putfield 19, 3) := by decide +kernel
theorem dX5_init_34 : decode cX5_init 34 = .ok (.aload_n 0, 1) := by decide +kernel
theorem dX5_init_35 : decode cX5_init 35 = .ok (.bipush 16, 2) := by decide +kernel
theorem dX5_init_37 : decode cX5_init 37 = .ok (.newarray .int, 2) := by decide +kernel
theorem dX5_init_39 : decode cX5_init 39 = .ok (.putfield 22, 3) := by decide +kernel
theorem dX5_init_42 : decode cX5_init 42 = .ok (.aload_n 0, 1) := by decide +kernel
theorem dX5_init_43 : decode cX5_init 43 = .ok (.bipush 16, 2) := by decide +kernel
theorem dX5_init_45 : decode cX5_init 45 = .ok (.newarray .int, 2) := by decide +kernel
theorem dX5_init_47 : decode cX5_init 47 = .ok (.putfield 25, 3) := by decide +kernel
theorem dX5_init_50 : decode cX5_init 50 = .ok (.aload_n 0, 1) := by decide +kernel
theorem dX5_init_51 : decode cX5_init 51 = .ok (.bipush 16, 2) := by decide +kernel
theorem dX5_init_53 : decode cX5_init 53 = .ok (.newarray .int, 2) := by decide +kernel
theorem dX5_init_55 : decode cX5_init 55 = .ok (.putfield 28, 3) := by decide +kernel
theorem dX5_init_58 : decode cX5_init 58 = .ok (.aload_n 0, 1) := by decide +kernel
theorem dX5_init_59 : decode cX5_init 59 = .ok (.iconst 4, 1) := by decide +kernel
theorem dX5_init_60 : decode cX5_init 60 = .ok (.newarray .int, 2) := by decide +kernel
theorem dX5_init_62 : decode cX5_init 62 = .ok (.putfield 31, 3) := by decide +kernel
theorem dX5_init_65 : decode cX5_init 65 = .ok (.aload_n 0, 1) := by decide +kernel
theorem dX5_init_66 : decode cX5_init 66 = .ok (.bipush 12, 2) := by decide +kernel
theorem dX5_init_68 : decode cX5_init 68 = .ok (.newarray .int, 2) := by decide +kernel
theorem dX5_init_70 : decode cX5_init 70 = .ok (.putfield 34, 3) := by decide +kernel
theorem dX5_init_73 : decode cX5_init 73 = .ok (.aload_n 0, 1) := by decide +kernel
theorem dX5_init_74 : decode cX5_init 74 = .ok (.iconst 4, 1) := by decide +kernel
theorem dX5_init_75 : decode cX5_init 75 = .ok (.newarray .int, 2) := by decide +kernel
theorem dX5_init_77 : decode cX5_init 77 = .ok (.putfield 37, 3) := by decide +kernel
theorem dX5_init_80 : decode cX5_init 80 = .ok (.aload_n 0, 1) := by decide +kernel
theorem dX5_init_81 : decode cX5_init 81 = .ok (.bipush 16, 2) := by decide +kernel
theorem dX5_init_83 : decode cX5_init 83 = .ok (.newarray .int, 2) := by decide +kernel
theorem dX5_init_85 : decode cX5_init 85 = .ok (.putfield 40, 3) := by decide +kernel
theorem dX5_init_88 : decode cX5_init 88 = .ok (.aload_n 0, 1) := by decide +kernel
theorem dX5_init_89 : decode cX5_init 89 = .ok (.bipush 64, 2) := by decide +kernel
theorem dX5_init_91 : decode cX5_init 91 = .ok (.newarray .int, 2) := by decide +kernel
theorem dX5_init_93 : decode cX5_init 93 = .ok (.putfield 43, 3) := by decide +kernel
theorem dX5_init_96 : decode cX5_init 96 = .ok (.aload_n 0, 1) := by decide +kernel
theorem dX5_init_97 : decode cX5_init 97 = .ok (.bipush 64, 2) := by decide +kernel
theorem dX5_init_99 : decode cX5_init 99 = .ok (.newarray .int, 2) := by decide +kernel
theorem dX5_init_101 : decode cX5_init 101 = .ok (.putfield 46, 3) := by decide +kernel
theorem dX5_init_104 : decode cX5_init 104 = .ok (.aload_n 0, 1) := by decide +kernel
theorem dX5_init_105 : decode cX5_init 105 = .ok (.bipush 64, 2) := by decide +kernel
theorem dX5_init_107 : decode cX5_init 107 = .ok (.newarray .int, 2) := by decide +kernel
theorem dX5_init_109 : decode cX5_init 109 = .ok (.putfield 49, 3) := by decide +kernel
theorem dX5_init_112 : decode cX5_init 112 = .ok (.aload_n 0, 1) := by decide +kernel
theorem dX5_init_113 : decode cX5_init 113 = .ok (.bipush 64, 2) := by decide +kernel
theorem dX5_init_115 : decode cX5_init 115 = .ok (.newarray .int, 2) := by decide +kernel
theorem dX5_init_117 : decode cX5_init 117 = .ok (.putfield 52, 3) := by decide +kernel
theorem dX5_init_120 : decode cX5_init 120 = .ok (.aload_n 0, 1) := by decide +kernel
theorem dX5_init_121 : decode cX5_init 121 = .ok (.iconst 3, 1) := by decide +kernel
theorem dX5_init_122 : decode cX5_init 122 = .ok (.newarray .int, 2) := by decide +kernel
theorem dX5_init_124 : decode cX5_init 124 = .ok (.putfield 55, 3) := by decide +kernel
theorem dX5_init_127 : decode cX5_init 127 = .ok (.aload_n 0, 1) := by decide +kernel
theorem dX5_init_128 : decode cX5_init 128 = .ok (.bipush 10, 2) := by decide +kernel
theorem dX5_init_130 : decode cX5_init 130 = .ok (.newarray .int, 2) := by decide +kernel
theorem dX5_init_132 : decode cX5_init 132 = .ok (.putfield 58, 3) := by decide +kernel
theorem dX5_init_135 : decode cX5_init 135 = .ok (.aload_n 0, 1) := by decide +kernel
theorem dX5_init_136 : decode cX5_init 136 = .ok (.sipush 200, 3) := by decide +kernel
theorem dX5_init_139 : decode cX5_init 139 = .ok (.newarray .int, 2) := by decide +kernel
theorem dX5_init_141 : decode cX5_init 141 = .ok (.putfield 61, 3) := by decide +kernel
theorem dX5_init_144 : decode cX5_init 144 = .ok (.aload_n 0, 1) := by decide +kernel
theorem dX5_init_145 : decode cX5_init 145 = .ok (.sipush 200, 3) := by decide +kernel
theorem dX5_init_148 : decode cX5_init 148 = .ok (.newarray .int, 2) := by decide +kernel
theorem dX5_init_150 : decode cX5_init 150 = .ok (.putfield 64, 3) := by decide +kernel
theorem dX5_init_153 : decode cX5_init 153 = .ok (.aload_n 0, 1) := by decide +kernel
theorem dX5_init_154 : decode cX5_init 154 = .ok (.sipush 200, 3) := by decide +kernel
theorem dX5_init_157 : decode cX5_init 157 = .ok (.newarray .int, 2) := by decide +kernel
theorem dX5_init_159 : decode cX5_init 159 = .ok (.putfield 67, 3) := by decide +kernel
theorem dX5_init_162 : decode cX5_init 162 = .ok (.aload_n 0, 1) := by decide +kernel
theorem dX5_init_163 : decode cX5_init 163 = .ok (.sipush 9100, 3) := by decide +kernel
theorem dX5_init_166 : decode cX5_init 166 = .ok (.newarray .int, 2) := by decide +kernel
theorem dX5_init_168 : decode cX5_init 168 = .ok (.putfield 70, 3) := by decide +kernel
theorem dX5_init_171 : decode cX5_init 171 = .ok (.aload_n 0, 1) := by decide +kernel
theorem dX5_init_172 : decode cX5_init 172 = .ok (.bipush 7, 2) := by decide +kernel
theorem dX5_init_174 : decode cX5_init 174 = .ok (.newarray .float, 2) := by decide +kernel
theorem dX5_init_176 : decode cX5_init 176 = .ok (.putfield 73, 3) := by decide +kernel
theorem dX5_init_179 : decode cX5_init 179 = .ok (.aload_n 0, 1) := by decide +kernel
theorem dX5_init_180 : decode cX5_init 180 = .ok (.bipush 7, 2) := by decide +kernel
theorem dX5_init_182 : decode cX5_init 182 = .ok (.newarray .long, 2) := by decide +kernel
theorem dX5_init_184 : decode cX5_init 184 = .ok (.putfield 77, 3) := by decide +kernel
theorem dX5_init_187 : decode cX5_init 187 = .ok (.aload_n 0, 1) := by decide +kernel
theorem dX5_init_188 : decode cX5_init 188 = .ok (.bipush 7, 2) := by decide +kernel
theorem dX5_init_190 : decode cX5_init 190 = .ok (.newarray .long, 2) := by decide +kernel
theorem dX5_init_192 : decode cX5_init 192 = .ok (.putfield 81, 3) := by decide +kernel
theorem dX5_init_195 : decode cX5_init 195 = .ok (.aload_n 0, 1) := by decide +kernel
theorem dX5_init_196 : decode cX5_init 196 = .ok (.bipush 120, 2) := by decide +kernel
theorem dX5_init_198 : decode cX5_init 198 = .ok (.newarray .int, 2) := by decide +kernel
theorem dX5_init_200 : decode cX5_init 200 = .ok (.putfield 84, 3) := by decide +kernel
theorem dX5_init_203 : decode cX5_init 203 = .ok (.aload_n 0, 1) := by decide +kernel
theorem dX5_init_204 : decode cX5_init 204 = .ok (.getfield 13, 3) := by decide +kernel
theorem dX5_init_207 : decode cX5_init 207 = .ok (.iconst 0, 1) := by decide +kernel
theorem dX5_init_208 : decode cX5_init 208 = .ok (.iconst 2, 1) := by decide +kernel
theorem dX5_init_209 : decode cX5_init 209 = .ok (.iastore, 1) := by decide +kernel
theorem dX5_init_210 : decode cX5_init 210 = .ok (.aload_n 0, 1) := by decide +kernel
theorem dX5_init_211 : decode cX5_init 211 = .ok (.getfield 13, 3) := by decide +kernel
theorem dX5_init_214 : decode cX5_init 214 = .ok (.iconst 1, 1) := by decide +kernel
theorem dX5_init_215 : decode cX5_init 215 = .ok (.iconst 1, 1) := by decide +kernel
theorem dX5_init_216 : decode cX5_init 216 = .ok (.iastore, 1) := by decide +kernel
theorem dX5_init_217 : decode cX5_init 217 = .ok (.aload_n 0, 1) := by decide +kernel
theorem dX5_init_218 : decode cX5_init 218 = .ok (.getfield 13, 3) := by decide +kernel
theorem dX5_init_221 : decode cX5_init 221 = .ok (.iconst 2, 1) := by decide +kernel
theorem dX5_init_222 : decode cX5_init 222 = .ok (.iconst 2, 1) := by decide +kernel
theorem dX5_init_223 : decode cX5_init 223 = .ok (.iastore, 1) := by decide +kernel
theorem dX5_init_224 : decode cX5_init 224 = .ok (.aload_n 0, 1) := by decide +kernel
theorem dX5_init_225 : decode cX5_init 225 = .ok (.getfield 13, 3) := by decide +kernel
theorem dX5_init_228 : decode cX5_init 228 = .ok (.iconst 3, 1) := by decide +kernel
theorem dX5_init_229 : decode cX5_init 229 = .ok (.iconst 2, 1) := by decide +kernel
theorem dX5_init_230 : decode cX5_init 230 = .ok (.iastore, 1) := by decide +kernel
theorem dX5_init_231 : decode cX5_init 231 = .ok (.aload_n 0, 1) := by decide +kernel
theorem dX5_init_232 : decode cX5_init 232 = .ok (.getfield 13, 3) := by decide +kernel
theorem dX5_init_235 : decode cX5_init 235 = .ok (.iconst 4, 1) := by decide +kernel
theorem dX5_init_236 : decode cX5_init 236 = .ok (.bipush 6, 2) := by decide +kernel
theorem dX5_init_238 : decode cX5_init 238 = .ok (.iastore, 1) := by decide +kernel
theorem dX5_init_239 : decode cX5_init 239 = .ok (.aload_n 0, 1) := by decide +kernel
theorem dX5_init_240 : decode cX5_init 240 = .ok (.invokevirtual 87, 3) := by decide +kernel
theorem dX5_init_243 : decode cX5_init 243 = .ok (.return_, 1) := by decide +kernel
theorem dX5_begins_0 : decode cX5_begins 0 = .ok (.iconst 0, 1) := by decide +kernel
theorem dX5_begins_1 : decode cX5_begins 1 = .ok (.istore_n 1, 1) := by decide +kernel
theorem dX5_begins_2 : decode cX5_begins 2 = .ok (.iload_n 1, 1) := by decide +kernel
theorem dX5_begins_3 : decode cX5_begins 3 = .ok (.bipush 64, 2) := by decide +kernel
theorem dX5_begins_5 : decode cX5_begins 5 = .ok (.if_icmp .ge 24, 3) := by decide +kernel
theorem dX5_begins_8 : decode cX5_begins 8 = .ok (.aload_n 0, 1) := by decide +kernel
theorem dX5_begins_9 : decode cX5_begins 9 = .ok (.getfield 16, 3) := by decide +kernel
theorem dX5_begins_12 : decode cX5_begins 12 = .ok (.iload_n 1, 1) := by decide +kernel
theorem dX5_begins_13 : decode cX5_begins 13 = .ok (.iconst 5, 1) := by decide +kernel
theorem dX5_begins_14 : decode cX5_begins 14 = .ok (.iload_n 1, 1) := by decide +kernel
theorem dX5_begins_15 : decode cX5_begins 15 = .ok (.iconst 4, 1) := by decide +kernel
theorem dX5_begins_16 : decode cX5_begins 16 = .ok (.idiv, 1) := by decide +kernel
theorem dX5_begins_17 : decode cX5_begins 17 = .ok (.imul, 1) := by decide +kernel
theorem dX5_begins_18 : decode cX5_begins 18 = .ok (.iload_n 1, 1) := by decide +kernel
theorem dX5_begins_19 : decode cX5_begins 19 = .ok (.iconst 4, 1) := by decide +kernel
theorem dX5_begins_20 : decode cX5_begins 20 = .ok (.irem, 1) := by decide +kernel
theorem dX5_begins_21 : decode cX5_begins 21 = .ok (.iadd, 1) := by decide +kernel
theorem dX5_begins_22 : decode cX5_begins 22 = .ok (.iastore, 1) := by decide +kernel
theorem dX5_begins_23 : decode cX5_begins 23 = .ok (.iinc 1 1, 3) := by decide +kernel
theorem dX5_begins_26 : decode cX5_begins 26 = .ok (.goto (-24), 3) := by decide +kernel
theorem dX5_begins_29 : decode cX5_begins 29 = .ok (.iconst 0, 1) := by decide +kernel
theorem dX5_begins_30 : decode cX5_begins 30 = .ok (.istore_n 1, 1) := by decide +kernel
theorem dX5_begins_31 : decode cX5_begins 31 = .ok (.iload_n 1, 1) := by decide +kernel
theorem dX5_begins_32 : decode cX5_begins 32 = .ok (.bipush 16, 2) := by decide +kernel
theorem dX5_begins_34 : decode cX5_begins 34 = .ok (.if_icmp .ge 30, 3) := by decide +kernel
theorem dX5_begins_37 : decode cX5_begins 37 = .ok (.aload_n 0, 1) := by decide +kernel
theorem dX5_begins_38 : decode cX5_begins 38 = .ok (.getfield 25, 3) := by decide +kernel
theorem dX5_begins_41 : decode cX5_begins 41 = .ok (.iload_n 1, 1) := by decide +kernel
theorem dX5_begins_42 : decode cX5_begins 42 = .ok (.iconst 0, 1) := by decide +kernel
theorem dX5_begins_43 : decode cX5_begins 43 = .ok (.iastore, 1) := by decide +kernel
theorem dX5_begins_44 : decode cX5_begins 44 = .ok (.aload_n 0, 1) := by decide +kernel
theorem dX5_begins_45 : decode cX5_begins 45 = .ok (.getfield 22, 3) := by decide +kernel
theorem dX5_begins_48 : decode cX5_begins 48 = .ok (.iload_n 1, 1) := by decide +kernel
theorem dX5_begins_49 : decode cX5_begins 49 = .ok (.iconst 0, 1) := by decide +kernel
theorem dX5_begins_50 : decode cX5_begins 50 = .ok (.iastore, 1) := by decide +kernel
theorem dX5_begins_51 : decode cX5_begins 51 = .ok (.aload_n 0, 1) := by decide +kernel
theorem dX5_begins_52 : decode cX5_begins 52 = .ok (.getfield 40, 3) := by decide +kernel
theorem dX5_begins_55 : decode cX5_begins 55 = .ok (.iload_n 1, 1) := by decide +kernel
theorem dX5_begins_56 : decode cX5_begins 56 = .ok (.iconst 0, 1) := by decide +kernel
theorem dX5_begins_57 : decode cX5_begins 57 = .ok (.iastore, 1) := by decide +kernel
theorem dX5_begins_58 : decode cX5_begins 58 = .ok (.iinc 1 1, 3) := by decide +kernel
theorem dX5_begins_61 : decode cX5_begins 61 = .ok (.goto (-30), 3) := by decide +kernel
theorem dX5_begins_64 : decode cX5_begins 64 = .ok (.iconst 0, 1) := by decide +kernel
theorem dX5_begins_65 : decode cX5_begins 65 = .ok (.istore_n 1, 1) := by decide +kernel
theorem dX5_begins_66 : decode cX5_begins 66 = .ok (.iload_n 1, 1) := by decide +kernel
theorem dX5_begins_67 : decode cX5_begins 67 = .ok (.iconst 4, 1) := by decide +kernel
theorem dX5_begins_68 : decode cX5_begins 68 = .ok (.if_icmp .ge 16, 3) := by decide +kernel
theorem dX5_begins_71 : decode cX5_begins 71 = .ok (.aload_n 0, 1) := by decide +kernel
theorem dX5_begins_72 : decode cX5_begins 72 = .ok (.getfield 31, 3) := by decide +kernel
theorem dX5_begins_75 : decode cX5_begins 75 = .ok (.iload_n 1, 1) := by decide +kernel
theorem dX5_begins_76 : decode cX5_begins 76 = .ok (.iconst 0, 1) := by decide +kernel
theorem dX5_begins_77 : decode cX5_begins 77 = .ok (.iastore, 1) := by decide +kernel
theorem dX5_begins_78 : decode cX5_begins 78 = .ok (.iinc 1 1, 3) := by decide +kernel
theorem dX5_begins_81 : decode cX5_begins 81 = .ok (.goto (-15), 3) := by decide +kernel
theorem dX5_begins_84 : decode cX5_begins 84 = .ok (.iconst 0, 1) := by decide +kernel
theorem dX5_begins_85 : decode cX5_begins 85 = .ok (.istore_n 1, 1) := by decide +kernel
theorem dX5_begins_86 : decode cX5_begins 86 = .ok (.iload_n 1, 1) := by decide +kernel
theorem dX5_begins_87 : decode cX5_begins 87 = .ok (.bipush 10, 2) := by decide +kernel
theorem dX5_begins_89 : decode cX5_begins 89 = .ok (.if_icmp .ge 16, 3) := by decide +kernel
theorem dX5_begins_92 : decode cX5_begins 92 = .ok (.aload_n 0, 1) := by decide +kernel
theorem dX5_begins_93 : decode cX5_begins 93 = .ok (.getfield 58, 3) := by decide +kernel
theorem dX5_begins_96 : decode cX5_begins 96 = .ok (.iload_n 1, 1) := by decide +kernel
theorem dX5_begins_97 : decode cX5_begins 97 = .ok (.iconst 0, 1) := by decide +kernel
theorem dX5_begins_98 : decode cX5_begins 98 = .ok (.iastore, 1) := by decide +kernel
theorem dX5_begins_99 : decode cX5_begins 99 = .ok (.iinc 1 1, 3) := by decide +kernel
theorem dX5_begins_102 : decode cX5_begins 102 = .ok (.goto (-16), 3) := by decide +kernel
theorem dX5_begins_105 : decode cX5_begins 105 = .ok (.aload_n 0, 1) := by decide +kernel
theorem dX5_begins_106 : decode cX5_begins 106 = .ok (.getfield 55, 3) := by decide +kernel
theorem dX5_begins_109 : decode cX5_begins 109 = .ok (.iconst 0, 1) := by decide +kernel
theorem dX5_begins_110 : decode cX5_begins 110 = .ok (.iconst 0, 1) := by decide +kernel
theorem dX5_begins_111 : decode cX5_begins 111 = .ok (.iastore, 1) := by decide +kernel
theorem dX5_begins_112 : decode cX5_begins 112 = .ok (.aload_n 0, 1) := by decide +kernel
theorem dX5_begins_113 : decode cX5_begins 113 = .ok (.getfield 55, 3) := by decide +kernel
theorem dX5_begins_116 : decode cX5_begins 116 = .ok (.iconst 1, 1) := by decide +kernel
theorem dX5_begins_117 : decode cX5_begins 117 = .ok (.iconst 0, 1) := by decide +kernel
theorem dX5_begins_118 : decode cX5_begins 118 = .ok (.iastore, 1) := by decide +kernel
theorem dX5_begins_119 : decode cX5_begins 119 = .ok (.aload_n 0, 1) := by decide +kernel
theorem dX5_begins_120 : decode cX5_begins 120 = .ok (.getfield 55, 3) := by decide +kernel
theorem dX5_begins_123 : decode cX5_begins 123 = .ok (.iconst 2, 1) := by decide +kernel
theorem dX5_begins_124 : decode cX5_begins 124 = .ok (.iconst 0, 1) := by decide +kernel
theorem dX5_begins_125 : decode cX5_begins 125 = .ok (.iastore, 1) := by decide +kernel
theorem dX5_begins_126 : decode cX5_begins 126 = .ok (.aload_n 0, 1) := by decide +kernel
theorem dX5_begins_127 : decode cX5_begins 127 = .ok (.fconst 0, 1) := by decide +kernel
theorem dX5_begins_128 : decode cX5_begins 128 = .ok (.putfield 90, 3) := by decide +kernel
theorem dX5_begins_131 : decode cX5_begins 131 = .ok (.aload_n 0, 1) := by decide +kernel
theorem dX5_begins_132 : decode cX5_begins 132 = .ok (.lconst 0, 1) := by decide +kernel
theorem dX5_begins_133 : decode cX5_begins 133 = .ok (.putfield 94, 3) := by decide +kernel
theorem dX5_begins_136 : decode cX5_begins 136 = .ok (.aload_n 0, 1) := by decide +kernel
theorem dX5_begins_137 : decode cX5_begins 137 = .ok (.lconst 0, 1) := by decide +kernel
theorem dX5_begins_138 : decode cX5_begins 138 = .ok (.putfield 98, 3) := by decide +kernel
theorem dX5_begins_141 : decode cX5_begins 141 = .ok (.return_, 1) := by decide +kernel
theorem dX5_isBox_0 : decode cX5_isBox 0 = .ok (.iload_n 0, 1) := by decide +kernel
theorem dX5_isBox_1 : decode cX5_isBox 1 = .ok (.iconst 0, 1) := by decide +kernel
theorem dX5_isBox_2 : decode cX5_isBox 2 = .ok (.bipush 15, 2) := by decide +kernel
theorem dX5_isBox_4 : decode cX5_isBox 4 = .ok (.invokestatic 101, 3) := by decide +kernel
theorem dX5_isBox_7 : decode cX5_isBox 7 = .ok (.ireturn, 1) := by decide +kernel
theorem dX5_lays_0 : decode cX5_lays 0 = .ok (.iconst 0, 1) := by decide +kernel
theorem dX5_lays_1 : decode cX5_lays 1 = .ok (.istore_n 3, 1) := by decide +kernel
theorem dX5_lays_2 : decode cX5_lays 2 = .ok (.iload_n 3, 1) := by decide +kernel
theorem dX5_lays_3 : decode cX5_lays 3 = .ok (.iload_n 2, 1) := by decide +kernel
theorem dX5_lays_4 : decode cX5_lays 4 = .ok (.if_icmp .ge 23, 3) := by decide +kernel
theorem dX5_lays_7 : decode cX5_lays 7 = .ok (.aload_n 0, 1) := by decide +kernel
theorem dX5_lays_8 : decode cX5_lays 8 = .ok (.getfield 70, 3) := by decide +kernel
theorem dX5_lays_11 : decode cX5_lays 11 = .ok (.aload_n 0, 1) := by decide +kernel
theorem dX5_lays_12 : decode cX5_lays 12 = .ok (.getfield 105, 3) := by decide +kernel
theorem dX5_lays_15 : decode cX5_lays 15 = .ok (.iload_n 3, 1) := by decide +kernel
theorem dX5_lays_16 : decode cX5_lays 16 = .ok (.iadd, 1) := by decide +kernel
theorem dX5_lays_17 : decode cX5_lays 17 = .ok (.aload_n 1, 1) := by decide +kernel
theorem dX5_lays_18 : decode cX5_lays 18 = .ok (.iload_n 3, 1) := by decide +kernel
theorem dX5_lays_19 : decode cX5_lays 19 = .ok (.iaload, 1) := by decide +kernel
theorem dX5_lays_20 : decode cX5_lays 20 = .ok (.iastore, 1) := by decide +kernel
theorem dX5_lays_21 : decode cX5_lays 21 = .ok (.iinc 3 1, 3) := by decide +kernel
theorem dX5_lays_24 : decode cX5_lays 24 = .ok (.goto (-22), 3) := by decide +kernel
theorem dX5_lays_27 : decode cX5_lays 27 = .ok (.aload_n 0, 1) := by decide +kernel
theorem dX5_lays_28 : decode cX5_lays 28 = .ok (.dup, 1) := by decide +kernel
theorem dX5_lays_29 : decode cX5_lays 29 = .ok (.getfield 105, 3) := by decide +kernel
theorem dX5_lays_32 : decode cX5_lays 32 = .ok (.iload_n 2, 1) := by decide +kernel
theorem dX5_lays_33 : decode cX5_lays 33 = .ok (.iadd, 1) := by decide +kernel
theorem dX5_lays_34 : decode cX5_lays 34 = .ok (.putfield 105, 3) := by decide +kernel
theorem dX5_lays_37 : decode cX5_lays 37 = .ok (.return_, 1) := by decide +kernel
theorem dX5_takes_0 : decode cX5_takes 0 = .ok (.iconst 0, 1) := by decide +kernel
theorem dX5_takes_1 : decode cX5_takes 1 = .ok (.istore_n 3, 1) := by decide +kernel
theorem dX5_takes_2 : decode cX5_takes 2 = .ok (.iload_n 3, 1) := by decide +kernel
theorem dX5_takes_3 : decode cX5_takes 3 = .ok (.iload_n 2, 1) := by decide +kernel
theorem dX5_takes_4 : decode cX5_takes 4 = .ok (.if_icmp .ge 23, 3) := by decide +kernel
theorem dX5_takes_7 : decode cX5_takes 7 = .ok (.aload_n 1, 1) := by decide +kernel
theorem dX5_takes_8 : decode cX5_takes 8 = .ok (.iload_n 3, 1) := by decide +kernel
theorem dX5_takes_9 : decode cX5_takes 9 = .ok (.aload_n 0, 1) := by decide +kernel
theorem dX5_takes_10 : decode cX5_takes 10 = .ok (.getfield 70, 3) := by decide +kernel
theorem dX5_takes_13 : decode cX5_takes 13 = .ok (.aload_n 0, 1) := by decide +kernel
theorem dX5_takes_14 : decode cX5_takes 14 = .ok (.getfield 105, 3) := by decide +kernel
theorem dX5_takes_17 : decode cX5_takes 17 = .ok (.iload_n 3, 1) := by decide +kernel
theorem dX5_takes_18 : decode cX5_takes 18 = .ok (.iadd, 1) := by decide +kernel
theorem dX5_takes_19 : decode cX5_takes 19 = .ok (.iaload, 1) := by decide +kernel
theorem dX5_takes_20 : decode cX5_takes 20 = .ok (.iastore, 1) := by decide +kernel
theorem dX5_takes_21 : decode cX5_takes 21 = .ok (.iinc 3 1, 3) := by decide +kernel
theorem dX5_takes_24 : decode cX5_takes 24 = .ok (.goto (-22), 3) := by decide +kernel
theorem dX5_takes_27 : decode cX5_takes 27 = .ok (.aload_n 0, 1) := by decide +kernel
theorem dX5_takes_28 : decode cX5_takes 28 = .ok (.dup, 1) := by decide +kernel
theorem dX5_takes_29 : decode cX5_takes 29 = .ok (.getfield 105, 3) := by decide +kernel
theorem dX5_takes_32 : decode cX5_takes 32 = .ok (.iload_n 2, 1) := by decide +kernel
theorem dX5_takes_33 : decode cX5_takes 33 = .ok (.iadd, 1) := by decide +kernel
theorem dX5_takes_34 : decode cX5_takes 34 = .ok (.putfield 105, 3) := by decide +kernel
theorem dX5_takes_37 : decode cX5_takes 37 = .ok (.return_, 1) := by decide +kernel
theorem dX5_keeps_0 : decode cX5_keeps 0 = .ok (.aload_n 0, 1) := by decide +kernel
theorem dX5_keeps_1 : decode cX5_keeps 1 = .ok (.sipush 1300, 3) := by decide +kernel
theorem dX5_keeps_4 : decode cX5_keeps 4 = .ok (.iload_n 1, 1) := by decide +kernel
theorem dX5_keeps_5 : decode cX5_keeps 5 = .ok (.imul, 1) := by decide +kernel
theorem dX5_keeps_6 : decode cX5_keeps 6 = .ok (.putfield 105, 3) := by decide +kernel
theorem dX5_keeps_9 : decode cX5_keeps 9 = .ok (.aload_n 0, 1) := by decide +kernel
theorem dX5_keeps_10 : decode cX5_keeps 10 = .ok (.aload_n 0, 1) := by decide +kernel
theorem dX5_keeps_11 : decode cX5_keeps 11 = .ok (.getfield 13, 3) := by decide +kernel
theorem dX5_keeps_14 : decode cX5_keeps 14 = .ok (.iconst 5, 1) := by decide +kernel
theorem dX5_keeps_15 : decode cX5_keeps 15 = .ok (.invokevirtual 109, 3) := by decide +kernel
theorem dX5_keeps_18 : decode cX5_keeps 18 = .ok (.aload_n 0, 1) := by decide +kernel
theorem dX5_keeps_19 : decode cX5_keeps 19 = .ok (.aload_n 0, 1) := by decide +kernel
theorem dX5_keeps_20 : decode cX5_keeps 20 = .ok (.getfield 16, 3) := by decide +kernel
theorem dX5_keeps_23 : decode cX5_keeps 23 = .ok (.bipush 64, 2) := by decide +kernel
theorem dX5_keeps_25 : decode cX5_keeps 25 = .ok (.invokevirtual 109, 3) := by decide +kernel
theorem dX5_keeps_28 : decode cX5_keeps 28 = .ok (.aload_n 0, 1) := by decide +kernel
theorem dX5_keeps_29 : decode cX5_keeps 29 = .ok (.aload_n 0, 1) := by decide +kernel
theorem dX5_keeps_30 : decode cX5_keeps 30 = .ok (.getfield 19, 3) := by decide +kernel
theorem dX5_keeps_33 : decode cX5_keeps 33 = .ok (.bipush 64, 2) := by decide +kernel
theorem dX5_keeps_35 : decode cX5_keeps 35 = .ok (.invokevirtual 109, 3) := by decide +kernel
theorem dX5_keeps_38 : decode cX5_keeps 38 = .ok (.aload_n 0, 1) := by decide +kernel
theorem dX5_keeps_39 : decode cX5_keeps 39 = .ok (.aload_n 0, 1) := by decide +kernel
theorem dX5_keeps_40 : decode cX5_keeps 40 = .ok (.getfield 22, 3) := by decide +kernel
theorem dX5_keeps_43 : decode cX5_keeps 43 = .ok (.bipush 16, 2) := by decide +kernel
theorem dX5_keeps_45 : decode cX5_keeps 45 = .ok (.invokevirtual 109, 3) := by decide +kernel
theorem dX5_keeps_48 : decode cX5_keeps 48 = .ok (.aload_n 0, 1) := by decide +kernel
theorem dX5_keeps_49 : decode cX5_keeps 49 = .ok (.aload_n 0, 1) := by decide +kernel
theorem dX5_keeps_50 : decode cX5_keeps 50 = .ok (.getfield 25, 3) := by decide +kernel
theorem dX5_keeps_53 : decode cX5_keeps 53 = .ok (.bipush 16, 2) := by decide +kernel
theorem dX5_keeps_55 : decode cX5_keeps 55 = .ok (.invokevirtual 109, 3) := by decide +kernel
theorem dX5_keeps_58 : decode cX5_keeps 58 = .ok (.aload_n 0, 1) := by decide +kernel
theorem dX5_keeps_59 : decode cX5_keeps 59 = .ok (.aload_n 0, 1) := by decide +kernel
theorem dX5_keeps_60 : decode cX5_keeps 60 = .ok (.getfield 28, 3) := by decide +kernel
theorem dX5_keeps_63 : decode cX5_keeps 63 = .ok (.bipush 16, 2) := by decide +kernel
theorem dX5_keeps_65 : decode cX5_keeps 65 = .ok (.invokevirtual 109, 3) := by decide +kernel
theorem dX5_keeps_68 : decode cX5_keeps 68 = .ok (.aload_n 0, 1) := by decide +kernel
theorem dX5_keeps_69 : decode cX5_keeps 69 = .ok (.aload_n 0, 1) := by decide +kernel
theorem dX5_keeps_70 : decode cX5_keeps 70 = .ok (.getfield 31, 3) := by decide +kernel
theorem dX5_keeps_73 : decode cX5_keeps 73 = .ok (.iconst 4, 1) := by decide +kernel
theorem dX5_keeps_74 : decode cX5_keeps 74 = .ok (.invokevirtual 109, 3) := by decide +kernel
theorem dX5_keeps_77 : decode cX5_keeps 77 = .ok (.aload_n 0, 1) := by decide +kernel
theorem dX5_keeps_78 : decode cX5_keeps 78 = .ok (.aload_n 0, 1) := by decide +kernel
theorem dX5_keeps_79 : decode cX5_keeps 79 = .ok (.getfield 34, 3) := by decide +kernel
theorem dX5_keeps_82 : decode cX5_keeps 82 = .ok (.bipush 12, 2) := by decide +kernel
theorem dX5_keeps_84 : decode cX5_keeps 84 = .ok (.invokevirtual 109, 3) := by decide +kernel
theorem dX5_keeps_87 : decode cX5_keeps 87 = .ok (.aload_n 0, 1) := by decide +kernel
theorem dX5_keeps_88 : decode cX5_keeps 88 = .ok (.aload_n 0, 1) := by decide +kernel
theorem dX5_keeps_89 : decode cX5_keeps 89 = .ok (.getfield 37, 3) := by decide +kernel
theorem dX5_keeps_92 : decode cX5_keeps 92 = .ok (.iconst 4, 1) := by decide +kernel
theorem dX5_keeps_93 : decode cX5_keeps 93 = .ok (.invokevirtual 109, 3) := by decide +kernel
theorem dX5_keeps_96 : decode cX5_keeps 96 = .ok (.aload_n 0, 1) := by decide +kernel
theorem dX5_keeps_97 : decode cX5_keeps 97 = .ok (.aload_n 0, 1) := by decide +kernel
theorem dX5_keeps_98 : decode cX5_keeps 98 = .ok (.getfield 40, 3) := by decide +kernel
theorem dX5_keeps_101 : decode cX5_keeps 101 = .ok (.bipush 16, 2) := by decide +kernel
theorem dX5_keeps_103 : decode cX5_keeps 103 = .ok (.invokevirtual 109, 3) := by decide +kernel
theorem dX5_keeps_106 : decode cX5_keeps 106 = .ok (.aload_n 0, 1) := by decide +kernel
theorem dX5_keeps_107 : decode cX5_keeps 107 = .ok (.aload_n 0, 1) := by decide +kernel
theorem dX5_keeps_108 : decode cX5_keeps 108 = .ok (.getfield 43, 3) := by decide +kernel
theorem dX5_keeps_111 : decode cX5_keeps 111 = .ok (.bipush 64, 2) := by decide +kernel
theorem dX5_keeps_113 : decode cX5_keeps 113 = .ok (.invokevirtual 109, 3) := by decide +kernel
theorem dX5_keeps_116 : decode cX5_keeps 116 = .ok (.aload_n 0, 1) := by decide +kernel
theorem dX5_keeps_117 : decode cX5_keeps 117 = .ok (.aload_n 0, 1) := by decide +kernel
theorem dX5_keeps_118 : decode cX5_keeps 118 = .ok (.getfield 46, 3) := by decide +kernel
theorem dX5_keeps_121 : decode cX5_keeps 121 = .ok (.bipush 64, 2) := by decide +kernel
theorem dX5_keeps_123 : decode cX5_keeps 123 = .ok (.invokevirtual 109, 3) := by decide +kernel
theorem dX5_keeps_126 : decode cX5_keeps 126 = .ok (.aload_n 0, 1) := by decide +kernel
theorem dX5_keeps_127 : decode cX5_keeps 127 = .ok (.aload_n 0, 1) := by decide +kernel
theorem dX5_keeps_128 : decode cX5_keeps 128 = .ok (.getfield 49, 3) := by decide +kernel
theorem dX5_keeps_131 : decode cX5_keeps 131 = .ok (.bipush 64, 2) := by decide +kernel
theorem dX5_keeps_133 : decode cX5_keeps 133 = .ok (.invokevirtual 109, 3) := by decide +kernel
theorem dX5_keeps_136 : decode cX5_keeps 136 = .ok (.aload_n 0, 1) := by decide +kernel
theorem dX5_keeps_137 : decode cX5_keeps 137 = .ok (.aload_n 0, 1) := by decide +kernel
theorem dX5_keeps_138 : decode cX5_keeps 138 = .ok (.getfield 52, 3) := by decide +kernel
theorem dX5_keeps_141 : decode cX5_keeps 141 = .ok (.bipush 64, 2) := by decide +kernel
theorem dX5_keeps_143 : decode cX5_keeps 143 = .ok (.invokevirtual 109, 3) := by decide +kernel
theorem dX5_keeps_146 : decode cX5_keeps 146 = .ok (.aload_n 0, 1) := by decide +kernel
theorem dX5_keeps_147 : decode cX5_keeps 147 = .ok (.aload_n 0, 1) := by decide +kernel
theorem dX5_keeps_148 : decode cX5_keeps 148 = .ok (.getfield 55, 3) := by decide +kernel
theorem dX5_keeps_151 : decode cX5_keeps 151 = .ok (.iconst 3, 1) := by decide +kernel
theorem dX5_keeps_152 : decode cX5_keeps 152 = .ok (.invokevirtual 109, 3) := by decide +kernel
theorem dX5_keeps_155 : decode cX5_keeps 155 = .ok (.aload_n 0, 1) := by decide +kernel
theorem dX5_keeps_156 : decode cX5_keeps 156 = .ok (.aload_n 0, 1) := by decide +kernel
theorem dX5_keeps_157 : decode cX5_keeps 157 = .ok (.getfield 58, 3) := by decide +kernel
theorem dX5_keeps_160 : decode cX5_keeps 160 = .ok (.bipush 10, 2) := by decide +kernel
theorem dX5_keeps_162 : decode cX5_keeps 162 = .ok (.invokevirtual 109, 3) := by decide +kernel
theorem dX5_keeps_165 : decode cX5_keeps 165 = .ok (.aload_n 0, 1) := by decide +kernel
theorem dX5_keeps_166 : decode cX5_keeps 166 = .ok (.aload_n 0, 1) := by decide +kernel
theorem dX5_keeps_167 : decode cX5_keeps 167 = .ok (.getfield 61, 3) := by decide +kernel
theorem dX5_keeps_170 : decode cX5_keeps 170 = .ok (.sipush 200, 3) := by decide +kernel
theorem dX5_keeps_173 : decode cX5_keeps 173 = .ok (.invokevirtual 109, 3) := by decide +kernel
theorem dX5_keeps_176 : decode cX5_keeps 176 = .ok (.aload_n 0, 1) := by decide +kernel
theorem dX5_keeps_177 : decode cX5_keeps 177 = .ok (.aload_n 0, 1) := by decide +kernel
theorem dX5_keeps_178 : decode cX5_keeps 178 = .ok (.getfield 64, 3) := by decide +kernel
theorem dX5_keeps_181 : decode cX5_keeps 181 = .ok (.sipush 200, 3) := by decide +kernel
theorem dX5_keeps_184 : decode cX5_keeps 184 = .ok (.invokevirtual 109, 3) := by decide +kernel
theorem dX5_keeps_187 : decode cX5_keeps 187 = .ok (.aload_n 0, 1) := by decide +kernel
theorem dX5_keeps_188 : decode cX5_keeps 188 = .ok (.aload_n 0, 1) := by decide +kernel
theorem dX5_keeps_189 : decode cX5_keeps 189 = .ok (.getfield 67, 3) := by decide +kernel
theorem dX5_keeps_192 : decode cX5_keeps 192 = .ok (.sipush 200, 3) := by decide +kernel
theorem dX5_keeps_195 : decode cX5_keeps 195 = .ok (.invokevirtual 109, 3) := by decide +kernel
theorem dX5_keeps_198 : decode cX5_keeps 198 = .ok (.aload_n 0, 1) := by decide +kernel
theorem dX5_keeps_199 : decode cX5_keeps 199 = .ok (.getfield 73, 3) := by decide +kernel
theorem dX5_keeps_202 : decode cX5_keeps 202 = .ok (.iload_n 1, 1) := by decide +kernel
theorem dX5_keeps_203 : decode cX5_keeps 203 = .ok (.aload_n 0, 1) := by decide +kernel
theorem dX5_keeps_204 : decode cX5_keeps 204 = .ok (.getfield 90, 3) := by decide +kernel
theorem dX5_keeps_207 : decode cX5_keeps 207 = .ok (.fastore, 1) := by decide +kernel
theorem dX5_keeps_208 : decode cX5_keeps 208 = .ok (.aload_n 0, 1) := by decide +kernel
theorem dX5_keeps_209 : decode cX5_keeps 209 = .ok (.getfield 77, 3) := by decide +kernel
theorem dX5_keeps_212 : decode cX5_keeps 212 = .ok (.iload_n 1, 1) := by decide +kernel
theorem dX5_keeps_213 : decode cX5_keeps 213 = .ok (.aload_n 0, 1) := by decide +kernel
theorem dX5_keeps_214 : decode cX5_keeps 214 = .ok (.getfield 94, 3) := by decide +kernel
theorem dX5_keeps_217 : decode cX5_keeps 217 = .ok (.lastore, 1) := by decide +kernel
theorem dX5_keeps_218 : decode cX5_keeps 218 = .ok (.aload_n 0, 1) := by decide +kernel
theorem dX5_keeps_219 : decode cX5_keeps 219 = .ok (.getfield 81, 3) := by decide +kernel
theorem dX5_keeps_222 : decode cX5_keeps 222 = .ok (.iload_n 1, 1) := by decide +kernel
theorem dX5_keeps_223 : decode cX5_keeps 223 = .ok (.aload_n 0, 1) := by decide +kernel
theorem dX5_keeps_224 : decode cX5_keeps 224 = .ok (.getfield 98, 3) := by decide +kernel
theorem dX5_keeps_227 : decode cX5_keeps 227 = .ok (.lastore, 1) := by decide +kernel
theorem dX5_keeps_228 : decode cX5_keeps 228 = .ok (.return_, 1) := by decide +kernel
theorem dX5_comesBack_0 : decode cX5_comesBack 0 = .ok (.aload_n 0, 1) := by decide +kernel
theorem dX5_comesBack_1 : decode cX5_comesBack 1 = .ok (.sipush 1300, 3) := by decide +kernel
theorem dX5_comesBack_4 : decode cX5_comesBack 4 = .ok (.iload_n 1, 1) := by decide +kernel
theorem dX5_comesBack_5 : decode cX5_comesBack 5 = .ok (.imul, 1) := by decide +kernel
theorem dX5_comesBack_6 : decode cX5_comesBack 6 = .ok (.putfield 105, 3) := by decide +kernel
theorem dX5_comesBack_9 : decode cX5_comesBack 9 = .ok (.aload_n 0, 1) := by decide +kernel
theorem dX5_comesBack_10 : decode cX5_comesBack 10 = .ok (.aload_n 0, 1) := by decide +kernel
theorem dX5_comesBack_11 : decode cX5_comesBack 11 = .ok (.getfield 13, 3) := by decide +kernel
theorem dX5_comesBack_14 : decode cX5_comesBack 14 = .ok (.iconst 5, 1) := by decide +kernel
theorem dX5_comesBack_15 : decode cX5_comesBack 15 = .ok (.invokevirtual 113, 3) := by decide +kernel
theorem dX5_comesBack_18 : decode cX5_comesBack 18 = .ok (.aload_n 0, 1) := by decide +kernel
theorem dX5_comesBack_19 : decode cX5_comesBack 19 = .ok (.aload_n 0, 1) := by decide +kernel
theorem dX5_comesBack_20 : decode cX5_comesBack 20 = .ok (.getfield 16, 3) := by decide +kernel
theorem dX5_comesBack_23 : decode cX5_comesBack 23 = .ok (.bipush 64, 2) := by decide +kernel
theorem dX5_comesBack_25 : decode cX5_comesBack 25 = .ok (.invokevirtual 113, 3) := by decide +kernel
theorem dX5_comesBack_28 : decode cX5_comesBack 28 = .ok (.aload_n 0, 1) := by decide +kernel
theorem dX5_comesBack_29 : decode cX5_comesBack 29 = .ok (.aload_n 0, 1) := by decide +kernel
theorem dX5_comesBack_30 : decode cX5_comesBack 30 = .ok (.getfield 19, 3) := by decide +kernel
theorem dX5_comesBack_33 : decode cX5_comesBack 33 = .ok (.bipush 64, 2) := by decide +kernel
theorem dX5_comesBack_35 : decode cX5_comesBack 35 = .ok (.invokevirtual 113, 3) := by decide +kernel
theorem dX5_comesBack_38 : decode cX5_comesBack 38 = .ok (.aload_n 0, 1) := by decide +kernel
theorem dX5_comesBack_39 : decode cX5_comesBack 39 = .ok (.aload_n 0, 1) := by decide +kernel
theorem dX5_comesBack_40 : decode cX5_comesBack 40 = .ok (.getfield 22, 3) := by decide +kernel
theorem dX5_comesBack_43 : decode cX5_comesBack 43 = .ok (.bipush 16, 2) := by decide +kernel
theorem dX5_comesBack_45 : decode cX5_comesBack 45 = .ok (.invokevirtual 113, 3) := by decide +kernel
theorem dX5_comesBack_48 : decode cX5_comesBack 48 = .ok (.aload_n 0, 1) := by decide +kernel
theorem dX5_comesBack_49 : decode cX5_comesBack 49 = .ok (.aload_n 0, 1) := by decide +kernel
theorem dX5_comesBack_50 : decode cX5_comesBack 50 = .ok (.getfield 25, 3) := by decide +kernel
theorem dX5_comesBack_53 : decode cX5_comesBack 53 = .ok (.bipush 16, 2) := by decide +kernel
theorem dX5_comesBack_55 : decode cX5_comesBack 55 = .ok (.invokevirtual 113, 3) := by decide +kernel
theorem dX5_comesBack_58 : decode cX5_comesBack 58 = .ok (.aload_n 0, 1) := by decide +kernel
theorem dX5_comesBack_59 : decode cX5_comesBack 59 = .ok (.aload_n 0, 1) := by decide +kernel
theorem dX5_comesBack_60 : decode cX5_comesBack 60 = .ok (.getfield 28, 3) := by decide +kernel
theorem dX5_comesBack_63 : decode cX5_comesBack 63 = .ok (.bipush 16, 2) := by decide +kernel
theorem dX5_comesBack_65 : decode cX5_comesBack 65 = .ok (.invokevirtual 113, 3) := by decide +kernel
theorem dX5_comesBack_68 : decode cX5_comesBack 68 = .ok (.aload_n 0, 1) := by decide +kernel
theorem dX5_comesBack_69 : decode cX5_comesBack 69 = .ok (.aload_n 0, 1) := by decide +kernel
theorem dX5_comesBack_70 : decode cX5_comesBack 70 = .ok (.getfield 31, 3) := by decide +kernel
theorem dX5_comesBack_73 : decode cX5_comesBack 73 = .ok (.iconst 4, 1) := by decide +kernel
theorem dX5_comesBack_74 : decode cX5_comesBack 74 = .ok (.invokevirtual 113, 3) := by decide +kernel
theorem dX5_comesBack_77 : decode cX5_comesBack 77 = .ok (.aload_n 0, 1) := by decide +kernel
theorem dX5_comesBack_78 : decode cX5_comesBack 78 = .ok (.aload_n 0, 1) := by decide +kernel
theorem dX5_comesBack_79 : decode cX5_comesBack 79 = .ok (.getfield 34, 3) := by decide +kernel
theorem dX5_comesBack_82 : decode cX5_comesBack 82 = .ok (.bipush 12, 2) := by decide +kernel
theorem dX5_comesBack_84 : decode cX5_comesBack 84 = .ok (.invokevirtual 113, 3) := by decide +kernel
theorem dX5_comesBack_87 : decode cX5_comesBack 87 = .ok (.aload_n 0, 1) := by decide +kernel
theorem dX5_comesBack_88 : decode cX5_comesBack 88 = .ok (.aload_n 0, 1) := by decide +kernel
theorem dX5_comesBack_89 : decode cX5_comesBack 89 = .ok (.getfield 37, 3) := by decide +kernel
theorem dX5_comesBack_92 : decode cX5_comesBack 92 = .ok (.iconst 4, 1) := by decide +kernel
theorem dX5_comesBack_93 : decode cX5_comesBack 93 = .ok (.invokevirtual 113, 3) := by decide +kernel
theorem dX5_comesBack_96 : decode cX5_comesBack 96 = .ok (.aload_n 0, 1) := by decide +kernel
theorem dX5_comesBack_97 : decode cX5_comesBack 97 = .ok (.aload_n 0, 1) := by decide +kernel
theorem dX5_comesBack_98 : decode cX5_comesBack 98 = .ok (.getfield 40, 3) := by decide +kernel
theorem dX5_comesBack_101 : decode cX5_comesBack 101 = .ok (.bipush 16, 2) := by decide +kernel
theorem dX5_comesBack_103 : decode cX5_comesBack 103 = .ok (.invokevirtual 113, 3) := by decide +kernel
theorem dX5_comesBack_106 : decode cX5_comesBack 106 = .ok (.aload_n 0, 1) := by decide +kernel
theorem dX5_comesBack_107 : decode cX5_comesBack 107 = .ok (.aload_n 0, 1) := by decide +kernel
theorem dX5_comesBack_108 : decode cX5_comesBack 108 = .ok (.getfield 43, 3) := by decide +kernel
theorem dX5_comesBack_111 : decode cX5_comesBack 111 = .ok (.bipush 64, 2) := by decide +kernel
theorem dX5_comesBack_113 : decode cX5_comesBack 113 = .ok (.invokevirtual 113, 3) := by decide +kernel
theorem dX5_comesBack_116 : decode cX5_comesBack 116 = .ok (.aload_n 0, 1) := by decide +kernel
theorem dX5_comesBack_117 : decode cX5_comesBack 117 = .ok (.aload_n 0, 1) := by decide +kernel
theorem dX5_comesBack_118 : decode cX5_comesBack 118 = .ok (.getfield 46, 3) := by decide +kernel
theorem dX5_comesBack_121 : decode cX5_comesBack 121 = .ok (.bipush 64, 2) := by decide +kernel
theorem dX5_comesBack_123 : decode cX5_comesBack 123 = .ok (.invokevirtual 113, 3) := by decide +kernel
theorem dX5_comesBack_126 : decode cX5_comesBack 126 = .ok (.aload_n 0, 1) := by decide +kernel
theorem dX5_comesBack_127 : decode cX5_comesBack 127 = .ok (.aload_n 0, 1) := by decide +kernel
theorem dX5_comesBack_128 : decode cX5_comesBack 128 = .ok (.getfield 49, 3) := by decide +kernel
theorem dX5_comesBack_131 : decode cX5_comesBack 131 = .ok (.bipush 64, 2) := by decide +kernel
theorem dX5_comesBack_133 : decode cX5_comesBack 133 = .ok (.invokevirtual 113, 3) := by decide +kernel
theorem dX5_comesBack_136 : decode cX5_comesBack 136 = .ok (.aload_n 0, 1) := by decide +kernel
theorem dX5_comesBack_137 : decode cX5_comesBack 137 = .ok (.aload_n 0, 1) := by decide +kernel
theorem dX5_comesBack_138 : decode cX5_comesBack 138 = .ok (.getfield 52, 3) := by decide +kernel
theorem dX5_comesBack_141 : decode cX5_comesBack 141 = .ok (.bipush 64, 2) := by decide +kernel
theorem dX5_comesBack_143 : decode cX5_comesBack 143 = .ok (.invokevirtual 113, 3) := by decide +kernel
theorem dX5_comesBack_146 : decode cX5_comesBack 146 = .ok (.aload_n 0, 1) := by decide +kernel
theorem dX5_comesBack_147 : decode cX5_comesBack 147 = .ok (.aload_n 0, 1) := by decide +kernel
theorem dX5_comesBack_148 : decode cX5_comesBack 148 = .ok (.getfield 55, 3) := by decide +kernel
theorem dX5_comesBack_151 : decode cX5_comesBack 151 = .ok (.iconst 3, 1) := by decide +kernel
theorem dX5_comesBack_152 : decode cX5_comesBack 152 = .ok (.invokevirtual 113, 3) := by decide +kernel
theorem dX5_comesBack_155 : decode cX5_comesBack 155 = .ok (.aload_n 0, 1) := by decide +kernel
theorem dX5_comesBack_156 : decode cX5_comesBack 156 = .ok (.aload_n 0, 1) := by decide +kernel
theorem dX5_comesBack_157 : decode cX5_comesBack 157 = .ok (.getfield 58, 3) := by decide +kernel
theorem dX5_comesBack_160 : decode cX5_comesBack 160 = .ok (.bipush 10, 2) := by decide +kernel
theorem dX5_comesBack_162 : decode cX5_comesBack 162 = .ok (.invokevirtual 113, 3) := by decide +kernel
theorem dX5_comesBack_165 : decode cX5_comesBack 165 = .ok (.aload_n 0, 1) := by decide +kernel
theorem dX5_comesBack_166 : decode cX5_comesBack 166 = .ok (.aload_n 0, 1) := by decide +kernel
theorem dX5_comesBack_167 : decode cX5_comesBack 167 = .ok (.getfield 61, 3) := by decide +kernel
theorem dX5_comesBack_170 : decode cX5_comesBack 170 = .ok (.sipush 200, 3) := by decide +kernel
theorem dX5_comesBack_173 : decode cX5_comesBack 173 = .ok (.invokevirtual 113, 3) := by decide +kernel
theorem dX5_comesBack_176 : decode cX5_comesBack 176 = .ok (.aload_n 0, 1) := by decide +kernel
theorem dX5_comesBack_177 : decode cX5_comesBack 177 = .ok (.aload_n 0, 1) := by decide +kernel
theorem dX5_comesBack_178 : decode cX5_comesBack 178 = .ok (.getfield 64, 3) := by decide +kernel
theorem dX5_comesBack_181 : decode cX5_comesBack 181 = .ok (.sipush 200, 3) := by decide +kernel
theorem dX5_comesBack_184 : decode cX5_comesBack 184 = .ok (.invokevirtual 113, 3) := by decide +kernel
theorem dX5_comesBack_187 : decode cX5_comesBack 187 = .ok (.aload_n 0, 1) := by decide +kernel
theorem dX5_comesBack_188 : decode cX5_comesBack 188 = .ok (.aload_n 0, 1) := by decide +kernel
theorem dX5_comesBack_189 : decode cX5_comesBack 189 = .ok (.getfield 67, 3) := by decide +kernel
theorem dX5_comesBack_192 : decode cX5_comesBack 192 = .ok (.sipush 200, 3) := by decide +kernel
theorem dX5_comesBack_195 : decode cX5_comesBack 195 = .ok (.invokevirtual 113, 3) := by decide +kernel
theorem dX5_comesBack_198 : decode cX5_comesBack 198 = .ok (.aload_n 0, 1) := by decide +kernel
theorem dX5_comesBack_199 : decode cX5_comesBack 199 = .ok (.aload_n 0, 1) := by decide +kernel
theorem dX5_comesBack_200 : decode cX5_comesBack 200 = .ok (.getfield 73, 3) := by decide +kernel
theorem dX5_comesBack_203 : decode cX5_comesBack 203 = .ok (.iload_n 1, 1) := by decide +kernel
theorem dX5_comesBack_204 : decode cX5_comesBack 204 = .ok (.faload, 1) := by decide +kernel
theorem dX5_comesBack_205 : decode cX5_comesBack 205 = .ok (.putfield 90, 3) := by decide +kernel
theorem dX5_comesBack_208 : decode cX5_comesBack 208 = .ok (.aload_n 0, 1) := by decide +kernel
theorem dX5_comesBack_209 : decode cX5_comesBack 209 = .ok (.aload_n 0, 1) := by decide +kernel
theorem dX5_comesBack_210 : decode cX5_comesBack 210 = .ok (.getfield 77, 3) := by decide +kernel
theorem dX5_comesBack_213 : decode cX5_comesBack 213 = .ok (.iload_n 1, 1) := by decide +kernel
theorem dX5_comesBack_214 : decode cX5_comesBack 214 = .ok (.laload, 1) := by decide +kernel
theorem dX5_comesBack_215 : decode cX5_comesBack 215 = .ok (.putfield 94, 3) := by decide +kernel
theorem dX5_comesBack_218 : decode cX5_comesBack 218 = .ok (.aload_n 0, 1) := by decide +kernel
theorem dX5_comesBack_219 : decode cX5_comesBack 219 = .ok (.aload_n 0, 1) := by decide +kernel
theorem dX5_comesBack_220 : decode cX5_comesBack 220 = .ok (.getfield 81, 3) := by decide +kernel
theorem dX5_comesBack_223 : decode cX5_comesBack 223 = .ok (.iload_n 1, 1) := by decide +kernel
theorem dX5_comesBack_224 : decode cX5_comesBack 224 = .ok (.laload, 1) := by decide +kernel
theorem dX5_comesBack_225 : decode cX5_comesBack 225 = .ok (.putfield 98, 3) := by decide +kernel
theorem dX5_comesBack_228 : decode cX5_comesBack 228 = .ok (.return_, 1) := by decide +kernel
theorem dX5_leavesState_0 : decode cX5_leavesState 0 = .ok (.aload_n 0, 1) := by decide +kernel
theorem dX5_leavesState_1 : decode cX5_leavesState 1 = .ok (.getfield 116, 3) := by decide +kernel
theorem dX5_leavesState_4 : decode cX5_leavesState 4 = .ok (.bipush 6, 2) := by decide +kernel
theorem dX5_leavesState_6 : decode cX5_leavesState 6 = .ok (.if_icmp .ne 99, 3) := by decide +kernel
theorem dX5_leavesState_9 : decode cX5_leavesState 9 = .ok (.iconst 0, 1) := by decide +kernel
theorem dX5_leavesState_10 : decode cX5_leavesState 10 = .ok (.istore_n 1, 1) := by decide +kernel
theorem dX5_leavesState_11 : decode cX5_leavesState 11 = .ok (.iload_n 1, 1) := by decide +kernel
theorem dX5_leavesState_12 : decode cX5_leavesState 12 = .ok (.sipush 6500, 3) := by decide +kernel
theorem dX5_leavesState_15 : decode cX5_leavesState 15 = .ok (.if_icmp .ge 25, 3) := by decide +kernel
theorem dX5_leavesState_18 : decode cX5_leavesState 18 = .ok (.aload_n 0, 1) := by decide +kernel
theorem dX5_leavesState_19 : decode cX5_leavesState 19 = .ok (.getfield 70, 3) := by decide +kernel
theorem dX5_leavesState_22 : decode cX5_leavesState 22 = .ok (.iload_n 1, 1) := by decide +kernel
theorem dX5_leavesState_23 : decode cX5_leavesState 23 = .ok (.aload_n 0, 1) := by decide +kernel
theorem dX5_leavesState_24 : decode cX5_leavesState 24 = .ok (.getfield 70, 3) := by decide +kernel
theorem dX5_leavesState_27 : decode cX5_leavesState 27 = .ok (.iload_n 1, 1) := by decide +kernel
theorem dX5_leavesState_28 : decode cX5_leavesState 28 = .ok (.sipush 1300, 3) := by decide +kernel
theorem dX5_leavesState_31 : decode cX5_leavesState 31 = .ok (.iadd, 1) := by decide +kernel
theorem dX5_leavesState_32 : decode cX5_leavesState 32 = .ok (.iaload, 1) := by decide +kernel
theorem dX5_leavesState_33 : decode cX5_leavesState 33 = .ok (.iastore, 1) := by decide +kernel
theorem dX5_leavesState_34 : decode cX5_leavesState 34 = .ok (.iinc 1 1, 3) := by decide +kernel
theorem dX5_leavesState_37 : decode cX5_leavesState 37 = .ok (.goto (-26), 3) := by decide +kernel
theorem dX5_leavesState_40 : decode cX5_leavesState 40 = .ok (.iconst 0, 1) := by decide +kernel
theorem dX5_leavesState_41 : decode cX5_leavesState 41 = .ok (.istore_n 1, 1) := by decide +kernel
theorem dX5_leavesState_42 : decode cX5_leavesState 42 = .ok (.iload_n 1, 1) := by decide +kernel
theorem dX5_leavesState_43 : decode cX5_leavesState 43 = .ok (.iconst 5, 1) := by decide +kernel
theorem dX5_leavesState_44 : decode cX5_leavesState 44 = .ok (.if_icmp .ge 51, 3) := by decide +kernel
theorem dX5_leavesState_47 : decode cX5_leavesState 47 = .ok (.aload_n 0, 1) := by decide +kernel
theorem dX5_leavesState_48 : decode cX5_leavesState 48 = .ok (.getfield 73, 3) := by decide +kernel
theorem dX5_leavesState_51 : decode cX5_leavesState 51 = .ok (.iload_n 1, 1) := by decide +kernel
theorem dX5_leavesState_52 : decode cX5_leavesState 52 = .ok (.aload_n 0, 1) := by decide +kernel
theorem dX5_leavesState_53 : decode cX5_leavesState 53 = .ok (.getfield 73, 3) := by decide +kernel
theorem dX5_leavesState_56 : decode cX5_leavesState 56 = .ok (.iload_n 1, 1) := by decide +kernel
theorem dX5_leavesState_57 : decode cX5_leavesState 57 = .ok (.iconst 1, 1) := by decide +kernel
theorem dX5_leavesState_58 : decode cX5_leavesState 58 = .ok (.iadd, 1) := by decide +kernel
theorem dX5_leavesState_59 : decode cX5_leavesState 59 = .ok (.faload, 1) := by decide +kernel
theorem dX5_leavesState_60 : decode cX5_leavesState 60 = .ok (.fastore, 1) := by decide +kernel
theorem dX5_leavesState_61 : decode cX5_leavesState 61 = .ok (.aload_n 0, 1) := by decide +kernel
theorem dX5_leavesState_62 : decode cX5_leavesState 62 = .ok (.getfield 77, 3) := by decide +kernel
theorem dX5_leavesState_65 : decode cX5_leavesState 65 = .ok (.iload_n 1, 1) := by decide +kernel
theorem dX5_leavesState_66 : decode cX5_leavesState 66 = .ok (.aload_n 0, 1) := by decide +kernel
theorem dX5_leavesState_67 : decode cX5_leavesState 67 = .ok (.getfield 77, 3) := by decide +kernel
theorem dX5_leavesState_70 : decode cX5_leavesState 70 = .ok (.iload_n 1, 1) := by decide +kernel
theorem dX5_leavesState_71 : decode cX5_leavesState 71 = .ok (.iconst 1, 1) := by decide +kernel
theorem dX5_leavesState_72 : decode cX5_leavesState 72 = .ok (.iadd, 1) := by decide +kernel
theorem dX5_leavesState_73 : decode cX5_leavesState 73 = .ok (.laload, 1) := by decide +kernel
theorem dX5_leavesState_74 : decode cX5_leavesState 74 = .ok (.lastore, 1) := by decide +kernel
theorem dX5_leavesState_75 : decode cX5_leavesState 75 = .ok (.aload_n 0, 1) := by decide +kernel
theorem dX5_leavesState_76 : decode cX5_leavesState 76 = .ok (.getfield 81, 3) := by decide +kernel
theorem dX5_leavesState_79 : decode cX5_leavesState 79 = .ok (.iload_n 1, 1) := by decide +kernel
theorem dX5_leavesState_80 : decode cX5_leavesState 80 = .ok (.aload_n 0, 1) := by decide +kernel
theorem dX5_leavesState_81 : decode cX5_leavesState 81 = .ok (.getfield 81, 3) := by decide +kernel
theorem dX5_leavesState_84 : decode cX5_leavesState 84 = .ok (.iload_n 1, 1) := by decide +kernel
theorem dX5_leavesState_85 : decode cX5_leavesState 85 = .ok (.iconst 1, 1) := by decide +kernel
theorem dX5_leavesState_86 : decode cX5_leavesState 86 = .ok (.iadd, 1) := by decide +kernel
theorem dX5_leavesState_87 : decode cX5_leavesState 87 = .ok (.laload, 1) := by decide +kernel
theorem dX5_leavesState_88 : decode cX5_leavesState 88 = .ok (.lastore, 1) := by decide +kernel
theorem dX5_leavesState_89 : decode cX5_leavesState 89 = .ok (.iinc 1 1, 3) := by decide +kernel
theorem dX5_leavesState_92 : decode cX5_leavesState 92 = .ok (.goto (-50), 3) := by decide +kernel
theorem dX5_leavesState_95 : decode cX5_leavesState 95 = .ok (.aload_n 0, 1) := by decide +kernel
theorem dX5_leavesState_96 : decode cX5_leavesState 96 = .ok (.dup, 1) := by decide +kernel
theorem dX5_leavesState_97 : decode cX5_leavesState 97 = .ok (.getfield 116, 3) := by decide +kernel
theorem dX5_leavesState_100 : decode cX5_leavesState 100 = .ok (.iconst 1, 1) := by decide +kernel
theorem dX5_leavesState_101 : decode cX5_leavesState 101 = .ok (.isub, 1) := by decide +kernel
theorem dX5_leavesState_102 : decode cX5_leavesState 102 = .ok (.putfield 116, 3) := by decide +kernel
theorem dX5_leavesState_105 : decode cX5_leavesState 105 = .ok (.aload_n 0, 1) := by decide +kernel
theorem dX5_leavesState_106 : decode cX5_leavesState 106 = .ok (.aload_n 0, 1) := by decide +kernel
theorem dX5_leavesState_107 : decode cX5_leavesState 107 = .ok (.getfield 116, 3) := by decide +kernel
theorem dX5_leavesState_110 : decode cX5_leavesState 110 = .ok (.invokevirtual 119, 3) := by decide +kernel
theorem dX5_leavesState_113 : decode cX5_leavesState 113 = .ok (.aload_n 0, 1) := by decide +kernel
theorem dX5_leavesState_114 : decode cX5_leavesState 114 = .ok (.dup, 1) := by decide +kernel
theorem dX5_leavesState_115 : decode cX5_leavesState 115 = .ok (.getfield 116, 3) := by decide +kernel
theorem dX5_leavesState_118 : decode cX5_leavesState 118 = .ok (.iconst 1, 1) := by decide +kernel
theorem dX5_leavesState_119 : decode cX5_leavesState 119 = .ok (.iadd, 1) := by decide +kernel
theorem dX5_leavesState_120 : decode cX5_leavesState 120 = .ok (.putfield 116, 3) := by decide +kernel
theorem dX5_leavesState_123 : decode cX5_leavesState 123 = .ok (.return_, 1) := by decide +kernel
theorem dX5_back_0 : decode cX5_back 0 = .ok (.aload_n 0, 1) := by decide +kernel
theorem dX5_back_1 : decode cX5_back 1 = .ok (.getfield 116, 3) := by decide +kernel
theorem dX5_back_4 : decode cX5_back 4 = .ok (.ifCond .ne 16, 3) := by decide +kernel
theorem dX5_back_7 : decode cX5_back 7 = .ok (.aload_n 0, 1) := by decide +kernel
theorem dX5_back_8 : decode cX5_back 8 = .ok (.getfield 1, 3) := by decide +kernel
theorem dX5_back_11 : decode cX5_back 11 = .ok (.iconst 1, 1) := by decide +kernel
theorem dX5_back_12 : decode cX5_back 12 = .ok (.dup2, 1) := by decide +kernel
theorem dX5_back_13 : decode cX5_back 13 = .ok (.iaload, 1) := by decide +kernel
theorem dX5_back_14 : decode cX5_back 14 = .ok (.iconst 1, 1) := by decide +kernel
theorem dX5_back_15 : decode cX5_back 15 = .ok (.iadd, 1) := by decide +kernel
theorem dX5_back_16 : decode cX5_back 16 = .ok (.iastore, 1) := by decide +kernel
theorem dX5_back_17 : decode cX5_back 17 = .ok (.bipush (-3), 2) := by decide +kernel
theorem dX5_back_19 : decode cX5_back 19 = .ok (.ireturn, 1) := by decide +kernel
theorem dX5_back_20 : decode cX5_back 20 = .ok (.aload_n 0, 1) := by decide +kernel
theorem dX5_back_21 : decode cX5_back 21 = .ok (.dup, 1) := by decide +kernel
theorem dX5_back_22 : decode cX5_back 22 = .ok (.getfield 116, 3) := by decide +kernel
theorem dX5_back_25 : decode cX5_back 25 = .ok (.iconst 1, 1) := by decide +kernel
theorem dX5_back_26 : decode cX5_back 26 = .ok (.isub, 1) := by decide +kernel
theorem dX5_back_27 : decode cX5_back 27 = .ok (.putfield 116, 3) := by decide +kernel
theorem dX5_back_30 : decode cX5_back 30 = .ok (.aload_n 0, 1) := by decide +kernel
theorem dX5_back_31 : decode cX5_back 31 = .ok (.aload_n 0, 1) := by decide +kernel
theorem dX5_back_32 : decode cX5_back 32 = .ok (.getfield 116, 3) := by decide +kernel
theorem dX5_back_35 : decode cX5_back 35 = .ok (.invokevirtual 123, 3) := by decide +kernel
theorem dX5_back_38 : decode cX5_back 38 = .ok (.aload_n 0, 1) := by decide +kernel
theorem dX5_back_39 : decode cX5_back 39 = .ok (.getfield 116, 3) := by decide +kernel
theorem dX5_back_42 : decode cX5_back 42 = .ok (.ireturn, 1) := by decide +kernel
theorem dX5_may_0 : decode cX5_may 0 = .ok (.iload_n 0, 1) := by decide +kernel
theorem dX5_may_1 : decode cX5_may 1 = .ok (.tableswitch 57 0 4 #[35, 42, 57, 57, 49], 35) := by decide +kernel
theorem dX5_may_36 : decode cX5_may 36 = .ok (.iload_n 1, 1) := by decide +kernel
theorem dX5_may_37 : decode cX5_may 37 = .ok (.iconst 1, 1) := by decide +kernel
theorem dX5_may_38 : decode cX5_may 38 = .ok (.iconst 3, 1) := by decide +kernel
theorem dX5_may_39 : decode cX5_may 39 = .ok (.invokestatic 101, 3) := by decide +kernel
theorem dX5_may_42 : decode cX5_may 42 = .ok (.ireturn, 1) := by decide +kernel
theorem dX5_may_43 : decode cX5_may 43 = .ok (.iload_n 1, 1) := by decide +kernel
theorem dX5_may_44 : decode cX5_may 44 = .ok (.iconst 0, 1) := by decide +kernel
theorem dX5_may_45 : decode cX5_may 45 = .ok (.iconst 3, 1) := by decide +kernel
theorem dX5_may_46 : decode cX5_may 46 = .ok (.invokestatic 101, 3) := by decide +kernel
theorem dX5_may_49 : decode cX5_may 49 = .ok (.ireturn, 1) := by decide +kernel
theorem dX5_may_50 : decode cX5_may 50 = .ok (.iload_n 1, 1) := by decide +kernel
theorem dX5_may_51 : decode cX5_may 51 = .ok (.iconst 1, 1) := by decide +kernel
theorem dX5_may_52 : decode cX5_may 52 = .ok (.bipush 20, 2) := by decide +kernel
theorem dX5_may_54 : decode cX5_may 54 = .ok (.invokestatic 101, 3) := by decide +kernel
theorem dX5_may_57 : decode cX5_may 57 = .ok (.ireturn, 1) := by decide +kernel
theorem dX5_may_58 : decode cX5_may 58 = .ok (.iload_n 0, 1) := by decide +kernel
theorem dX5_may_59 : decode cX5_may 59 = .ok (.iconst 2, 1) := by decide +kernel
theorem dX5_may_60 : decode cX5_may 60 = .ok (.iconst 3, 1) := by decide +kernel
theorem dX5_may_61 : decode cX5_may 61 = .ok (.invokestatic 101, 3) := by decide +kernel
theorem dX5_may_64 : decode cX5_may 64 = .ok (.ifCond .eq 16, 3) := by decide +kernel
theorem dX5_may_67 : decode cX5_may 67 = .ok (.iload_n 1, 1) := by decide +kernel
theorem dX5_may_68 : decode cX5_may 68 = .ok (.iconst 1, 1) := by decide +kernel
theorem dX5_may_69 : decode cX5_may 69 = .ok (.iconst 4, 1) := by decide +kernel
theorem dX5_may_70 : decode cX5_may 70 = .ok (.invokestatic 101, 3) := by decide +kernel
theorem dX5_may_73 : decode cX5_may 73 = .ok (.ifCond .eq 7, 3) := by decide +kernel
theorem dX5_may_76 : decode cX5_may 76 = .ok (.iconst 1, 1) := by decide +kernel
theorem dX5_may_77 : decode cX5_may 77 = .ok (.goto 4, 3) := by decide +kernel
theorem dX5_may_80 : decode cX5_may 80 = .ok (.iconst 0, 1) := by decide +kernel
theorem dX5_may_81 : decode cX5_may 81 = .ok (.ireturn, 1) := by decide +kernel
theorem dX5_sets_0 : decode cX5_sets 0 = .ok (.iload_n 1, 1) := by decide +kernel
theorem dX5_sets_1 : decode cX5_sets 1 = .ok (.iload_n 2, 1) := by decide +kernel
theorem dX5_sets_2 : decode cX5_sets 2 = .ok (.invokestatic 126, 3) := by decide +kernel
theorem dX5_sets_5 : decode cX5_sets 5 = .ok (.ifCond .ne 8, 3) := by decide +kernel
theorem dX5_sets_8 : decode cX5_sets 8 = .ok (.aload_n 0, 1) := by decide +kernel
theorem dX5_sets_9 : decode cX5_sets 9 = .ok (.invokevirtual 130, 3) := by decide +kernel
theorem dX5_sets_12 : decode cX5_sets 12 = .ok (.ireturn, 1) := by decide +kernel
theorem dX5_sets_13 : decode cX5_sets 13 = .ok (.aload_n 0, 1) := by decide +kernel
theorem dX5_sets_14 : decode cX5_sets 14 = .ok (.invokevirtual 134, 3) := by decide +kernel
theorem dX5_sets_17 : decode cX5_sets 17 = .ok (.aload_n 0, 1) := by decide +kernel
theorem dX5_sets_18 : decode cX5_sets 18 = .ok (.getfield 13, 3) := by decide +kernel
theorem dX5_sets_21 : decode cX5_sets 21 = .ok (.iload_n 1, 1) := by decide +kernel
theorem dX5_sets_22 : decode cX5_sets 22 = .ok (.iaload, 1) := by decide +kernel
theorem dX5_sets_23 : decode cX5_sets 23 = .ok (.istore_n 3, 1) := by decide +kernel
theorem dX5_sets_24 : decode cX5_sets 24 = .ok (.aload_n 0, 1) := by decide +kernel
theorem dX5_sets_25 : decode cX5_sets 25 = .ok (.getfield 13, 3) := by decide +kernel
theorem dX5_sets_28 : decode cX5_sets 28 = .ok (.iload_n 1, 1) := by decide +kernel
theorem dX5_sets_29 : decode cX5_sets 29 = .ok (.iload_n 2, 1) := by decide +kernel
theorem dX5_sets_30 : decode cX5_sets 30 = .ok (.iastore, 1) := by decide +kernel
theorem dX5_sets_31 : decode cX5_sets 31 = .ok (.aload_n 0, 1) := by decide +kernel
theorem dX5_sets_32 : decode cX5_sets 32 = .ok (.invokevirtual 87, 3) := by decide +kernel
theorem dX5_sets_35 : decode cX5_sets 35 = .ok (.iload_n 3, 1) := by decide +kernel
theorem dX5_sets_36 : decode cX5_sets 36 = .ok (.ireturn, 1) := by decide +kernel
theorem dX5_anew_0 : decode cX5_anew 0 = .ok (.aload_n 0, 1) := by decide +kernel
theorem dX5_anew_1 : decode cX5_anew 1 = .ok (.invokevirtual 134, 3) := by decide +kernel
theorem dX5_anew_4 : decode cX5_anew 4 = .ok (.aload_n 0, 1) := by decide +kernel
theorem dX5_anew_5 : decode cX5_anew 5 = .ok (.getfield 58, 3) := by decide +kernel
theorem dX5_anew_8 : decode cX5_anew 8 = .ok (.bipush 9, 2) := by decide +kernel
theorem dX5_anew_10 : decode cX5_anew 10 = .ok (.iaload, 1) := by decide +kernel
theorem dX5_anew_11 : decode cX5_anew 11 = .ok (.istore_n 1, 1) := by decide +kernel
theorem dX5_anew_12 : decode cX5_anew 12 = .ok (.aload_n 0, 1) := by decide +kernel
theorem dX5_anew_13 : decode cX5_anew 13 = .ok (.invokevirtual 87, 3) := by decide +kernel
theorem dX5_anew_16 : decode cX5_anew 16 = .ok (.iload_n 1, 1) := by decide +kernel
theorem dX5_anew_17 : decode cX5_anew 17 = .ok (.ireturn, 1) := by decide +kernel
theorem dX5_rowOf_0 : decode cX5_rowOf 0 = .ok (.iload_n 0, 1) := by decide +kernel
theorem dX5_rowOf_1 : decode cX5_rowOf 1 = .ok (.iconst 4, 1) := by decide +kernel
theorem dX5_rowOf_2 : decode cX5_rowOf 2 = .ok (.irem, 1) := by decide +kernel
theorem dX5_rowOf_3 : decode cX5_rowOf 3 = .ok (.ireturn, 1) := by decide +kernel
theorem dX5_counts_0 : decode cX5_counts 0 = .ok (.iload_n 1, 1) := by decide +kernel
theorem dX5_counts_1 : decode cX5_counts 1 = .ok (.invokestatic 137, 3) := by decide +kernel
theorem dX5_counts_4 : decode cX5_counts 4 = .ok (.istore_n 2, 1) := by decide +kernel
theorem dX5_counts_5 : decode cX5_counts 5 = .ok (.iconst 0, 1) := by decide +kernel
theorem dX5_counts_6 : decode cX5_counts 6 = .ok (.istore_n 3, 1) := by decide +kernel
theorem dX5_counts_7 : decode cX5_counts 7 = .ok (.aload_n 0, 1) := by decide +kernel
theorem dX5_counts_8 : decode cX5_counts 8 = .ok (.getfield 34, 3) := by decide +kernel
theorem dX5_counts_11 : decode cX5_counts 11 = .ok (.iconst 3, 1) := by decide +kernel
theorem dX5_counts_12 : decode cX5_counts 12 = .ok (.iload_n 2, 1) := by decide +kernel
theorem dX5_counts_13 : decode cX5_counts 13 = .ok (.imul, 1) := by decide +kernel
theorem dX5_counts_14 : decode cX5_counts 14 = .ok (.iload_n 3, 1) := by decide +kernel
theorem dX5_counts_15 : decode cX5_counts 15 = .ok (.iadd, 1) := by decide +kernel
theorem dX5_counts_16 : decode cX5_counts 16 = .ok (.iaload, 1) := by decide +kernel
theorem dX5_counts_17 : decode cX5_counts 17 = .ok (.iload_n 1, 1) := by decide +kernel
theorem dX5_counts_18 : decode cX5_counts 18 = .ok (.if_icmp .eq 9, 3) := by decide +kernel
theorem dX5_counts_21 : decode cX5_counts 21 = .ok (.iinc 3 1, 3) := by decide +kernel
theorem dX5_counts_24 : decode cX5_counts 24 = .ok (.goto (-17), 3) := by decide +kernel
theorem dX5_counts_27 : decode cX5_counts 27 = .ok (.iload_n 3, 1) := by decide +kernel
theorem dX5_counts_28 : decode cX5_counts 28 = .ok (.istore 4, 2) := by decide +kernel
theorem dX5_counts_30 : decode cX5_counts 30 = .ok (.iload 4, 2) := by decide +kernel
theorem dX5_counts_32 : decode cX5_counts 32 = .ok (.ifCond .le 33, 3) := by decide +kernel
theorem dX5_counts_35 : decode cX5_counts 35 = .ok (.aload_n 0, 1) := by decide +kernel
theorem dX5_counts_36 : decode cX5_counts 36 = .ok (.getfield 34, 3) := by decide +kernel
theorem dX5_counts_39 : decode cX5_counts 39 = .ok (.iconst 3, 1) := by decide +kernel
theorem dX5_counts_40 : decode cX5_counts 40 = .ok (.iload_n 2, 1) := by decide +kernel
theorem dX5_counts_41 : decode cX5_counts 41 = .ok (.imul, 1) := by decide +kernel
theorem dX5_counts_42 : decode cX5_counts 42 = .ok (.iload 4, 2) := by decide +kernel
theorem dX5_counts_44 : decode cX5_counts 44 = .ok (.iadd, 1) := by decide +kernel
theorem dX5_counts_45 : decode cX5_counts 45 = .ok (.aload_n 0, 1) := by decide +kernel
theorem dX5_counts_46 : decode cX5_counts 46 = .ok (.getfield 34, 3) := by decide +kernel
theorem dX5_counts_49 : decode cX5_counts 49 = .ok (.iconst 3, 1) := by decide +kernel
theorem dX5_counts_50 : decode cX5_counts 50 = .ok (.iload_n 2, 1) := by decide +kernel
theorem dX5_counts_51 : decode cX5_counts 51 = .ok (.imul, 1) := by decide +kernel
theorem dX5_counts_52 : decode cX5_counts 52 = .ok (.iload 4, 2) := by decide +kernel
theorem dX5_counts_54 : decode cX5_counts 54 = .ok (.iadd, 1) := by decide +kernel
theorem dX5_counts_55 : decode cX5_counts 55 = .ok (.iconst 1, 1) := by decide +kernel
theorem dX5_counts_56 : decode cX5_counts 56 = .ok (.isub, 1) := by decide +kernel
theorem dX5_counts_57 : decode cX5_counts 57 = .ok (.iaload, 1) := by decide +kernel
theorem dX5_counts_58 : decode cX5_counts 58 = .ok (.iastore, 1) := by decide +kernel
theorem dX5_counts_59 : decode cX5_counts 59 = .ok (.iinc 4 (-1), 3) := by decide +kernel
theorem dX5_counts_62 : decode cX5_counts 62 = .ok (.goto (-32), 3) := by decide +kernel
theorem dX5_counts_65 : decode cX5_counts 65 = .ok (.aload_n 0, 1) := by decide +kernel
theorem dX5_counts_66 : decode cX5_counts 66 = .ok (.getfield 34, 3) := by decide +kernel
theorem dX5_counts_69 : decode cX5_counts 69 = .ok (.iconst 3, 1) := by decide +kernel
theorem dX5_counts_70 : decode cX5_counts 70 = .ok (.iload_n 2, 1) := by decide +kernel
theorem dX5_counts_71 : decode cX5_counts 71 = .ok (.imul, 1) := by decide +kernel
theorem dX5_counts_72 : decode cX5_counts 72 = .ok (.iload_n 1, 1) := by decide +kernel
theorem dX5_counts_73 : decode cX5_counts 73 = .ok (.iastore, 1) := by decide +kernel
theorem dX5_counts_74 : decode cX5_counts 74 = .ok (.return_, 1) := by decide +kernel
theorem dX5_goesFar_0 : decode cX5_goesFar 0 = .ok (.iconst 0, 1) := by decide +kernel
theorem dX5_goesFar_1 : decode cX5_goesFar 1 = .ok (.istore_n 2, 1) := by decide +kernel
theorem dX5_goesFar_2 : decode cX5_goesFar 2 = .ok (.iload_n 2, 1) := by decide +kernel
theorem dX5_goesFar_3 : decode cX5_goesFar 3 = .ok (.iconst 4, 1) := by decide +kernel
theorem dX5_goesFar_4 : decode cX5_goesFar 4 = .ok (.if_icmp .ge 56, 3) := by decide +kernel
theorem dX5_goesFar_7 : decode cX5_goesFar 7 = .ok (.aload_n 0, 1) := by decide +kernel
theorem dX5_goesFar_8 : decode cX5_goesFar 8 = .ok (.getfield 16, 3) := by decide +kernel
theorem dX5_goesFar_11 : decode cX5_goesFar 11 = .ok (.iconst 4, 1) := by decide +kernel
theorem dX5_goesFar_12 : decode cX5_goesFar 12 = .ok (.iload_n 1, 1) := by decide +kernel
theorem dX5_goesFar_13 : decode cX5_goesFar 13 = .ok (.imul, 1) := by decide +kernel
theorem dX5_goesFar_14 : decode cX5_goesFar 14 = .ok (.iload_n 2, 1) := by decide +kernel
theorem dX5_goesFar_15 : decode cX5_goesFar 15 = .ok (.iadd, 1) := by decide +kernel
theorem dX5_goesFar_16 : decode cX5_goesFar 16 = .ok (.aload_n 0, 1) := by decide +kernel
theorem dX5_goesFar_17 : decode cX5_goesFar 17 = .ok (.getfield 22, 3) := by decide +kernel
theorem dX5_goesFar_20 : decode cX5_goesFar 20 = .ok (.iload_n 1, 1) := by decide +kernel
theorem dX5_goesFar_21 : decode cX5_goesFar 21 = .ok (.iaload, 1) := by decide +kernel
theorem dX5_goesFar_22 : decode cX5_goesFar 22 = .ok (.iload_n 2, 1) := by decide +kernel
theorem dX5_goesFar_23 : decode cX5_goesFar 23 = .ok (.ishr, 1) := by decide +kernel
theorem dX5_goesFar_24 : decode cX5_goesFar 24 = .ok (.iconst 1, 1) := by decide +kernel
theorem dX5_goesFar_25 : decode cX5_goesFar 25 = .ok (.iand, 1) := by decide +kernel
theorem dX5_goesFar_26 : decode cX5_goesFar 26 = .ok (.iconst 1, 1) := by decide +kernel
theorem dX5_goesFar_27 : decode cX5_goesFar 27 = .ok (.if_icmp .ne 16, 3) := by decide +kernel
theorem dX5_goesFar_30 : decode cX5_goesFar 30 = .ok (.aload_n 0, 1) := by decide +kernel
theorem dX5_goesFar_31 : decode cX5_goesFar 31 = .ok (.getfield 19, 3) := by decide +kernel
theorem dX5_goesFar_34 : decode cX5_goesFar 34 = .ok (.iconst 4, 1) := by decide +kernel
theorem dX5_goesFar_35 : decode cX5_goesFar 35 = .ok (.iload_n 1, 1) := by decide +kernel
theorem dX5_goesFar_36 : decode cX5_goesFar 36 = .ok (.imul, 1) := by decide +kernel
theorem dX5_goesFar_37 : decode cX5_goesFar 37 = .ok (.iload_n 2, 1) := by decide +kernel
theorem dX5_goesFar_38 : decode cX5_goesFar 38 = .ok (.iadd, 1) := by decide +kernel
theorem dX5_goesFar_39 : decode cX5_goesFar 39 = .ok (.iaload, 1) := by decide +kernel
theorem dX5_goesFar_40 : decode cX5_goesFar 40 = .ok (.goto 13, 3) := by decide +kernel
theorem dX5_goesFar_43 : decode cX5_goesFar 43 = .ok (.aload_n 0, 1) := by decide +kernel
theorem dX5_goesFar_44 : decode cX5_goesFar 44 = .ok (.getfield 16, 3) := by decide +kernel
theorem dX5_goesFar_47 : decode cX5_goesFar 47 = .ok (.iconst 4, 1) := by decide +kernel
theorem dX5_goesFar_48 : decode cX5_goesFar 48 = .ok (.iload_n 1, 1) := by decide +kernel
theorem dX5_goesFar_49 : decode cX5_goesFar 49 = .ok (.imul, 1) := by decide +kernel
theorem dX5_goesFar_50 : decode cX5_goesFar 50 = .ok (.iload_n 2, 1) := by decide +kernel
theorem dX5_goesFar_51 : decode cX5_goesFar 51 = .ok (.iadd, 1) := by decide +kernel
theorem dX5_goesFar_52 : decode cX5_goesFar 52 = .ok (.iaload, 1) := by decide +kernel
theorem dX5_goesFar_53 : decode cX5_goesFar 53 = .ok (.iastore, 1) := by decide +kernel
theorem dX5_goesFar_54 : decode cX5_goesFar 54 = .ok (.iinc 2 1, 3) := by decide +kernel
theorem dX5_goesFar_57 : decode cX5_goesFar 57 = .ok (.goto (-55), 3) := by decide +kernel
theorem dX5_goesFar_60 : decode cX5_goesFar 60 = .ok (.aload_n 0, 1) := by decide +kernel
theorem dX5_goesFar_61 : decode cX5_goesFar 61 = .ok (.getfield 22, 3) := by decide +kernel
theorem dX5_goesFar_64 : decode cX5_goesFar 64 = .ok (.iload_n 1, 1) := by decide +kernel
theorem dX5_goesFar_65 : decode cX5_goesFar 65 = .ok (.iconst 0, 1) := by decide +kernel
theorem dX5_goesFar_66 : decode cX5_goesFar 66 = .ok (.iastore, 1) := by decide +kernel
theorem dX5_goesFar_67 : decode cX5_goesFar 67 = .ok (.aload_n 0, 1) := by decide +kernel
theorem dX5_goesFar_68 : decode cX5_goesFar 68 = .ok (.getfield 25, 3) := by decide +kernel
theorem dX5_goesFar_71 : decode cX5_goesFar 71 = .ok (.iload_n 1, 1) := by decide +kernel
theorem dX5_goesFar_72 : decode cX5_goesFar 72 = .ok (.iconst 0, 1) := by decide +kernel
theorem dX5_goesFar_73 : decode cX5_goesFar 73 = .ok (.iastore, 1) := by decide +kernel
theorem dX5_goesFar_74 : decode cX5_goesFar 74 = .ok (.aload_n 0, 1) := by decide +kernel
theorem dX5_goesFar_75 : decode cX5_goesFar 75 = .ok (.getfield 58, 3) := by decide +kernel
theorem dX5_goesFar_78 : decode cX5_goesFar 78 = .ok (.bipush 6, 2) := by decide +kernel
theorem dX5_goesFar_80 : decode cX5_goesFar 80 = .ok (.dup2, 1) := by decide +kernel
theorem dX5_goesFar_81 : decode cX5_goesFar 81 = .ok (.iaload, 1) := by decide +kernel
theorem dX5_goesFar_82 : decode cX5_goesFar 82 = .ok (.iconst 1, 1) := by decide +kernel
theorem dX5_goesFar_83 : decode cX5_goesFar 83 = .ok (.iadd, 1) := by decide +kernel
theorem dX5_goesFar_84 : decode cX5_goesFar 84 = .ok (.iastore, 1) := by decide +kernel
theorem dX5_goesFar_85 : decode cX5_goesFar 85 = .ok (.aload_n 0, 1) := by decide +kernel
theorem dX5_goesFar_86 : decode cX5_goesFar 86 = .ok (.dup, 1) := by decide +kernel
theorem dX5_goesFar_87 : decode cX5_goesFar 87 = .ok (.getfield 90, 3) := by decide +kernel
theorem dX5_goesFar_90 : decode cX5_goesFar 90 = .ok (.ldc 141, 2) := by decide +kernel
theorem dX5_goesFar_92 : decode cX5_goesFar 92 = .ok (.fadd, 1) := by decide +kernel
theorem dX5_goesFar_93 : decode cX5_goesFar 93 = .ok (.putfield 90, 3) := by decide +kernel
theorem dX5_goesFar_96 : decode cX5_goesFar 96 = .ok (.return_, 1) := by decide +kernel
theorem dX5_halfLong_0 : decode cX5_halfLong 0 = .ok (.aload_n 0, 1) := by decide +kernel
theorem dX5_halfLong_1 : decode cX5_halfLong 1 = .ok (.getfield 13, 3) := by decide +kernel
theorem dX5_halfLong_4 : decode cX5_halfLong 4 = .ok (.iconst 4, 1) := by decide +kernel
theorem dX5_halfLong_5 : decode cX5_halfLong 5 = .ok (.iaload, 1) := by decide +kernel
theorem dX5_halfLong_6 : decode cX5_halfLong 6 = .ok (.iconst 1, 1) := by decide +kernel
theorem dX5_halfLong_7 : decode cX5_halfLong 7 = .ok (.if_icmp .le 14, 3) := by decide +kernel
theorem dX5_halfLong_10 : decode cX5_halfLong 10 = .ok (.aload_n 0, 1) := by decide +kernel
theorem dX5_halfLong_11 : decode cX5_halfLong 11 = .ok (.getfield 13, 3) := by decide +kernel
theorem dX5_halfLong_14 : decode cX5_halfLong 14 = .ok (.iconst 4, 1) := by decide +kernel
theorem dX5_halfLong_15 : decode cX5_halfLong 15 = .ok (.iaload, 1) := by decide +kernel
theorem dX5_halfLong_16 : decode cX5_halfLong 16 = .ok (.iconst 2, 1) := by decide +kernel
theorem dX5_halfLong_17 : decode cX5_halfLong 17 = .ok (.idiv, 1) := by decide +kernel
theorem dX5_halfLong_18 : decode cX5_halfLong 18 = .ok (.goto 4, 3) := by decide +kernel
theorem dX5_halfLong_21 : decode cX5_halfLong 21 = .ok (.iconst 1, 1) := by decide +kernel
theorem dX5_halfLong_22 : decode cX5_halfLong 22 = .ok (.ireturn, 1) := by decide +kernel
theorem dX5_makesRoom_0 : decode cX5_makesRoom 0 = .ok (.aload_n 0, 1) := by decide +kernel
theorem dX5_makesRoom_1 : decode cX5_makesRoom 1 = .ok (.getfield 31, 3) := by decide +kernel
theorem dX5_makesRoom_4 : decode cX5_makesRoom 4 = .ok (.iload_n 1, 1) := by decide +kernel
theorem dX5_makesRoom_5 : decode cX5_makesRoom 5 = .ok (.iaload, 1) := by decide +kernel
theorem dX5_makesRoom_6 : decode cX5_makesRoom 6 = .ok (.aload_n 0, 1) := by decide +kernel
theorem dX5_makesRoom_7 : decode cX5_makesRoom 7 = .ok (.getfield 13, 3) := by decide +kernel
theorem dX5_makesRoom_10 : decode cX5_makesRoom 10 = .ok (.iconst 0, 1) := by decide +kernel
theorem dX5_makesRoom_11 : decode cX5_makesRoom 11 = .ok (.iaload, 1) := by decide +kernel
theorem dX5_makesRoom_12 : decode cX5_makesRoom 12 = .ok (.if_icmp .ge 4, 3) := by decide +kernel
theorem dX5_makesRoom_15 : decode cX5_makesRoom 15 = .ok (.return_, 1) := by decide +kernel
theorem dX5_makesRoom_16 : decode cX5_makesRoom 16 = .ok (.aload_n 0, 1) := by decide +kernel
theorem dX5_makesRoom_17 : decode cX5_makesRoom 17 = .ok (.getfield 31, 3) := by decide +kernel
theorem dX5_makesRoom_20 : decode cX5_makesRoom 20 = .ok (.iload_n 1, 1) := by decide +kernel
theorem dX5_makesRoom_21 : decode cX5_makesRoom 21 = .ok (.dup2, 1) := by decide +kernel
theorem dX5_makesRoom_22 : decode cX5_makesRoom 22 = .ok (.iaload, 1) := by decide +kernel
theorem dX5_makesRoom_23 : decode cX5_makesRoom 23 = .ok (.iconst 1, 1) := by decide +kernel
theorem dX5_makesRoom_24 : decode cX5_makesRoom 24 = .ok (.isub, 1) := by decide +kernel
theorem dX5_makesRoom_25 : decode cX5_makesRoom 25 = .ok (.iastore, 1) := by decide +kernel
theorem dX5_makesRoom_26 : decode cX5_makesRoom 26 = .ok (.aload_n 0, 1) := by decide +kernel
theorem dX5_makesRoom_27 : decode cX5_makesRoom 27 = .ok (.getfield 34, 3) := by decide +kernel
theorem dX5_makesRoom_30 : decode cX5_makesRoom 30 = .ok (.iconst 3, 1) := by decide +kernel
theorem dX5_makesRoom_31 : decode cX5_makesRoom 31 = .ok (.iload_n 1, 1) := by decide +kernel
theorem dX5_makesRoom_32 : decode cX5_makesRoom 32 = .ok (.imul, 1) := by decide +kernel
theorem dX5_makesRoom_33 : decode cX5_makesRoom 33 = .ok (.aload_n 0, 1) := by decide +kernel
theorem dX5_makesRoom_34 : decode cX5_makesRoom 34 = .ok (.getfield 31, 3) := by decide +kernel
theorem dX5_makesRoom_37 : decode cX5_makesRoom 37 = .ok (.iload_n 1, 1) := by decide +kernel
theorem dX5_makesRoom_38 : decode cX5_makesRoom 38 = .ok (.iaload, 1) := by decide +kernel
theorem dX5_makesRoom_39 : decode cX5_makesRoom 39 = .ok (.iadd, 1) := by decide +kernel
theorem dX5_makesRoom_40 : decode cX5_makesRoom 40 = .ok (.iaload, 1) := by decide +kernel
theorem dX5_makesRoom_41 : decode cX5_makesRoom 41 = .ok (.istore_n 2, 1) := by decide +kernel
theorem dX5_makesRoom_42 : decode cX5_makesRoom 42 = .ok (.aload_n 0, 1) := by decide +kernel
theorem dX5_makesRoom_43 : decode cX5_makesRoom 43 = .ok (.getfield 22, 3) := by decide +kernel
theorem dX5_makesRoom_46 : decode cX5_makesRoom 46 = .ok (.iload_n 2, 1) := by decide +kernel
theorem dX5_makesRoom_47 : decode cX5_makesRoom 47 = .ok (.iaload, 1) := by decide +kernel
theorem dX5_makesRoom_48 : decode cX5_makesRoom 48 = .ok (.ifCond .ne 13, 3) := by decide +kernel
theorem dX5_makesRoom_51 : decode cX5_makesRoom 51 = .ok (.aload_n 0, 1) := by decide +kernel
theorem dX5_makesRoom_52 : decode cX5_makesRoom 52 = .ok (.getfield 25, 3) := by decide +kernel
theorem dX5_makesRoom_55 : decode cX5_makesRoom 55 = .ok (.iload_n 2, 1) := by decide +kernel
theorem dX5_makesRoom_56 : decode cX5_makesRoom 56 = .ok (.iconst 0, 1) := by decide +kernel
theorem dX5_makesRoom_57 : decode cX5_makesRoom 57 = .ok (.iastore, 1) := by decide +kernel
theorem dX5_makesRoom_58 : decode cX5_makesRoom 58 = .ok (.goto 71, 3) := by decide +kernel
theorem dX5_makesRoom_61 : decode cX5_makesRoom 61 = .ok (.aload_n 0, 1) := by decide +kernel
theorem dX5_makesRoom_62 : decode cX5_makesRoom 62 = .ok (.getfield 55, 3) := by decide +kernel
theorem dX5_makesRoom_65 : decode cX5_makesRoom 65 = .ok (.iconst 1, 1) := by decide +kernel
theorem dX5_makesRoom_66 : decode cX5_makesRoom 66 = .ok (.iaload, 1) := by decide +kernel
theorem dX5_makesRoom_67 : decode cX5_makesRoom 67 = .ok (.aload_n 0, 1) := by decide +kernel
theorem dX5_makesRoom_68 : decode cX5_makesRoom 68 = .ok (.getfield 13, 3) := by decide +kernel
theorem dX5_makesRoom_71 : decode cX5_makesRoom 71 = .ok (.iconst 1, 1) := by decide +kernel
theorem dX5_makesRoom_72 : decode cX5_makesRoom 72 = .ok (.iaload, 1) := by decide +kernel
theorem dX5_makesRoom_73 : decode cX5_makesRoom 73 = .ok (.if_icmp .ge 41, 3) := by decide +kernel
theorem dX5_makesRoom_76 : decode cX5_makesRoom 76 = .ok (.aload_n 0, 1) := by decide +kernel
theorem dX5_makesRoom_77 : decode cX5_makesRoom 77 = .ok (.getfield 25, 3) := by decide +kernel
theorem dX5_makesRoom_80 : decode cX5_makesRoom 80 = .ok (.iload_n 2, 1) := by decide +kernel
theorem dX5_makesRoom_81 : decode cX5_makesRoom 81 = .ok (.iconst 2, 1) := by decide +kernel
theorem dX5_makesRoom_82 : decode cX5_makesRoom 82 = .ok (.iastore, 1) := by decide +kernel
theorem dX5_makesRoom_83 : decode cX5_makesRoom 83 = .ok (.aload_n 0, 1) := by decide +kernel
theorem dX5_makesRoom_84 : decode cX5_makesRoom 84 = .ok (.getfield 28, 3) := by decide +kernel
theorem dX5_makesRoom_87 : decode cX5_makesRoom 87 = .ok (.iload_n 2, 1) := by decide +kernel
theorem dX5_makesRoom_88 : decode cX5_makesRoom 88 = .ok (.aload_n 0, 1) := by decide +kernel
theorem dX5_makesRoom_89 : decode cX5_makesRoom 89 = .ok (.getfield 58, 3) := by decide +kernel
theorem dX5_makesRoom_92 : decode cX5_makesRoom 92 = .ok (.bipush 9, 2) := by decide +kernel
theorem dX5_makesRoom_94 : decode cX5_makesRoom 94 = .ok (.iaload, 1) := by decide +kernel
theorem dX5_makesRoom_95 : decode cX5_makesRoom 95 = .ok (.aload_n 0, 1) := by decide +kernel
theorem dX5_makesRoom_96 : decode cX5_makesRoom 96 = .ok (.invokevirtual 142, 3) := by decide +kernel
theorem dX5_makesRoom_99 : decode cX5_makesRoom 99 = .ok (.iadd, 1) := by decide +kernel
theorem dX5_makesRoom_100 : decode cX5_makesRoom 100 = .ok (.iastore, 1) := by decide +kernel
theorem dX5_makesRoom_101 : decode cX5_makesRoom 101 = .ok (.aload_n 0, 1) := by decide +kernel
theorem dX5_makesRoom_102 : decode cX5_makesRoom 102 = .ok (.getfield 55, 3) := by decide +kernel
theorem dX5_makesRoom_105 : decode cX5_makesRoom 105 = .ok (.iconst 1, 1) := by decide +kernel
theorem dX5_makesRoom_106 : decode cX5_makesRoom 106 = .ok (.dup2, 1) := by decide +kernel
theorem dX5_makesRoom_107 : decode cX5_makesRoom 107 = .ok (.iaload, 1) := by decide +kernel
theorem dX5_makesRoom_108 : decode cX5_makesRoom 108 = .ok (.iconst 1, 1) := by decide +kernel
theorem dX5_makesRoom_109 : decode cX5_makesRoom 109 = .ok (.iadd, 1) := by decide +kernel
theorem dX5_makesRoom_110 : decode cX5_makesRoom 110 = .ok (.iastore, 1) := by decide +kernel
theorem dX5_makesRoom_111 : decode cX5_makesRoom 111 = .ok (.goto 18, 3) := by decide +kernel
theorem dX5_makesRoom_114 : decode cX5_makesRoom 114 = .ok (.aload_n 0, 1) := by decide +kernel
theorem dX5_makesRoom_115 : decode cX5_makesRoom 115 = .ok (.getfield 58, 3) := by decide +kernel
theorem dX5_makesRoom_118 : decode cX5_makesRoom 118 = .ok (.iconst 5, 1) := by decide +kernel
theorem dX5_makesRoom_119 : decode cX5_makesRoom 119 = .ok (.dup2, 1) := by decide +kernel
theorem dX5_makesRoom_120 : decode cX5_makesRoom 120 = .ok (.iaload, 1) := by decide +kernel
theorem dX5_makesRoom_121 : decode cX5_makesRoom 121 = .ok (.iconst 1, 1) := by decide +kernel
theorem dX5_makesRoom_122 : decode cX5_makesRoom 122 = .ok (.iadd, 1) := by decide +kernel
theorem dX5_makesRoom_123 : decode cX5_makesRoom 123 = .ok (.iastore, 1) := by decide +kernel
theorem dX5_makesRoom_124 : decode cX5_makesRoom 124 = .ok (.aload_n 0, 1) := by decide +kernel
theorem dX5_makesRoom_125 : decode cX5_makesRoom 125 = .ok (.iload_n 2, 1) := by decide +kernel
theorem dX5_makesRoom_126 : decode cX5_makesRoom 126 = .ok (.invokevirtual 145, 3) := by decide +kernel
theorem dX5_makesRoom_129 : decode cX5_makesRoom 129 = .ok (.return_, 1) := by decide +kernel
theorem dX5_comesNear_0 : decode cX5_comesNear 0 = .ok (.iload_n 1, 1) := by decide +kernel
theorem dX5_comesNear_1 : decode cX5_comesNear 1 = .ok (.invokestatic 137, 3) := by decide +kernel
theorem dX5_comesNear_4 : decode cX5_comesNear 4 = .ok (.istore_n 2, 1) := by decide +kernel
theorem dX5_comesNear_5 : decode cX5_comesNear 5 = .ok (.aload_n 0, 1) := by decide +kernel
theorem dX5_comesNear_6 : decode cX5_comesNear 6 = .ok (.iload_n 2, 1) := by decide +kernel
theorem dX5_comesNear_7 : decode cX5_comesNear 7 = .ok (.invokevirtual 148, 3) := by decide +kernel
theorem dX5_comesNear_10 : decode cX5_comesNear 10 = .ok (.aload_n 0, 1) := by decide +kernel
theorem dX5_comesNear_11 : decode cX5_comesNear 11 = .ok (.getfield 31, 3) := by decide +kernel
theorem dX5_comesNear_14 : decode cX5_comesNear 14 = .ok (.iload_n 2, 1) := by decide +kernel
theorem dX5_comesNear_15 : decode cX5_comesNear 15 = .ok (.iaload, 1) := by decide +kernel
theorem dX5_comesNear_16 : decode cX5_comesNear 16 = .ok (.istore_n 3, 1) := by decide +kernel
theorem dX5_comesNear_17 : decode cX5_comesNear 17 = .ok (.iload_n 3, 1) := by decide +kernel
theorem dX5_comesNear_18 : decode cX5_comesNear 18 = .ok (.ifCond .le 31, 3) := by decide +kernel
theorem dX5_comesNear_21 : decode cX5_comesNear 21 = .ok (.aload_n 0, 1) := by decide +kernel
theorem dX5_comesNear_22 : decode cX5_comesNear 22 = .ok (.getfield 34, 3) := by decide +kernel
theorem dX5_comesNear_25 : decode cX5_comesNear 25 = .ok (.iconst 3, 1) := by decide +kernel
theorem dX5_comesNear_26 : decode cX5_comesNear 26 = .ok (.iload_n 2, 1) := by decide +kernel
theorem dX5_comesNear_27 : decode cX5_comesNear 27 = .ok (.imul, 1) := by decide +kernel
theorem dX5_comesNear_28 : decode cX5_comesNear 28 = .ok (.iload_n 3, 1) := by decide +kernel
theorem dX5_comesNear_29 : decode cX5_comesNear 29 = .ok (.iadd, 1) := by decide +kernel
theorem dX5_comesNear_30 : decode cX5_comesNear 30 = .ok (.aload_n 0, 1) := by decide +kernel
theorem dX5_comesNear_31 : decode cX5_comesNear 31 = .ok (.getfield 34, 3) := by decide +kernel
theorem dX5_comesNear_34 : decode cX5_comesNear 34 = .ok (.iconst 3, 1) := by decide +kernel
theorem dX5_comesNear_35 : decode cX5_comesNear 35 = .ok (.iload_n 2, 1) := by decide +kernel
theorem dX5_comesNear_36 : decode cX5_comesNear 36 = .ok (.imul, 1) := by decide +kernel
theorem dX5_comesNear_37 : decode cX5_comesNear 37 = .ok (.iload_n 3, 1) := by decide +kernel
theorem dX5_comesNear_38 : decode cX5_comesNear 38 = .ok (.iadd, 1) := by decide +kernel
theorem dX5_comesNear_39 : decode cX5_comesNear 39 = .ok (.iconst 1, 1) := by decide +kernel
theorem dX5_comesNear_40 : decode cX5_comesNear 40 = .ok (.isub, 1) := by decide +kernel
theorem dX5_comesNear_41 : decode cX5_comesNear 41 = .ok (.iaload, 1) := by decide +kernel
theorem dX5_comesNear_42 : decode cX5_comesNear 42 = .ok (.iastore, 1) := by decide +kernel
theorem dX5_comesNear_43 : decode cX5_comesNear 43 = .ok (.iinc 3 (-1), 3) := by decide +kernel
theorem dX5_comesNear_46 : decode cX5_comesNear 46 = .ok (.goto (-29), 3) := by decide +kernel
theorem dX5_comesNear_49 : decode cX5_comesNear 49 = .ok (.aload_n 0, 1) := by decide +kernel
theorem dX5_comesNear_50 : decode cX5_comesNear 50 = .ok (.getfield 34, 3) := by decide +kernel
theorem dX5_comesNear_53 : decode cX5_comesNear 53 = .ok (.iconst 3, 1) := by decide +kernel
theorem dX5_comesNear_54 : decode cX5_comesNear 54 = .ok (.iload_n 2, 1) := by decide +kernel
theorem dX5_comesNear_55 : decode cX5_comesNear 55 = .ok (.imul, 1) := by decide +kernel
theorem dX5_comesNear_56 : decode cX5_comesNear 56 = .ok (.iload_n 1, 1) := by decide +kernel
theorem dX5_comesNear_57 : decode cX5_comesNear 57 = .ok (.iastore, 1) := by decide +kernel
theorem dX5_comesNear_58 : decode cX5_comesNear 58 = .ok (.aload_n 0, 1) := by decide +kernel
theorem dX5_comesNear_59 : decode cX5_comesNear 59 = .ok (.getfield 31, 3) := by decide +kernel
theorem dX5_comesNear_62 : decode cX5_comesNear 62 = .ok (.iload_n 2, 1) := by decide +kernel
theorem dX5_comesNear_63 : decode cX5_comesNear 63 = .ok (.dup2, 1) := by decide +kernel
theorem dX5_comesNear_64 : decode cX5_comesNear 64 = .ok (.iaload, 1) := by decide +kernel
theorem dX5_comesNear_65 : decode cX5_comesNear 65 = .ok (.iconst 1, 1) := by decide +kernel
theorem dX5_comesNear_66 : decode cX5_comesNear 66 = .ok (.iadd, 1) := by decide +kernel
theorem dX5_comesNear_67 : decode cX5_comesNear 67 = .ok (.iastore, 1) := by decide +kernel
theorem dX5_comesNear_68 : decode cX5_comesNear 68 = .ok (.aload_n 0, 1) := by decide +kernel
theorem dX5_comesNear_69 : decode cX5_comesNear 69 = .ok (.getfield 25, 3) := by decide +kernel
theorem dX5_comesNear_72 : decode cX5_comesNear 72 = .ok (.iload_n 1, 1) := by decide +kernel
theorem dX5_comesNear_73 : decode cX5_comesNear 73 = .ok (.iconst 1, 1) := by decide +kernel
theorem dX5_comesNear_74 : decode cX5_comesNear 74 = .ok (.iastore, 1) := by decide +kernel
theorem dX5_comesNear_75 : decode cX5_comesNear 75 = .ok (.return_, 1) := by decide +kernel
theorem dX5_getsItem_0 : decode cX5_getsItem 0 = .ok (.aload_n 0, 1) := by decide +kernel
theorem dX5_getsItem_1 : decode cX5_getsItem 1 = .ok (.getfield 58, 3) := by decide +kernel
theorem dX5_getsItem_4 : decode cX5_getsItem 4 = .ok (.bipush 9, 2) := by decide +kernel
theorem dX5_getsItem_6 : decode cX5_getsItem 6 = .ok (.iaload, 1) := by decide +kernel
theorem dX5_getsItem_7 : decode cX5_getsItem 7 = .ok (.iload 4, 2) := by decide +kernel
theorem dX5_getsItem_9 : decode cX5_getsItem 9 = .ok (.isub, 1) := by decide +kernel
theorem dX5_getsItem_10 : decode cX5_getsItem 10 = .ok (.istore 5, 2) := by decide +kernel
theorem dX5_getsItem_12 : decode cX5_getsItem 12 = .ok (.aload_n 0, 1) := by decide +kernel
theorem dX5_getsItem_13 : decode cX5_getsItem 13 = .ok (.getfield 58, 3) := by decide +kernel
theorem dX5_getsItem_16 : decode cX5_getsItem 16 = .ok (.bipush 8, 2) := by decide +kernel
theorem dX5_getsItem_18 : decode cX5_getsItem 18 = .ok (.dup2, 1) := by decide +kernel
theorem dX5_getsItem_19 : decode cX5_getsItem 19 = .ok (.iaload, 1) := by decide +kernel
theorem dX5_getsItem_20 : decode cX5_getsItem 20 = .ok (.iconst 1, 1) := by decide +kernel
theorem dX5_getsItem_21 : decode cX5_getsItem 21 = .ok (.iadd, 1) := by decide +kernel
theorem dX5_getsItem_22 : decode cX5_getsItem 22 = .ok (.iastore, 1) := by decide +kernel
theorem dX5_getsItem_23 : decode cX5_getsItem 23 = .ok (.aload_n 0, 1) := by decide +kernel
theorem dX5_getsItem_24 : decode cX5_getsItem 24 = .ok (.dup, 1) := by decide +kernel
theorem dX5_getsItem_25 : decode cX5_getsItem 25 = .ok (.getfield 94, 3) := by decide +kernel
theorem dX5_getsItem_28 : decode cX5_getsItem 28 = .ok (.iload 5, 2) := by decide +kernel
theorem dX5_getsItem_30 : decode cX5_getsItem 30 = .ok (.i2l, 1) := by decide +kernel
theorem dX5_getsItem_31 : decode cX5_getsItem 31 = .ok (.ladd, 1) := by decide +kernel
theorem dX5_getsItem_32 : decode cX5_getsItem 32 = .ok (.putfield 94, 3) := by decide +kernel
theorem dX5_getsItem_35 : decode cX5_getsItem 35 = .ok (.aload_n 0, 1) := by decide +kernel
theorem dX5_getsItem_36 : decode cX5_getsItem 36 = .ok (.dup, 1) := by decide +kernel
theorem dX5_getsItem_37 : decode cX5_getsItem 37 = .ok (.getfield 98, 3) := by decide +kernel
theorem dX5_getsItem_40 : decode cX5_getsItem 40 = .ok (.iload 5, 2) := by decide +kernel
theorem dX5_getsItem_42 : decode cX5_getsItem 42 = .ok (.i2l, 1) := by decide +kernel
theorem dX5_getsItem_43 : decode cX5_getsItem 43 = .ok (.iload 5, 2) := by decide +kernel
theorem dX5_getsItem_45 : decode cX5_getsItem 45 = .ok (.i2l, 1) := by decide +kernel
theorem dX5_getsItem_46 : decode cX5_getsItem 46 = .ok (.lmul, 1) := by decide +kernel
theorem dX5_getsItem_47 : decode cX5_getsItem 47 = .ok (.ladd, 1) := by decide +kernel
theorem dX5_getsItem_48 : decode cX5_getsItem 48 = .ok (.putfield 98, 3) := by decide +kernel
theorem dX5_getsItem_51 : decode cX5_getsItem 51 = .ok (.aload_n 0, 1) := by decide +kernel
theorem dX5_getsItem_52 : decode cX5_getsItem 52 = .ok (.getfield 55, 3) := by decide +kernel
theorem dX5_getsItem_55 : decode cX5_getsItem 55 = .ok (.iconst 2, 1) := by decide +kernel
theorem dX5_getsItem_56 : decode cX5_getsItem 56 = .ok (.iload 5, 2) := by decide +kernel
theorem dX5_getsItem_58 : decode cX5_getsItem 58 = .ok (.aload_n 0, 1) := by decide +kernel
theorem dX5_getsItem_59 : decode cX5_getsItem 59 = .ok (.getfield 55, 3) := by decide +kernel
theorem dX5_getsItem_62 : decode cX5_getsItem 62 = .ok (.iconst 2, 1) := by decide +kernel
theorem dX5_getsItem_63 : decode cX5_getsItem 63 = .ok (.iaload, 1) := by decide +kernel
theorem dX5_getsItem_64 : decode cX5_getsItem 64 = .ok (.if_icmp .le 8, 3) := by decide +kernel
theorem dX5_getsItem_67 : decode cX5_getsItem 67 = .ok (.iload 5, 2) := by decide +kernel
theorem dX5_getsItem_69 : decode cX5_getsItem 69 = .ok (.goto 9, 3) := by decide +kernel
theorem dX5_getsItem_72 : decode cX5_getsItem 72 = .ok (.aload_n 0, 1) := by decide +kernel
theorem dX5_getsItem_73 : decode cX5_getsItem 73 = .ok (.getfield 55, 3) := by decide +kernel
theorem dX5_getsItem_76 : decode cX5_getsItem 76 = .ok (.iconst 2, 1) := by decide +kernel
theorem dX5_getsItem_77 : decode cX5_getsItem 77 = .ok (.iaload, 1) := by decide +kernel
theorem dX5_getsItem_78 : decode cX5_getsItem 78 = .ok (.iastore, 1) := by decide +kernel
theorem dX5_getsItem_79 : decode cX5_getsItem 79 = .ok (.iload_n 1, 1) := by decide +kernel
theorem dX5_getsItem_80 : decode cX5_getsItem 80 = .ok (.sipush 200, 3) := by decide +kernel
theorem dX5_getsItem_83 : decode cX5_getsItem 83 = .ok (.if_icmp .ge 27, 3) := by decide +kernel
theorem dX5_getsItem_86 : decode cX5_getsItem 86 = .ok (.aload_n 0, 1) := by decide +kernel
theorem dX5_getsItem_87 : decode cX5_getsItem 87 = .ok (.getfield 61, 3) := by decide +kernel
theorem dX5_getsItem_90 : decode cX5_getsItem 90 = .ok (.iload_n 1, 1) := by decide +kernel
theorem dX5_getsItem_91 : decode cX5_getsItem 91 = .ok (.aload_n 0, 1) := by decide +kernel
theorem dX5_getsItem_92 : decode cX5_getsItem 92 = .ok (.getfield 19, 3) := by decide +kernel
theorem dX5_getsItem_95 : decode cX5_getsItem 95 = .ok (.iconst 4, 1) := by decide +kernel
theorem dX5_getsItem_96 : decode cX5_getsItem 96 = .ok (.iload_n 2, 1) := by decide +kernel
theorem dX5_getsItem_97 : decode cX5_getsItem 97 = .ok (.imul, 1) := by decide +kernel
theorem dX5_getsItem_98 : decode cX5_getsItem 98 = .ok (.iload_n 3, 1) := by decide +kernel
theorem dX5_getsItem_99 : decode cX5_getsItem 99 = .ok (.iadd, 1) := by decide +kernel
theorem dX5_getsItem_100 : decode cX5_getsItem 100 = .ok (.iaload, 1) := by decide +kernel
theorem dX5_getsItem_101 : decode cX5_getsItem 101 = .ok (.iastore, 1) := by decide +kernel
theorem dX5_getsItem_102 : decode cX5_getsItem 102 = .ok (.aload_n 0, 1) := by decide +kernel
theorem dX5_getsItem_103 : decode cX5_getsItem 103 = .ok (.getfield 64, 3) := by decide +kernel
theorem dX5_getsItem_106 : decode cX5_getsItem 106 = .ok (.iload_n 1, 1) := by decide +kernel
theorem dX5_getsItem_107 : decode cX5_getsItem 107 = .ok (.iload 5, 2) := by decide +kernel
theorem dX5_getsItem_109 : decode cX5_getsItem 109 = .ok (.iastore, 1) := by decide +kernel
theorem dX5_getsItem_110 : decode cX5_getsItem 110 = .ok (.return_, 1) := by decide +kernel
theorem dX5_laysIn_0 : decode cX5_laysIn 0 = .ok (.aload_n 0, 1) := by decide +kernel
theorem dX5_laysIn_1 : decode cX5_laysIn 1 = .ok (.getfield 19, 3) := by decide +kernel
theorem dX5_laysIn_4 : decode cX5_laysIn 4 = .ok (.iconst 4, 1) := by decide +kernel
theorem dX5_laysIn_5 : decode cX5_laysIn 5 = .ok (.iload_n 1, 1) := by decide +kernel
theorem dX5_laysIn_6 : decode cX5_laysIn 6 = .ok (.imul, 1) := by decide +kernel
theorem dX5_laysIn_7 : decode cX5_laysIn 7 = .ok (.iload_n 2, 1) := by decide +kernel
theorem dX5_laysIn_8 : decode cX5_laysIn 8 = .ok (.iadd, 1) := by decide +kernel
theorem dX5_laysIn_9 : decode cX5_laysIn 9 = .ok (.iload_n 3, 1) := by decide +kernel
theorem dX5_laysIn_10 : decode cX5_laysIn 10 = .ok (.iastore, 1) := by decide +kernel
theorem dX5_laysIn_11 : decode cX5_laysIn 11 = .ok (.aload_n 0, 1) := by decide +kernel
theorem dX5_laysIn_12 : decode cX5_laysIn 12 = .ok (.getfield 22, 3) := by decide +kernel
theorem dX5_laysIn_15 : decode cX5_laysIn 15 = .ok (.iload_n 1, 1) := by decide +kernel
theorem dX5_laysIn_16 : decode cX5_laysIn 16 = .ok (.dup2, 1) := by decide +kernel
theorem dX5_laysIn_17 : decode cX5_laysIn 17 = .ok (.iaload, 1) := by decide +kernel
theorem dX5_laysIn_18 : decode cX5_laysIn 18 = .ok (.iconst 1, 1) := by decide +kernel
theorem dX5_laysIn_19 : decode cX5_laysIn 19 = .ok (.iload_n 2, 1) := by decide +kernel
theorem dX5_laysIn_20 : decode cX5_laysIn 20 = .ok (.ishl, 1) := by decide +kernel
theorem dX5_laysIn_21 : decode cX5_laysIn 21 = .ok (.ior, 1) := by decide +kernel
theorem dX5_laysIn_22 : decode cX5_laysIn 22 = .ok (.iastore, 1) := by decide +kernel
theorem dX5_laysIn_23 : decode cX5_laysIn 23 = .ok (.return_, 1) := by decide +kernel
theorem dX5_comesFetched_0 : decode cX5_comesFetched 0 = .ok (.iconst 0, 1) := by decide +kernel
theorem dX5_comesFetched_1 : decode cX5_comesFetched 1 = .ok (.istore_n 2, 1) := by decide +kernel
theorem dX5_comesFetched_2 : decode cX5_comesFetched 2 = .ok (.aload_n 0, 1) := by decide +kernel
theorem dX5_comesFetched_3 : decode cX5_comesFetched 3 = .ok (.getfield 37, 3) := by decide +kernel
theorem dX5_comesFetched_6 : decode cX5_comesFetched 6 = .ok (.iload_n 2, 1) := by decide +kernel
theorem dX5_comesFetched_7 : decode cX5_comesFetched 7 = .ok (.iaload, 1) := by decide +kernel
theorem dX5_comesFetched_8 : decode cX5_comesFetched 8 = .ok (.iload_n 1, 1) := by decide +kernel
theorem dX5_comesFetched_9 : decode cX5_comesFetched 9 = .ok (.if_icmp .eq 9, 3) := by decide +kernel
theorem dX5_comesFetched_12 : decode cX5_comesFetched 12 = .ok (.iinc 2 1, 3) := by decide +kernel
theorem dX5_comesFetched_15 : decode cX5_comesFetched 15 = .ok (.goto (-13), 3) := by decide +kernel
theorem dX5_comesFetched_18 : decode cX5_comesFetched 18 = .ok (.aload_n 0, 1) := by decide +kernel
theorem dX5_comesFetched_19 : decode cX5_comesFetched 19 = .ok (.getfield 55, 3) := by decide +kernel
theorem dX5_comesFetched_22 : decode cX5_comesFetched 22 = .ok (.iconst 0, 1) := by decide +kernel
theorem dX5_comesFetched_23 : decode cX5_comesFetched 23 = .ok (.dup2, 1) := by decide +kernel
theorem dX5_comesFetched_24 : decode cX5_comesFetched 24 = .ok (.iaload, 1) := by decide +kernel
theorem dX5_comesFetched_25 : decode cX5_comesFetched 25 = .ok (.iconst 1, 1) := by decide +kernel
theorem dX5_comesFetched_26 : decode cX5_comesFetched 26 = .ok (.isub, 1) := by decide +kernel
theorem dX5_comesFetched_27 : decode cX5_comesFetched 27 = .ok (.iastore, 1) := by decide +kernel
theorem dX5_comesFetched_28 : decode cX5_comesFetched 28 = .ok (.iload_n 2, 1) := by decide +kernel
theorem dX5_comesFetched_29 : decode cX5_comesFetched 29 = .ok (.istore_n 3, 1) := by decide +kernel
theorem dX5_comesFetched_30 : decode cX5_comesFetched 30 = .ok (.iload_n 3, 1) := by decide +kernel
theorem dX5_comesFetched_31 : decode cX5_comesFetched 31 = .ok (.aload_n 0, 1) := by decide +kernel
theorem dX5_comesFetched_32 : decode cX5_comesFetched 32 = .ok (.getfield 55, 3) := by decide +kernel
theorem dX5_comesFetched_35 : decode cX5_comesFetched 35 = .ok (.iconst 0, 1) := by decide +kernel
theorem dX5_comesFetched_36 : decode cX5_comesFetched 36 = .ok (.iaload, 1) := by decide +kernel
theorem dX5_comesFetched_37 : decode cX5_comesFetched 37 = .ok (.if_icmp .ge 23, 3) := by decide +kernel
theorem dX5_comesFetched_40 : decode cX5_comesFetched 40 = .ok (.aload_n 0, 1) := by decide +kernel
theorem dX5_comesFetched_41 : decode cX5_comesFetched 41 = .ok (.getfield 37, 3) := by decide +kernel
theorem dX5_comesFetched_44 : decode cX5_comesFetched 44 = .ok (.iload_n 3, 1) := by decide +kernel
theorem dX5_comesFetched_45 : decode cX5_comesFetched 45 = .ok (.aload_n 0, 1) := by decide +kernel
theorem dX5_comesFetched_46 : decode cX5_comesFetched 46 = .ok (.getfield 37, 3) := by decide +kernel
theorem dX5_comesFetched_49 : decode cX5_comesFetched 49 = .ok (.iload_n 3, 1) := by decide +kernel
theorem dX5_comesFetched_50 : decode cX5_comesFetched 50 = .ok (.iconst 1, 1) := by decide +kernel
theorem dX5_comesFetched_51 : decode cX5_comesFetched 51 = .ok (.iadd, 1) := by decide +kernel
theorem dX5_comesFetched_52 : decode cX5_comesFetched 52 = .ok (.iaload, 1) := by decide +kernel
theorem dX5_comesFetched_53 : decode cX5_comesFetched 53 = .ok (.iastore, 1) := by decide +kernel
theorem dX5_comesFetched_54 : decode cX5_comesFetched 54 = .ok (.iinc 3 1, 3) := by decide +kernel
theorem dX5_comesFetched_57 : decode cX5_comesFetched 57 = .ok (.goto (-27), 3) := by decide +kernel
theorem dX5_comesFetched_60 : decode cX5_comesFetched 60 = .ok (.iconst 0, 1) := by decide +kernel
theorem dX5_comesFetched_61 : decode cX5_comesFetched 61 = .ok (.istore_n 3, 1) := by decide +kernel
theorem dX5_comesFetched_62 : decode cX5_comesFetched 62 = .ok (.iload_n 3, 1) := by decide +kernel
theorem dX5_comesFetched_63 : decode cX5_comesFetched 63 = .ok (.iconst 4, 1) := by decide +kernel
theorem dX5_comesFetched_64 : decode cX5_comesFetched 64 = .ok (.if_icmp .ge 29, 3) := by decide +kernel
theorem dX5_comesFetched_67 : decode cX5_comesFetched 67 = .ok (.aload_n 0, 1) := by decide +kernel
theorem dX5_comesFetched_68 : decode cX5_comesFetched 68 = .ok (.getfield 19, 3) := by decide +kernel
theorem dX5_comesFetched_71 : decode cX5_comesFetched 71 = .ok (.iconst 4, 1) := by decide +kernel
theorem dX5_comesFetched_72 : decode cX5_comesFetched 72 = .ok (.iload_n 1, 1) := by decide +kernel
theorem dX5_comesFetched_73 : decode cX5_comesFetched 73 = .ok (.imul, 1) := by decide +kernel
theorem dX5_comesFetched_74 : decode cX5_comesFetched 74 = .ok (.iload_n 3, 1) := by decide +kernel
theorem dX5_comesFetched_75 : decode cX5_comesFetched 75 = .ok (.iadd, 1) := by decide +kernel
theorem dX5_comesFetched_76 : decode cX5_comesFetched 76 = .ok (.aload_n 0, 1) := by decide +kernel
theorem dX5_comesFetched_77 : decode cX5_comesFetched 77 = .ok (.getfield 16, 3) := by decide +kernel
theorem dX5_comesFetched_80 : decode cX5_comesFetched 80 = .ok (.iconst 4, 1) := by decide +kernel
theorem dX5_comesFetched_81 : decode cX5_comesFetched 81 = .ok (.iload_n 1, 1) := by decide +kernel
theorem dX5_comesFetched_82 : decode cX5_comesFetched 82 = .ok (.imul, 1) := by decide +kernel
theorem dX5_comesFetched_83 : decode cX5_comesFetched 83 = .ok (.iload_n 3, 1) := by decide +kernel
theorem dX5_comesFetched_84 : decode cX5_comesFetched 84 = .ok (.iadd, 1) := by decide +kernel
theorem dX5_comesFetched_85 : decode cX5_comesFetched 85 = .ok (.iaload, 1) := by decide +kernel
theorem dX5_comesFetched_86 : decode cX5_comesFetched 86 = .ok (.iastore, 1) := by decide +kernel
theorem dX5_comesFetched_87 : decode cX5_comesFetched 87 = .ok (.iinc 3 1, 3) := by decide +kernel
theorem dX5_comesFetched_90 : decode cX5_comesFetched 90 = .ok (.goto (-28), 3) := by decide +kernel
theorem dX5_comesFetched_93 : decode cX5_comesFetched 93 = .ok (.aload_n 0, 1) := by decide +kernel
theorem dX5_comesFetched_94 : decode cX5_comesFetched 94 = .ok (.getfield 22, 3) := by decide +kernel
theorem dX5_comesFetched_97 : decode cX5_comesFetched 97 = .ok (.iload_n 1, 1) := by decide +kernel
theorem dX5_comesFetched_98 : decode cX5_comesFetched 98 = .ok (.iconst 0, 1) := by decide +kernel
theorem dX5_comesFetched_99 : decode cX5_comesFetched 99 = .ok (.iastore, 1) := by decide +kernel
theorem dX5_comesFetched_100 : decode cX5_comesFetched 100 = .ok (.aload_n 0, 1) := by decide +kernel
theorem dX5_comesFetched_101 : decode cX5_comesFetched 101 = .ok (.iload_n 1, 1) := by decide +kernel
theorem dX5_comesFetched_102 : decode cX5_comesFetched 102 = .ok (.invokevirtual 151, 3) := by decide +kernel
theorem dX5_comesFetched_105 : decode cX5_comesFetched 105 = .ok (.iconst 0, 1) := by decide +kernel
theorem dX5_comesFetched_106 : decode cX5_comesFetched 106 = .ok (.istore_n 3, 1) := by decide +kernel
theorem dX5_comesFetched_107 : decode cX5_comesFetched 107 = .ok (.iload_n 3, 1) := by decide +kernel
theorem dX5_comesFetched_108 : decode cX5_comesFetched 108 = .ok (.aload_n 0, 1) := by decide +kernel
theorem dX5_comesFetched_109 : decode cX5_comesFetched 109 = .ok (.getfield 40, 3) := by decide +kernel
theorem dX5_comesFetched_112 : decode cX5_comesFetched 112 = .ok (.iload_n 1, 1) := by decide +kernel
theorem dX5_comesFetched_113 : decode cX5_comesFetched 113 = .ok (.iaload, 1) := by decide +kernel
theorem dX5_comesFetched_114 : decode cX5_comesFetched 114 = .ok (.if_icmp .ge 75, 3) := by decide +kernel
theorem dX5_comesFetched_117 : decode cX5_comesFetched 117 = .ok (.iconst 4, 1) := by decide +kernel
theorem dX5_comesFetched_118 : decode cX5_comesFetched 118 = .ok (.iload_n 1, 1) := by decide +kernel
theorem dX5_comesFetched_119 : decode cX5_comesFetched 119 = .ok (.imul, 1) := by decide +kernel
theorem dX5_comesFetched_120 : decode cX5_comesFetched 120 = .ok (.iload_n 3, 1) := by decide +kernel
theorem dX5_comesFetched_121 : decode cX5_comesFetched 121 = .ok (.iadd, 1) := by decide +kernel
theorem dX5_comesFetched_122 : decode cX5_comesFetched 122 = .ok (.istore 4, 2) := by decide +kernel
theorem dX5_comesFetched_124 : decode cX5_comesFetched 124 = .ok (.aload_n 0, 1) := by decide +kernel
theorem dX5_comesFetched_125 : decode cX5_comesFetched 125 = .ok (.getfield 52, 3) := by decide +kernel
theorem dX5_comesFetched_128 : decode cX5_comesFetched 128 = .ok (.iload 4, 2) := by decide +kernel
theorem dX5_comesFetched_130 : decode cX5_comesFetched 130 = .ok (.iaload, 1) := by decide +kernel
theorem dX5_comesFetched_131 : decode cX5_comesFetched 131 = .ok (.iconst (-1), 1) := by decide +kernel
theorem dX5_comesFetched_132 : decode cX5_comesFetched 132 = .ok (.if_icmp .ne 25, 3) := by decide +kernel
theorem dX5_comesFetched_135 : decode cX5_comesFetched 135 = .ok (.aload_n 0, 1) := by decide +kernel
theorem dX5_comesFetched_136 : decode cX5_comesFetched 136 = .ok (.iload_n 1, 1) := by decide +kernel
theorem dX5_comesFetched_137 : decode cX5_comesFetched 137 = .ok (.aload_n 0, 1) := by decide +kernel
theorem dX5_comesFetched_138 : decode cX5_comesFetched 138 = .ok (.getfield 43, 3) := by decide +kernel
theorem dX5_comesFetched_141 : decode cX5_comesFetched 141 = .ok (.iload 4, 2) := by decide +kernel
theorem dX5_comesFetched_143 : decode cX5_comesFetched 143 = .ok (.iaload, 1) := by decide +kernel
theorem dX5_comesFetched_144 : decode cX5_comesFetched 144 = .ok (.aload_n 0, 1) := by decide +kernel
theorem dX5_comesFetched_145 : decode cX5_comesFetched 145 = .ok (.getfield 46, 3) := by decide +kernel
theorem dX5_comesFetched_148 : decode cX5_comesFetched 148 = .ok (.iload 4, 2) := by decide +kernel
theorem dX5_comesFetched_150 : decode cX5_comesFetched 150 = .ok (.iaload, 1) := by decide +kernel
theorem dX5_comesFetched_151 : decode cX5_comesFetched 151 = .ok (.invokevirtual 154, 3) := by decide +kernel
theorem dX5_comesFetched_154 : decode cX5_comesFetched 154 = .ok (.goto 29, 3) := by decide +kernel
theorem dX5_comesFetched_157 : decode cX5_comesFetched 157 = .ok (.aload_n 0, 1) := by decide +kernel
theorem dX5_comesFetched_158 : decode cX5_comesFetched 158 = .ok (.aload_n 0, 1) := by decide +kernel
theorem dX5_comesFetched_159 : decode cX5_comesFetched 159 = .ok (.getfield 52, 3) := by decide +kernel
theorem dX5_comesFetched_162 : decode cX5_comesFetched 162 = .ok (.iload 4, 2) := by decide +kernel
theorem dX5_comesFetched_164 : decode cX5_comesFetched 164 = .ok (.iaload, 1) := by decide +kernel
theorem dX5_comesFetched_165 : decode cX5_comesFetched 165 = .ok (.iload_n 1, 1) := by decide +kernel
theorem dX5_comesFetched_166 : decode cX5_comesFetched 166 = .ok (.aload_n 0, 1) := by decide +kernel
theorem dX5_comesFetched_167 : decode cX5_comesFetched 167 = .ok (.getfield 43, 3) := by decide +kernel
theorem dX5_comesFetched_170 : decode cX5_comesFetched 170 = .ok (.iload 4, 2) := by decide +kernel
theorem dX5_comesFetched_172 : decode cX5_comesFetched 172 = .ok (.iaload, 1) := by decide +kernel
theorem dX5_comesFetched_173 : decode cX5_comesFetched 173 = .ok (.aload_n 0, 1) := by decide +kernel
theorem dX5_comesFetched_174 : decode cX5_comesFetched 174 = .ok (.getfield 49, 3) := by decide +kernel
theorem dX5_comesFetched_177 : decode cX5_comesFetched 177 = .ok (.iload 4, 2) := by decide +kernel
theorem dX5_comesFetched_179 : decode cX5_comesFetched 179 = .ok (.iaload, 1) := by decide +kernel
theorem dX5_comesFetched_180 : decode cX5_comesFetched 180 = .ok (.invokevirtual 158, 3) := by decide +kernel
theorem dX5_comesFetched_183 : decode cX5_comesFetched 183 = .ok (.iinc 3 1, 3) := by decide +kernel
theorem dX5_comesFetched_186 : decode cX5_comesFetched 186 = .ok (.goto (-79), 3) := by decide +kernel
theorem dX5_comesFetched_189 : decode cX5_comesFetched 189 = .ok (.aload_n 0, 1) := by decide +kernel
theorem dX5_comesFetched_190 : decode cX5_comesFetched 190 = .ok (.getfield 40, 3) := by decide +kernel
theorem dX5_comesFetched_193 : decode cX5_comesFetched 193 = .ok (.iload_n 1, 1) := by decide +kernel
theorem dX5_comesFetched_194 : decode cX5_comesFetched 194 = .ok (.iconst 0, 1) := by decide +kernel
theorem dX5_comesFetched_195 : decode cX5_comesFetched 195 = .ok (.iastore, 1) := by decide +kernel
theorem dX5_comesFetched_196 : decode cX5_comesFetched 196 = .ok (.return_, 1) := by decide +kernel
theorem dX5_comesTime_0 : decode cX5_comesTime 0 = .ok (.aload_n 0, 1) := by decide +kernel
theorem dX5_comesTime_1 : decode cX5_comesTime 1 = .ok (.getfield 58, 3) := by decide +kernel
theorem dX5_comesTime_4 : decode cX5_comesTime 4 = .ok (.bipush 9, 2) := by decide +kernel
theorem dX5_comesTime_6 : decode cX5_comesTime 6 = .ok (.iaload, 1) := by decide +kernel
theorem dX5_comesTime_7 : decode cX5_comesTime 7 = .ok (.istore_n 1, 1) := by decide +kernel
theorem dX5_comesTime_8 : decode cX5_comesTime 8 = .ok (.iconst 0, 1) := by decide +kernel
theorem dX5_comesTime_9 : decode cX5_comesTime 9 = .ok (.istore_n 2, 1) := by decide +kernel
theorem dX5_comesTime_10 : decode cX5_comesTime 10 = .ok (.iload_n 2, 1) := by decide +kernel
theorem dX5_comesTime_11 : decode cX5_comesTime 11 = .ok (.bipush 16, 2) := by decide +kernel
theorem dX5_comesTime_13 : decode cX5_comesTime 13 = .ok (.if_icmp .ge 44, 3) := by decide +kernel
theorem dX5_comesTime_16 : decode cX5_comesTime 16 = .ok (.aload_n 0, 1) := by decide +kernel
theorem dX5_comesTime_17 : decode cX5_comesTime 17 = .ok (.getfield 25, 3) := by decide +kernel
theorem dX5_comesTime_20 : decode cX5_comesTime 20 = .ok (.iload_n 2, 1) := by decide +kernel
theorem dX5_comesTime_21 : decode cX5_comesTime 21 = .ok (.iaload, 1) := by decide +kernel
theorem dX5_comesTime_22 : decode cX5_comesTime 22 = .ok (.iconst 2, 1) := by decide +kernel
theorem dX5_comesTime_23 : decode cX5_comesTime 23 = .ok (.if_icmp .ne 28, 3) := by decide +kernel
theorem dX5_comesTime_26 : decode cX5_comesTime 26 = .ok (.aload_n 0, 1) := by decide +kernel
theorem dX5_comesTime_27 : decode cX5_comesTime 27 = .ok (.getfield 28, 3) := by decide +kernel
theorem dX5_comesTime_30 : decode cX5_comesTime 30 = .ok (.iload_n 2, 1) := by decide +kernel
theorem dX5_comesTime_31 : decode cX5_comesTime 31 = .ok (.iaload, 1) := by decide +kernel
theorem dX5_comesTime_32 : decode cX5_comesTime 32 = .ok (.iload_n 1, 1) := by decide +kernel
theorem dX5_comesTime_33 : decode cX5_comesTime 33 = .ok (.if_icmp .ne 18, 3) := by decide +kernel
theorem dX5_comesTime_36 : decode cX5_comesTime 36 = .ok (.aload_n 0, 1) := by decide +kernel
theorem dX5_comesTime_37 : decode cX5_comesTime 37 = .ok (.getfield 55, 3) := by decide +kernel
theorem dX5_comesTime_40 : decode cX5_comesTime 40 = .ok (.iconst 1, 1) := by decide +kernel
theorem dX5_comesTime_41 : decode cX5_comesTime 41 = .ok (.dup2, 1) := by decide +kernel
theorem dX5_comesTime_42 : decode cX5_comesTime 42 = .ok (.iaload, 1) := by decide +kernel
theorem dX5_comesTime_43 : decode cX5_comesTime 43 = .ok (.iconst 1, 1) := by decide +kernel
theorem dX5_comesTime_44 : decode cX5_comesTime 44 = .ok (.isub, 1) := by decide +kernel
theorem dX5_comesTime_45 : decode cX5_comesTime 45 = .ok (.iastore, 1) := by decide +kernel
theorem dX5_comesTime_46 : decode cX5_comesTime 46 = .ok (.aload_n 0, 1) := by decide +kernel
theorem dX5_comesTime_47 : decode cX5_comesTime 47 = .ok (.iload_n 2, 1) := by decide +kernel
theorem dX5_comesTime_48 : decode cX5_comesTime 48 = .ok (.invokevirtual 145, 3) := by decide +kernel
theorem dX5_comesTime_51 : decode cX5_comesTime 51 = .ok (.iinc 2 1, 3) := by decide +kernel
theorem dX5_comesTime_54 : decode cX5_comesTime 54 = .ok (.goto (-44), 3) := by decide +kernel
theorem dX5_comesTime_57 : decode cX5_comesTime 57 = .ok (.iconst 0, 1) := by decide +kernel
theorem dX5_comesTime_58 : decode cX5_comesTime 58 = .ok (.istore_n 2, 1) := by decide +kernel
theorem dX5_comesTime_59 : decode cX5_comesTime 59 = .ok (.iload_n 2, 1) := by decide +kernel
theorem dX5_comesTime_60 : decode cX5_comesTime 60 = .ok (.bipush 16, 2) := by decide +kernel
theorem dX5_comesTime_62 : decode cX5_comesTime 62 = .ok (.if_icmp .ge 34, 3) := by decide +kernel
theorem dX5_comesTime_65 : decode cX5_comesTime 65 = .ok (.aload_n 0, 1) := by decide +kernel
theorem dX5_comesTime_66 : decode cX5_comesTime 66 = .ok (.getfield 25, 3) := by decide +kernel
theorem dX5_comesTime_69 : decode cX5_comesTime 69 = .ok (.iload_n 2, 1) := by decide +kernel
theorem dX5_comesTime_70 : decode cX5_comesTime 70 = .ok (.iaload, 1) := by decide +kernel
theorem dX5_comesTime_71 : decode cX5_comesTime 71 = .ok (.iconst 3, 1) := by decide +kernel
theorem dX5_comesTime_72 : decode cX5_comesTime 72 = .ok (.if_icmp .ne 18, 3) := by decide +kernel
theorem dX5_comesTime_75 : decode cX5_comesTime 75 = .ok (.aload_n 0, 1) := by decide +kernel
theorem dX5_comesTime_76 : decode cX5_comesTime 76 = .ok (.getfield 28, 3) := by decide +kernel
theorem dX5_comesTime_79 : decode cX5_comesTime 79 = .ok (.iload_n 2, 1) := by decide +kernel
theorem dX5_comesTime_80 : decode cX5_comesTime 80 = .ok (.iaload, 1) := by decide +kernel
theorem dX5_comesTime_81 : decode cX5_comesTime 81 = .ok (.iload_n 1, 1) := by decide +kernel
theorem dX5_comesTime_82 : decode cX5_comesTime 82 = .ok (.if_icmp .ne 8, 3) := by decide +kernel
theorem dX5_comesTime_85 : decode cX5_comesTime 85 = .ok (.aload_n 0, 1) := by decide +kernel

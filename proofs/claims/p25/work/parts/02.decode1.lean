theorem dX0_init_0 : decode cX0_init 0 = .ok (.aload_n 0, 1) := by decide +kernel
theorem dX0_init_1 : decode cX0_init 1 = .ok (.invokespecial 3, 3) := by decide +kernel
theorem dX0_init_4 : decode cX0_init 4 = .ok (.aload_n 0, 1) := by decide +kernel
theorem dX0_init_5 : decode cX0_init 5 = .ok (.iload_n 1, 1) := by decide +kernel
theorem dX0_init_6 : decode cX0_init 6 = .ok (.putfield 9, 3) := by decide +kernel
theorem dX0_init_9 : decode cX0_init 9 = .ok (.aload_n 0, 1) := by decide +kernel
theorem dX0_init_10 : decode cX0_init 10 = .ok (.iconst 4, 1) := by decide +kernel
theorem dX0_init_11 : decode cX0_init 11 = .ok (.newarray .int, 2) := by decide +kernel
theorem dX0_init_13 : decode cX0_init 13 = .ok (.putfield 15, 3) := by decide +kernel
theorem dX0_init_16 : decode cX0_init 16 = .ok (.aload_n 0, 1) := by decide +kernel
theorem dX0_init_17 : decode cX0_init 17 = .ok (.iconst 4, 1) := by decide +kernel
theorem dX0_init_18 : decode cX0_init 18 = .ok (.newarray .int, 2) := by decide +kernel
theorem dX0_init_20 : decode cX0_init 20 = .ok (.putfield 19, 3) := by decide +kernel
theorem dX0_init_23 : decode cX0_init 23 = .ok (.aload_n 0, 1) := by decide +kernel
theorem dX0_init_24 : decode cX0_init 24 = .ok (.iconst 4, 1) := by decide +kernel
theorem dX0_init_25 : decode cX0_init 25 = .ok (.newarray .int, 2) := by decide +kernel
theorem dX0_init_27 : decode cX0_init 27 = .ok (.putfield 22, 3) := by decide +kernel
theorem dX0_init_30 : decode cX0_init 30 = .ok (.aload_n 0, 1) := by decide +kernel
theorem dX0_init_31 : decode cX0_init 31 = .ok (.iconst 4, 1) := by decide +kernel
theorem dX0_init_32 : decode cX0_init 32 = .ok (.newarray .int, 2) := by decide +kernel
theorem dX0_init_34 : decode cX0_init 34 = .ok (.putfield 25, 3) := by decide +kernel
theorem dX0_init_37 : decode cX0_init 37 = .ok (.aload_n 0, 1) := by decide +kernel
theorem dX0_init_38 : decode cX0_init 38 = .ok (.iconst 4, 1) := by decide +kernel
theorem dX0_init_39 : decode cX0_init 39 = .ok (.newarray .int, 2) := by decide +kernel
theorem dX0_init_41 : decode cX0_init 41 = .ok (.putfield 28, 3) := by decide +kernel
theorem dX0_init_44 : decode cX0_init 44 = .ok (.aload_n 0, 1) := by decide +kernel
theorem dX0_init_45 : decode cX0_init 45 = .ok (.iconst 4, 1) := by decide +kernel
theorem dX0_init_46 : decode cX0_init 46 = .ok (.newarray .int, 2) := by decide +kernel
theorem dX0_init_48 : decode cX0_init 48 = .ok (.putfield 31, 3) := by decide +kernel
theorem dX0_init_51 : decode cX0_init 51 = .ok (.return_, 1) := by decide +kernel
theorem dX0_renew_0 : decode cX0_renew 0 = .ok (.iconst 0, 1) := by decide +kernel
theorem dX0_renew_1 : decode cX0_renew 1 = .ok (.istore_n 1, 1) := by decide +kernel
theorem dX0_renew_2 : decode cX0_renew 2 = .ok (.iload_n 1, 1) := by decide +kernel
theorem dX0_renew_3 : decode cX0_renew 3 = .ok (.iconst 4, 1) := by decide +kernel
theorem dX0_renew_4 : decode cX0_renew 4 = .ok (.if_icmp .ge 23, 3) := by decide +kernel
theorem dX0_renew_7 : decode cX0_renew 7 = .ok (.aload_n 0, 1) := by decide +kernel
theorem dX0_renew_8 : decode cX0_renew 8 = .ok (.getfield 15, 3) := by decide +kernel
theorem dX0_renew_11 : decode cX0_renew 11 = .ok (.iload_n 1, 1) := by decide +kernel
theorem dX0_renew_12 : decode cX0_renew 12 = .ok (.iconst 5, 1) := by decide +kernel
theorem dX0_renew_13 : decode cX0_renew 13 = .ok (.aload_n 0, 1) := by decide +kernel
theorem dX0_renew_14 : decode cX0_renew 14 = .ok (.getfield 9, 3) := by decide +kernel
theorem dX0_renew_17 : decode cX0_renew 17 = .ok (.imul, 1) := by decide +kernel
theorem dX0_renew_18 : decode cX0_renew 18 = .ok (.iload_n 1, 1) := by decide +kernel
theorem dX0_renew_19 : decode cX0_renew 19 = .ok (.iadd, 1) := by decide +kernel
theorem dX0_renew_20 : decode cX0_renew 20 = .ok (.iastore, 1) := by decide +kernel
theorem dX0_renew_21 : decode cX0_renew 21 = .ok (.iinc 1 1, 3) := by decide +kernel
theorem dX0_renew_24 : decode cX0_renew 24 = .ok (.goto (-22), 3) := by decide +kernel
theorem dX0_renew_27 : decode cX0_renew 27 = .ok (.aload_n 0, 1) := by decide +kernel
theorem dX0_renew_28 : decode cX0_renew 28 = .ok (.iconst 0, 1) := by decide +kernel
theorem dX0_renew_29 : decode cX0_renew 29 = .ok (.putfield 34, 3) := by decide +kernel
theorem dX0_renew_32 : decode cX0_renew 32 = .ok (.aload_n 0, 1) := by decide +kernel
theorem dX0_renew_33 : decode cX0_renew 33 = .ok (.iconst 0, 1) := by decide +kernel
theorem dX0_renew_34 : decode cX0_renew 34 = .ok (.putfield 37, 3) := by decide +kernel
theorem dX0_renew_37 : decode cX0_renew 37 = .ok (.aload_n 0, 1) := by decide +kernel
theorem dX0_renew_38 : decode cX0_renew 38 = .ok (.iconst 0, 1) := by decide +kernel
theorem dX0_renew_39 : decode cX0_renew 39 = .ok (.putfield 40, 3) := by decide +kernel
theorem dX0_renew_42 : decode cX0_renew 42 = .ok (.aload_n 0, 1) := by decide +kernel
theorem dX0_renew_43 : decode cX0_renew 43 = .ok (.ldc 43, 2) := by decide +kernel
theorem dX0_renew_45 : decode cX0_renew 45 = .ok (.putfield 44, 3) := by decide +kernel
theorem dX0_renew_48 : decode cX0_renew 48 = .ok (.aload_n 0, 1) := by decide +kernel
theorem dX0_renew_49 : decode cX0_renew 49 = .ok (.iconst 0, 1) := by decide +kernel
theorem dX0_renew_50 : decode cX0_renew 50 = .ok (.putfield 47, 3) := by decide +kernel
theorem dX0_renew_53 : decode cX0_renew 53 = .ok (.return_, 1) := by decide +kernel
theorem dX0_become_0 : decode cX0_become 0 = .ok (.aload_n 1, 1) := by decide +kernel
theorem dX0_become_1 : decode cX0_become 1 = .ok (.getfield 15, 3) := by decide +kernel
theorem dX0_become_4 : decode cX0_become 4 = .ok (.iconst 0, 1) := by decide +kernel
theorem dX0_become_5 : decode cX0_become 5 = .ok (.aload_n 0, 1) := by decide +kernel
theorem dX0_become_6 : decode cX0_become 6 = .ok (.getfield 15, 3) := by decide +kernel
theorem dX0_become_9 : decode cX0_become 9 = .ok (.iconst 0, 1) := by decide +kernel
theorem dX0_become_10 : decode cX0_become 10 = .ok (.iconst 4, 1) := by decide +kernel
theorem dX0_become_11 : decode cX0_become 11 = .ok (.invokestatic 50, 3) := by decide +kernel
theorem dX0_become_14 : decode cX0_become 14 = .ok (.aload_n 1, 1) := by decide +kernel
theorem dX0_become_15 : decode cX0_become 15 = .ok (.getfield 19, 3) := by decide +kernel
theorem dX0_become_18 : decode cX0_become 18 = .ok (.iconst 0, 1) := by decide +kernel
theorem dX0_become_19 : decode cX0_become 19 = .ok (.aload_n 0, 1) := by decide +kernel
theorem dX0_become_20 : decode cX0_become 20 = .ok (.getfield 19, 3) := by decide +kernel
theorem dX0_become_23 : decode cX0_become 23 = .ok (.iconst 0, 1) := by decide +kernel
theorem dX0_become_24 : decode cX0_become 24 = .ok (.iconst 4, 1) := by decide +kernel
theorem dX0_become_25 : decode cX0_become 25 = .ok (.invokestatic 50, 3) := by decide +kernel
theorem dX0_become_28 : decode cX0_become 28 = .ok (.aload_n 1, 1) := by decide +kernel
theorem dX0_become_29 : decode cX0_become 29 = .ok (.getfield 22, 3) := by decide +kernel
theorem dX0_become_32 : decode cX0_become 32 = .ok (.iconst 0, 1) := by decide +kernel
theorem dX0_become_33 : decode cX0_become 33 = .ok (.aload_n 0, 1) := by decide +kernel
theorem dX0_become_34 : decode cX0_become 34 = .ok (.getfield 22, 3) := by decide +kernel
theorem dX0_become_37 : decode cX0_become 37 = .ok (.iconst 0, 1) := by decide +kernel
theorem dX0_become_38 : decode cX0_become 38 = .ok (.iconst 4, 1) := by decide +kernel
theorem dX0_become_39 : decode cX0_become 39 = .ok (.invokestatic 50, 3) := by decide +kernel
theorem dX0_become_42 : decode cX0_become 42 = .ok (.aload_n 1, 1) := by decide +kernel
theorem dX0_become_43 : decode cX0_become 43 = .ok (.getfield 25, 3) := by decide +kernel
theorem dX0_become_46 : decode cX0_become 46 = .ok (.iconst 0, 1) := by decide +kernel
theorem dX0_become_47 : decode cX0_become 47 = .ok (.aload_n 0, 1) := by decide +kernel
theorem dX0_become_48 : decode cX0_become 48 = .ok (.getfield 25, 3) := by decide +kernel
theorem dX0_become_51 : decode cX0_become 51 = .ok (.iconst 0, 1) := by decide +kernel
theorem dX0_become_52 : decode cX0_become 52 = .ok (.iconst 4, 1) := by decide +kernel
theorem dX0_become_53 : decode cX0_become 53 = .ok (.invokestatic 50, 3) := by decide +kernel
theorem dX0_become_56 : decode cX0_become 56 = .ok (.aload_n 1, 1) := by decide +kernel
theorem dX0_become_57 : decode cX0_become 57 = .ok (.getfield 28, 3) := by decide +kernel
theorem dX0_become_60 : decode cX0_become 60 = .ok (.iconst 0, 1) := by decide +kernel
theorem dX0_become_61 : decode cX0_become 61 = .ok (.aload_n 0, 1) := by decide +kernel
theorem dX0_become_62 : decode cX0_become 62 = .ok (.getfield 28, 3) := by decide +kernel
theorem dX0_become_65 : decode cX0_become 65 = .ok (.iconst 0, 1) := by decide +kernel
theorem dX0_become_66 : decode cX0_become 66 = .ok (.iconst 4, 1) := by decide +kernel
theorem dX0_become_67 : decode cX0_become 67 = .ok (.invokestatic 50, 3) := by decide +kernel
theorem dX0_become_70 : decode cX0_become 70 = .ok (.aload_n 1, 1) := by decide +kernel
theorem dX0_become_71 : decode cX0_become 71 = .ok (.getfield 31, 3) := by decide +kernel
theorem dX0_become_74 : decode cX0_become 74 = .ok (.iconst 0, 1) := by decide +kernel
theorem dX0_become_75 : decode cX0_become 75 = .ok (.aload_n 0, 1) := by decide +kernel
theorem dX0_become_76 : decode cX0_become 76 = .ok (.getfield 31, 3) := by decide +kernel
theorem dX0_become_79 : decode cX0_become 79 = .ok (.iconst 0, 1) := by decide +kernel
theorem dX0_become_80 : decode cX0_become 80 = .ok (.iconst 4, 1) := by decide +kernel
theorem dX0_become_81 : decode cX0_become 81 = .ok (.invokestatic 50, 3) := by decide +kernel
theorem dX0_become_84 : decode cX0_become 84 = .ok (.aload_n 0, 1) := by decide +kernel
theorem dX0_become_85 : decode cX0_become 85 = .ok (.aload_n 1, 1) := by decide +kernel
theorem dX0_become_86 : decode cX0_become 86 = .ok (.getfield 34, 3) := by decide +kernel
theorem dX0_become_89 : decode cX0_become 89 = .ok (.putfield 34, 3) := by decide +kernel
theorem dX0_become_92 : decode cX0_become 92 = .ok (.aload_n 0, 1) := by decide +kernel
theorem dX0_become_93 : decode cX0_become 93 = .ok (.aload_n 1, 1) := by decide +kernel
theorem dX0_become_94 : decode cX0_become 94 = .ok (.getfield 37, 3) := by decide +kernel
theorem dX0_become_97 : decode cX0_become 97 = .ok (.putfield 37, 3) := by decide +kernel
theorem dX0_become_100 : decode cX0_become 100 = .ok (.aload_n 0, 1) := by decide +kernel
theorem dX0_become_101 : decode cX0_become 101 = .ok (.aload_n 1, 1) := by decide +kernel
theorem dX0_become_102 : decode cX0_become 102 = .ok (.getfield 40, 3) := by decide +kernel
theorem dX0_become_105 : decode cX0_become 105 = .ok (.putfield 40, 3) := by decide +kernel
theorem dX0_become_108 : decode cX0_become 108 = .ok (.aload_n 0, 1) := by decide +kernel
theorem dX0_become_109 : decode cX0_become 109 = .ok (.aload_n 1, 1) := by decide +kernel
theorem dX0_become_110 : decode cX0_become 110 = .ok (.getfield 44, 3) := by decide +kernel
theorem dX0_become_113 : decode cX0_become 113 = .ok (.putfield 44, 3) := by decide +kernel
theorem dX0_become_116 : decode cX0_become 116 = .ok (.aload_n 0, 1) := by decide +kernel
theorem dX0_become_117 : decode cX0_become 117 = .ok (.aload_n 1, 1) := by decide +kernel
theorem dX0_become_118 : decode cX0_become 118 = .ok (.getfield 47, 3) := by decide +kernel
theorem dX0_become_121 : decode cX0_become 121 = .ok (.putfield 47, 3) := by decide +kernel
theorem dX0_become_124 : decode cX0_become 124 = .ok (.return_, 1) := by decide +kernel
theorem dX0_changedBit_0 : decode cX0_changedBit 0 = .ok (.aload_n 0, 1) := by decide +kernel
theorem dX0_changedBit_1 : decode cX0_changedBit 1 = .ok (.getfield 40, 3) := by decide +kernel
theorem dX0_changedBit_4 : decode cX0_changedBit 4 = .ok (.iload_n 1, 1) := by decide +kernel
theorem dX0_changedBit_5 : decode cX0_changedBit 5 = .ok (.ishr, 1) := by decide +kernel
theorem dX0_changedBit_6 : decode cX0_changedBit 6 = .ok (.iconst 1, 1) := by decide +kernel
theorem dX0_changedBit_7 : decode cX0_changedBit 7 = .ok (.iand, 1) := by decide +kernel
theorem dX0_changedBit_8 : decode cX0_changedBit 8 = .ok (.ireturn, 1) := by decide +kernel
theorem dX0_valueAtLast_0 : decode cX0_valueAtLast 0 = .ok (.iload_n 1, 1) := by decide +kernel
theorem dX0_valueAtLast_1 : decode cX0_valueAtLast 1 = .ok (.ifCond .lt 8, 3) := by decide +kernel
theorem dX0_valueAtLast_4 : decode cX0_valueAtLast 4 = .ok (.iload_n 1, 1) := by decide +kernel
theorem dX0_valueAtLast_5 : decode cX0_valueAtLast 5 = .ok (.iconst 4, 1) := by decide +kernel
theorem dX0_valueAtLast_6 : decode cX0_valueAtLast 6 = .ok (.if_icmp .lt 5, 3) := by decide +kernel
theorem dX0_valueAtLast_9 : decode cX0_valueAtLast 9 = .ok (.iconst 0, 1) := by decide +kernel
theorem dX0_valueAtLast_10 : decode cX0_valueAtLast 10 = .ok (.ireturn, 1) := by decide +kernel
theorem dX0_valueAtLast_11 : decode cX0_valueAtLast 11 = .ok (.aload_n 0, 1) := by decide +kernel
theorem dX0_valueAtLast_12 : decode cX0_valueAtLast 12 = .ok (.getfield 37, 3) := by decide +kernel
theorem dX0_valueAtLast_15 : decode cX0_valueAtLast 15 = .ok (.iconst 1, 1) := by decide +kernel
theorem dX0_valueAtLast_16 : decode cX0_valueAtLast 16 = .ok (.if_icmp .eq 11, 3) := by decide +kernel
theorem dX0_valueAtLast_19 : decode cX0_valueAtLast 19 = .ok (.aload_n 0, 1) := by decide +kernel
theorem dX0_valueAtLast_20 : decode cX0_valueAtLast 20 = .ok (.getfield 37, 3) := by decide +kernel
theorem dX0_valueAtLast_23 : decode cX0_valueAtLast 23 = .ok (.iconst 2, 1) := by decide +kernel
theorem dX0_valueAtLast_24 : decode cX0_valueAtLast 24 = .ok (.if_icmp .ne 10, 3) := by decide +kernel
theorem dX0_valueAtLast_27 : decode cX0_valueAtLast 27 = .ok (.aload_n 0, 1) := by decide +kernel
theorem dX0_valueAtLast_28 : decode cX0_valueAtLast 28 = .ok (.getfield 19, 3) := by decide +kernel
theorem dX0_valueAtLast_31 : decode cX0_valueAtLast 31 = .ok (.iload_n 1, 1) := by decide +kernel
theorem dX0_valueAtLast_32 : decode cX0_valueAtLast 32 = .ok (.iaload, 1) := by decide +kernel
theorem dX0_valueAtLast_33 : decode cX0_valueAtLast 33 = .ok (.ireturn, 1) := by decide +kernel
theorem dX0_valueAtLast_34 : decode cX0_valueAtLast 34 = .ok (.aload_n 0, 1) := by decide +kernel
theorem dX0_valueAtLast_35 : decode cX0_valueAtLast 35 = .ok (.getfield 15, 3) := by decide +kernel
theorem dX0_valueAtLast_38 : decode cX0_valueAtLast 38 = .ok (.iload_n 1, 1) := by decide +kernel
theorem dX0_valueAtLast_39 : decode cX0_valueAtLast 39 = .ok (.iaload, 1) := by decide +kernel
theorem dX0_valueAtLast_40 : decode cX0_valueAtLast 40 = .ok (.istore_n 2, 1) := by decide +kernel
theorem dX0_valueAtLast_41 : decode cX0_valueAtLast 41 = .ok (.iconst 0, 1) := by decide +kernel
theorem dX0_valueAtLast_42 : decode cX0_valueAtLast 42 = .ok (.istore_n 3, 1) := by decide +kernel
theorem dX0_valueAtLast_43 : decode cX0_valueAtLast 43 = .ok (.iload_n 3, 1) := by decide +kernel
theorem dX0_valueAtLast_44 : decode cX0_valueAtLast 44 = .ok (.aload_n 0, 1) := by decide +kernel
theorem dX0_valueAtLast_45 : decode cX0_valueAtLast 45 = .ok (.getfield 34, 3) := by decide +kernel
theorem dX0_valueAtLast_48 : decode cX0_valueAtLast 48 = .ok (.if_icmp .ge 41, 3) := by decide +kernel
theorem dX0_valueAtLast_51 : decode cX0_valueAtLast 51 = .ok (.iload_n 3, 1) := by decide +kernel
theorem dX0_valueAtLast_52 : decode cX0_valueAtLast 52 = .ok (.iconst 4, 1) := by decide +kernel
theorem dX0_valueAtLast_53 : decode cX0_valueAtLast 53 = .ok (.if_icmp .ge 36, 3) := by decide +kernel
theorem dX0_valueAtLast_56 : decode cX0_valueAtLast 56 = .ok (.aload_n 0, 1) := by decide +kernel
theorem dX0_valueAtLast_57 : decode cX0_valueAtLast 57 = .ok (.getfield 22, 3) := by decide +kernel
theorem dX0_valueAtLast_60 : decode cX0_valueAtLast 60 = .ok (.iload_n 3, 1) := by decide +kernel
theorem dX0_valueAtLast_61 : decode cX0_valueAtLast 61 = .ok (.iaload, 1) := by decide +kernel
theorem dX0_valueAtLast_62 : decode cX0_valueAtLast 62 = .ok (.iload_n 1, 1) := by decide +kernel
theorem dX0_valueAtLast_63 : decode cX0_valueAtLast 63 = .ok (.if_icmp .ne 20, 3) := by decide +kernel
theorem dX0_valueAtLast_66 : decode cX0_valueAtLast 66 = .ok (.aload_n 0, 1) := by decide +kernel
theorem dX0_valueAtLast_67 : decode cX0_valueAtLast 67 = .ok (.getfield 25, 3) := by decide +kernel
theorem dX0_valueAtLast_70 : decode cX0_valueAtLast 70 = .ok (.iload_n 3, 1) := by decide +kernel
theorem dX0_valueAtLast_71 : decode cX0_valueAtLast 71 = .ok (.iaload, 1) := by decide +kernel
theorem dX0_valueAtLast_72 : decode cX0_valueAtLast 72 = .ok (.iconst (-1), 1) := by decide +kernel
theorem dX0_valueAtLast_73 : decode cX0_valueAtLast 73 = .ok (.if_icmp .eq 10, 3) := by decide +kernel
theorem dX0_valueAtLast_76 : decode cX0_valueAtLast 76 = .ok (.aload_n 0, 1) := by decide +kernel
theorem dX0_valueAtLast_77 : decode cX0_valueAtLast 77 = .ok (.getfield 25, 3) := by decide +kernel
theorem dX0_valueAtLast_80 : decode cX0_valueAtLast 80 = .ok (.iload_n 3, 1) := by decide +kernel
theorem dX0_valueAtLast_81 : decode cX0_valueAtLast 81 = .ok (.iaload, 1) := by decide +kernel
theorem dX0_valueAtLast_82 : decode cX0_valueAtLast 82 = .ok (.istore_n 2, 1) := by decide +kernel
theorem dX0_valueAtLast_83 : decode cX0_valueAtLast 83 = .ok (.iinc 3 1, 3) := by decide +kernel
theorem dX0_valueAtLast_86 : decode cX0_valueAtLast 86 = .ok (.goto (-43), 3) := by decide +kernel
theorem dX0_valueAtLast_89 : decode cX0_valueAtLast 89 = .ok (.iload_n 2, 1) := by decide +kernel
theorem dX0_valueAtLast_90 : decode cX0_valueAtLast 90 = .ok (.ireturn, 1) := by decide +kernel
theorem dX0_addAsker_0 : decode cX0_addAsker 0 = .ok (.aload_n 0, 1) := by decide +kernel
theorem dX0_addAsker_1 : decode cX0_addAsker 1 = .ok (.getfield 34, 3) := by decide +kernel
theorem dX0_addAsker_4 : decode cX0_addAsker 4 = .ok (.ifCond .lt 11, 3) := by decide +kernel
theorem dX0_addAsker_7 : decode cX0_addAsker 7 = .ok (.aload_n 0, 1) := by decide +kernel
theorem dX0_addAsker_8 : decode cX0_addAsker 8 = .ok (.getfield 34, 3) := by decide +kernel
theorem dX0_addAsker_11 : decode cX0_addAsker 11 = .ok (.iconst 4, 1) := by decide +kernel
theorem dX0_addAsker_12 : decode cX0_addAsker 12 = .ok (.if_icmp .lt 4, 3) := by decide +kernel
theorem dX0_addAsker_15 : decode cX0_addAsker 15 = .ok (.return_, 1) := by decide +kernel
theorem dX0_addAsker_16 : decode cX0_addAsker 16 = .ok (.aload_n 0, 1) := by decide +kernel
theorem dX0_addAsker_17 : decode cX0_addAsker 17 = .ok (.getfield 22, 3) := by decide +kernel
theorem dX0_addAsker_20 : decode cX0_addAsker 20 = .ok (.aload_n 0, 1) := by decide +kernel
theorem dX0_addAsker_21 : decode cX0_addAsker 21 = .ok (.getfield 34, 3) := by decide +kernel
theorem dX0_addAsker_24 : decode cX0_addAsker 24 = .ok (.iload_n 1, 1) := by decide +kernel
theorem dX0_addAsker_25 : decode cX0_addAsker 25 = .ok (.iastore, 1) := by decide +kernel
theorem dX0_addAsker_26 : decode cX0_addAsker 26 = .ok (.aload_n 0, 1) := by decide +kernel
theorem dX0_addAsker_27 : decode cX0_addAsker 27 = .ok (.getfield 25, 3) := by decide +kernel
theorem dX0_addAsker_30 : decode cX0_addAsker 30 = .ok (.aload_n 0, 1) := by decide +kernel
theorem dX0_addAsker_31 : decode cX0_addAsker 31 = .ok (.getfield 34, 3) := by decide +kernel
theorem dX0_addAsker_34 : decode cX0_addAsker 34 = .ok (.iload_n 2, 1) := by decide +kernel
theorem dX0_addAsker_35 : decode cX0_addAsker 35 = .ok (.iastore, 1) := by decide +kernel
theorem dX0_addAsker_36 : decode cX0_addAsker 36 = .ok (.aload_n 0, 1) := by decide +kernel
theorem dX0_addAsker_37 : decode cX0_addAsker 37 = .ok (.getfield 28, 3) := by decide +kernel
theorem dX0_addAsker_40 : decode cX0_addAsker 40 = .ok (.aload_n 0, 1) := by decide +kernel
theorem dX0_addAsker_41 : decode cX0_addAsker 41 = .ok (.getfield 34, 3) := by decide +kernel
theorem dX0_addAsker_44 : decode cX0_addAsker 44 = .ok (.iload_n 3, 1) := by decide +kernel
theorem dX0_addAsker_45 : decode cX0_addAsker 45 = .ok (.iastore, 1) := by decide +kernel
theorem dX0_addAsker_46 : decode cX0_addAsker 46 = .ok (.aload_n 0, 1) := by decide +kernel
theorem dX0_addAsker_47 : decode cX0_addAsker 47 = .ok (.getfield 31, 3) := by decide +kernel
theorem dX0_addAsker_50 : decode cX0_addAsker 50 = .ok (.aload_n 0, 1) := by decide +kernel
theorem dX0_addAsker_51 : decode cX0_addAsker 51 = .ok (.getfield 34, 3) := by decide +kernel
theorem dX0_addAsker_54 : decode cX0_addAsker 54 = .ok (.iload 4, 2) := by decide +kernel
theorem dX0_addAsker_56 : decode cX0_addAsker 56 = .ok (.iastore, 1) := by decide +kernel
theorem dX0_addAsker_57 : decode cX0_addAsker 57 = .ok (.aload_n 0, 1) := by decide +kernel
theorem dX0_addAsker_58 : decode cX0_addAsker 58 = .ok (.dup, 1) := by decide +kernel
theorem dX0_addAsker_59 : decode cX0_addAsker 59 = .ok (.getfield 34, 3) := by decide +kernel
theorem dX0_addAsker_62 : decode cX0_addAsker 62 = .ok (.iconst 1, 1) := by decide +kernel
theorem dX0_addAsker_63 : decode cX0_addAsker 63 = .ok (.iadd, 1) := by decide +kernel
theorem dX0_addAsker_64 : decode cX0_addAsker 64 = .ok (.putfield 34, 3) := by decide +kernel
theorem dX0_addAsker_67 : decode cX0_addAsker 67 = .ok (.return_, 1) := by decide +kernel
theorem dX0_takeFromFar_0 : decode cX0_takeFromFar 0 = .ok (.aload_n 0, 1) := by decide +kernel
theorem dX0_takeFromFar_1 : decode cX0_takeFromFar 1 = .ok (.getfield 15, 3) := by decide +kernel
theorem dX0_takeFromFar_4 : decode cX0_takeFromFar 4 = .ok (.iconst 0, 1) := by decide +kernel
theorem dX0_takeFromFar_5 : decode cX0_takeFromFar 5 = .ok (.aload_n 0, 1) := by decide +kernel
theorem dX0_takeFromFar_6 : decode cX0_takeFromFar 6 = .ok (.getfield 19, 3) := by decide +kernel
theorem dX0_takeFromFar_9 : decode cX0_takeFromFar 9 = .ok (.iconst 0, 1) := by decide +kernel
theorem dX0_takeFromFar_10 : decode cX0_takeFromFar 10 = .ok (.iconst 4, 1) := by decide +kernel
theorem dX0_takeFromFar_11 : decode cX0_takeFromFar 11 = .ok (.invokestatic 50, 3) := by decide +kernel
theorem dX0_takeFromFar_14 : decode cX0_takeFromFar 14 = .ok (.aload_n 0, 1) := by decide +kernel
theorem dX0_takeFromFar_15 : decode cX0_takeFromFar 15 = .ok (.iconst 0, 1) := by decide +kernel
theorem dX0_takeFromFar_16 : decode cX0_takeFromFar 16 = .ok (.putfield 40, 3) := by decide +kernel
theorem dX0_takeFromFar_19 : decode cX0_takeFromFar 19 = .ok (.return_, 1) := by decide +kernel
theorem dX0_goFar_0 : decode cX0_goFar 0 = .ok (.iconst 0, 1) := by decide +kernel
theorem dX0_goFar_1 : decode cX0_goFar 1 = .ok (.istore_n 1, 1) := by decide +kernel
theorem dX0_goFar_2 : decode cX0_goFar 2 = .ok (.iload_n 1, 1) := by decide +kernel
theorem dX0_goFar_3 : decode cX0_goFar 3 = .ok (.iconst 4, 1) := by decide +kernel
theorem dX0_goFar_4 : decode cX0_goFar 4 = .ok (.if_icmp .ge 33, 3) := by decide +kernel
theorem dX0_goFar_7 : decode cX0_goFar 7 = .ok (.aload_n 0, 1) := by decide +kernel
theorem dX0_goFar_8 : decode cX0_goFar 8 = .ok (.getfield 40, 3) := by decide +kernel
theorem dX0_goFar_11 : decode cX0_goFar 11 = .ok (.iload_n 1, 1) := by decide +kernel
theorem dX0_goFar_12 : decode cX0_goFar 12 = .ok (.ishr, 1) := by decide +kernel
theorem dX0_goFar_13 : decode cX0_goFar 13 = .ok (.iconst 1, 1) := by decide +kernel
theorem dX0_goFar_14 : decode cX0_goFar 14 = .ok (.iand, 1) := by decide +kernel
theorem dX0_goFar_15 : decode cX0_goFar 15 = .ok (.iconst 1, 1) := by decide +kernel
theorem dX0_goFar_16 : decode cX0_goFar 16 = .ok (.if_icmp .ne 15, 3) := by decide +kernel
theorem dX0_goFar_19 : decode cX0_goFar 19 = .ok (.aload_n 0, 1) := by decide +kernel
theorem dX0_goFar_20 : decode cX0_goFar 20 = .ok (.getfield 15, 3) := by decide +kernel
theorem dX0_goFar_23 : decode cX0_goFar 23 = .ok (.iload_n 1, 1) := by decide +kernel
theorem dX0_goFar_24 : decode cX0_goFar 24 = .ok (.aload_n 0, 1) := by decide +kernel
theorem dX0_goFar_25 : decode cX0_goFar 25 = .ok (.getfield 19, 3) := by decide +kernel
theorem dX0_goFar_28 : decode cX0_goFar 28 = .ok (.iload_n 1, 1) := by decide +kernel
theorem dX0_goFar_29 : decode cX0_goFar 29 = .ok (.iaload, 1) := by decide +kernel
theorem dX0_goFar_30 : decode cX0_goFar 30 = .ok (.iastore, 1) := by decide +kernel
theorem dX0_goFar_31 : decode cX0_goFar 31 = .ok (.iinc 1 1, 3) := by decide +kernel
theorem dX0_goFar_34 : decode cX0_goFar 34 = .ok (.goto (-32), 3) := by decide +kernel
theorem dX0_goFar_37 : decode cX0_goFar 37 = .ok (.aload_n 0, 1) := by decide +kernel
theorem dX0_goFar_38 : decode cX0_goFar 38 = .ok (.iconst 0, 1) := by decide +kernel
theorem dX0_goFar_39 : decode cX0_goFar 39 = .ok (.putfield 37, 3) := by decide +kernel
theorem dX0_goFar_42 : decode cX0_goFar 42 = .ok (.aload_n 0, 1) := by decide +kernel
theorem dX0_goFar_43 : decode cX0_goFar 43 = .ok (.iconst 0, 1) := by decide +kernel
theorem dX0_goFar_44 : decode cX0_goFar 44 = .ok (.putfield 40, 3) := by decide +kernel
theorem dX0_goFar_47 : decode cX0_goFar 47 = .ok (.aload_n 0, 1) := by decide +kernel
theorem dX0_goFar_48 : decode cX0_goFar 48 = .ok (.ldc 43, 2) := by decide +kernel
theorem dX0_goFar_50 : decode cX0_goFar 50 = .ok (.putfield 44, 3) := by decide +kernel
theorem dX0_goFar_53 : decode cX0_goFar 53 = .ok (.return_, 1) := by decide +kernel
theorem dX0_layIn_0 : decode cX0_layIn 0 = .ok (.iload_n 1, 1) := by decide +kernel
theorem dX0_layIn_1 : decode cX0_layIn 1 = .ok (.ifCond .lt 27, 3) := by decide +kernel
theorem dX0_layIn_4 : decode cX0_layIn 4 = .ok (.iload_n 1, 1) := by decide +kernel
theorem dX0_layIn_5 : decode cX0_layIn 5 = .ok (.iconst 4, 1) := by decide +kernel
theorem dX0_layIn_6 : decode cX0_layIn 6 = .ok (.if_icmp .ge 22, 3) := by decide +kernel
theorem dX0_layIn_9 : decode cX0_layIn 9 = .ok (.aload_n 0, 1) := by decide +kernel
theorem dX0_layIn_10 : decode cX0_layIn 10 = .ok (.getfield 19, 3) := by decide +kernel
theorem dX0_layIn_13 : decode cX0_layIn 13 = .ok (.iload_n 1, 1) := by decide +kernel
theorem dX0_layIn_14 : decode cX0_layIn 14 = .ok (.iload_n 2, 1) := by decide +kernel
theorem dX0_layIn_15 : decode cX0_layIn 15 = .ok (.iastore, 1) := by decide +kernel
theorem dX0_layIn_16 : decode cX0_layIn 16 = .ok (.aload_n 0, 1) := by decide +kernel
theorem dX0_layIn_17 : decode cX0_layIn 17 = .ok (.dup, 1) := by decide +kernel
theorem dX0_layIn_18 : decode cX0_layIn 18 = .ok (.getfield 40, 3) := by decide +kernel
theorem dX0_layIn_21 : decode cX0_layIn 21 = .ok (.iconst 1, 1) := by decide +kernel
theorem dX0_layIn_22 : decode cX0_layIn 22 = .ok (.iload_n 1, 1) := by decide +kernel
theorem dX0_layIn_23 : decode cX0_layIn 23 = .ok (.ishl, 1) := by decide +kernel
theorem dX0_layIn_24 : decode cX0_layIn 24 = .ok (.ior, 1) := by decide +kernel
theorem dX0_layIn_25 : decode cX0_layIn 25 = .ok (.putfield 40, 3) := by decide +kernel
theorem dX0_layIn_28 : decode cX0_layIn 28 = .ok (.return_, 1) := by decide +kernel
theorem dX1_init_0 : decode cX1_init 0 = .ok (.aload_n 0, 1) := by decide +kernel
theorem dX1_init_1 : decode cX1_init 1 = .ok (.invokespecial 3, 3) := by decide +kernel
theorem dX1_init_4 : decode cX1_init 4 = .ok (.aload_n 0, 1) := by decide +kernel
theorem dX1_init_5 : decode cX1_init 5 = .ok (.sipush 200, 3) := by decide +kernel
theorem dX1_init_8 : decode cX1_init 8 = .ok (.newarray .int, 2) := by decide +kernel
theorem dX1_init_10 : decode cX1_init 10 = .ok (.putfield 9, 3) := by decide +kernel
theorem dX1_init_13 : decode cX1_init 13 = .ok (.aload_n 0, 1) := by decide +kernel
theorem dX1_init_14 : decode cX1_init 14 = .ok (.sipush 200, 3) := by decide +kernel
theorem dX1_init_17 : decode cX1_init 17 = .ok (.newarray .int, 2) := by decide +kernel
theorem dX1_init_19 : decode cX1_init 19 = .ok (.putfield 15, 3) := by decide +kernel
theorem dX1_init_22 : decode cX1_init 22 = .ok (.aload_n 0, 1) := by decide +kernel
theorem dX1_init_23 : decode cX1_init 23 = .ok (.sipush 200, 3) := by decide +kernel
theorem dX1_init_26 : decode cX1_init 26 = .ok (.newarray .int, 2) := by decide +kernel
theorem dX1_init_28 : decode cX1_init 28 = .ok (.putfield 18, 3) := by decide +kernel
theorem dX1_init_31 : decode cX1_init 31 = .ok (.return_, 1) := by decide +kernel
theorem dX1_renew_0 : decode cX1_renew 0 = .ok (.aload_n 0, 1) := by decide +kernel
theorem dX1_renew_1 : decode cX1_renew 1 = .ok (.iconst 0, 1) := by decide +kernel
theorem dX1_renew_2 : decode cX1_renew 2 = .ok (.putfield 21, 3) := by decide +kernel
theorem dX1_renew_5 : decode cX1_renew 5 = .ok (.aload_n 0, 1) := by decide +kernel
theorem dX1_renew_6 : decode cX1_renew 6 = .ok (.iconst 0, 1) := by decide +kernel
theorem dX1_renew_7 : decode cX1_renew 7 = .ok (.putfield 25, 3) := by decide +kernel
theorem dX1_renew_10 : decode cX1_renew 10 = .ok (.aload_n 0, 1) := by decide +kernel
theorem dX1_renew_11 : decode cX1_renew 11 = .ok (.iconst 0, 1) := by decide +kernel
theorem dX1_renew_12 : decode cX1_renew 12 = .ok (.putfield 28, 3) := by decide +kernel
theorem dX1_renew_15 : decode cX1_renew 15 = .ok (.aload_n 0, 1) := by decide +kernel
theorem dX1_renew_16 : decode cX1_renew 16 = .ok (.lconst 0, 1) := by decide +kernel
theorem dX1_renew_17 : decode cX1_renew 17 = .ok (.putfield 31, 3) := by decide +kernel
theorem dX1_renew_20 : decode cX1_renew 20 = .ok (.aload_n 0, 1) := by decide +kernel
theorem dX1_renew_21 : decode cX1_renew 21 = .ok (.lconst 0, 1) := by decide +kernel
theorem dX1_renew_22 : decode cX1_renew 22 = .ok (.putfield 35, 3) := by decide +kernel
theorem dX1_renew_25 : decode cX1_renew 25 = .ok (.return_, 1) := by decide +kernel
theorem dX1_become_0 : decode cX1_become 0 = .ok (.iconst 0, 1) := by decide +kernel
theorem dX1_become_1 : decode cX1_become 1 = .ok (.aload_n 1, 1) := by decide +kernel
theorem dX1_become_2 : decode cX1_become 2 = .ok (.getfield 21, 3) := by decide +kernel
theorem dX1_become_5 : decode cX1_become 5 = .ok (.sipush 200, 3) := by decide +kernel
theorem dX1_become_8 : decode cX1_become 8 = .ok (.invokestatic 38, 3) := by decide +kernel
theorem dX1_become_11 : decode cX1_become 11 = .ok (.invokestatic 44, 3) := by decide +kernel
theorem dX1_become_14 : decode cX1_become 14 = .ok (.istore_n 2, 1) := by decide +kernel
theorem dX1_become_15 : decode cX1_become 15 = .ok (.aload_n 1, 1) := by decide +kernel
theorem dX1_become_16 : decode cX1_become 16 = .ok (.getfield 9, 3) := by decide +kernel
theorem dX1_become_19 : decode cX1_become 19 = .ok (.iconst 0, 1) := by decide +kernel
theorem dX1_become_20 : decode cX1_become 20 = .ok (.aload_n 0, 1) := by decide +kernel
theorem dX1_become_21 : decode cX1_become 21 = .ok (.getfield 9, 3) := by decide +kernel
theorem dX1_become_24 : decode cX1_become 24 = .ok (.iconst 0, 1) := by decide +kernel
theorem dX1_become_25 : decode cX1_become 25 = .ok (.iload_n 2, 1) := by decide +kernel
theorem dX1_become_26 : decode cX1_become 26 = .ok (.invokestatic 47, 3) := by decide +kernel
theorem dX1_become_29 : decode cX1_become 29 = .ok (.aload_n 1, 1) := by decide +kernel
theorem dX1_become_30 : decode cX1_become 30 = .ok (.getfield 15, 3) := by decide +kernel
theorem dX1_become_33 : decode cX1_become 33 = .ok (.iconst 0, 1) := by decide +kernel
theorem dX1_become_34 : decode cX1_become 34 = .ok (.aload_n 0, 1) := by decide +kernel
theorem dX1_become_35 : decode cX1_become 35 = .ok (.getfield 15, 3) := by decide +kernel
theorem dX1_become_38 : decode cX1_become 38 = .ok (.iconst 0, 1) := by decide +kernel
theorem dX1_become_39 : decode cX1_become 39 = .ok (.iload_n 2, 1) := by decide +kernel
theorem dX1_become_40 : decode cX1_become 40 = .ok (.invokestatic 47, 3) := by decide +kernel
theorem dX1_become_43 : decode cX1_become 43 = .ok (.aload_n 1, 1) := by decide +kernel
theorem dX1_become_44 : decode cX1_become 44 = .ok (.getfield 18, 3) := by decide +kernel
theorem dX1_become_47 : decode cX1_become 47 = .ok (.iconst 0, 1) := by decide +kernel
theorem dX1_become_48 : decode cX1_become 48 = .ok (.aload_n 0, 1) := by decide +kernel
theorem dX1_become_49 : decode cX1_become 49 = .ok (.getfield 18, 3) := by decide +kernel
theorem dX1_become_52 : decode cX1_become 52 = .ok (.iconst 0, 1) := by decide +kernel
theorem dX1_become_53 : decode cX1_become 53 = .ok (.iload_n 2, 1) := by decide +kernel
theorem dX1_become_54 : decode cX1_become 54 = .ok (.invokestatic 47, 3) := by decide +kernel
theorem dX1_become_57 : decode cX1_become 57 = .ok (.aload_n 0, 1) := by decide +kernel
theorem dX1_become_58 : decode cX1_become 58 = .ok (.aload_n 1, 1) := by decide +kernel
theorem dX1_become_59 : decode cX1_become 59 = .ok (.getfield 21, 3) := by decide +kernel
theorem dX1_become_62 : decode cX1_become 62 = .ok (.putfield 21, 3) := by decide +kernel
theorem dX1_become_65 : decode cX1_become 65 = .ok (.aload_n 0, 1) := by decide +kernel
theorem dX1_become_66 : decode cX1_become 66 = .ok (.aload_n 1, 1) := by decide +kernel
theorem dX1_become_67 : decode cX1_become 67 = .ok (.getfield 25, 3) := by decide +kernel
theorem dX1_become_70 : decode cX1_become 70 = .ok (.putfield 25, 3) := by decide +kernel
theorem dX1_become_73 : decode cX1_become 73 = .ok (.aload_n 0, 1) := by decide +kernel
theorem dX1_become_74 : decode cX1_become 74 = .ok (.aload_n 1, 1) := by decide +kernel
theorem dX1_become_75 : decode cX1_become 75 = .ok (.getfield 28, 3) := by decide +kernel
theorem dX1_become_78 : decode cX1_become 78 = .ok (.putfield 28, 3) := by decide +kernel
theorem dX1_become_81 : decode cX1_become 81 = .ok (.aload_n 0, 1) := by decide +kernel
theorem dX1_become_82 : decode cX1_become 82 = .ok (.aload_n 1, 1) := by decide +kernel
theorem dX1_become_83 : decode cX1_become 83 = .ok (.getfield 31, 3) := by decide +kernel
theorem dX1_become_86 : decode cX1_become 86 = .ok (.putfield 31, 3) := by decide +kernel
theorem dX1_become_89 : decode cX1_become 89 = .ok (.aload_n 0, 1) := by decide +kernel
theorem dX1_become_90 : decode cX1_become 90 = .ok (.aload_n 1, 1) := by decide +kernel
theorem dX1_become_91 : decode cX1_become 91 = .ok (.getfield 35, 3) := by decide +kernel
theorem dX1_become_94 : decode cX1_become 94 = .ok (.putfield 35, 3) := by decide +kernel
theorem dX1_become_97 : decode cX1_become 97 = .ok (.return_, 1) := by decide +kernel
theorem dX1_add_0 : decode cX1_add 0 = .ok (.aload_n 0, 1) := by decide +kernel
theorem dX1_add_1 : decode cX1_add 1 = .ok (.getfield 21, 3) := by decide +kernel
theorem dX1_add_4 : decode cX1_add 4 = .ok (.ifCond .lt 13, 3) := by decide +kernel
theorem dX1_add_7 : decode cX1_add 7 = .ok (.aload_n 0, 1) := by decide +kernel
theorem dX1_add_8 : decode cX1_add 8 = .ok (.getfield 21, 3) := by decide +kernel
theorem dX1_add_11 : decode cX1_add 11 = .ok (.sipush 200, 3) := by decide +kernel
theorem dX1_add_14 : decode cX1_add 14 = .ok (.if_icmp .lt 5, 3) := by decide +kernel
theorem dX1_add_17 : decode cX1_add 17 = .ok (.iconst (-1), 1) := by decide +kernel
theorem dX1_add_18 : decode cX1_add 18 = .ok (.ireturn, 1) := by decide +kernel
theorem dX1_add_19 : decode cX1_add 19 = .ok (.aload_n 0, 1) := by decide +kernel
theorem dX1_add_20 : decode cX1_add 20 = .ok (.getfield 9, 3) := by decide +kernel
theorem dX1_add_23 : decode cX1_add 23 = .ok (.aload_n 0, 1) := by decide +kernel
theorem dX1_add_24 : decode cX1_add 24 = .ok (.getfield 21, 3) := by decide +kernel
theorem dX1_add_27 : decode cX1_add 27 = .ok (.iconst (-1), 1) := by decide +kernel
theorem dX1_add_28 : decode cX1_add 28 = .ok (.iastore, 1) := by decide +kernel
theorem dX1_add_29 : decode cX1_add 29 = .ok (.aload_n 0, 1) := by decide +kernel
theorem dX1_add_30 : decode cX1_add 30 = .ok (.getfield 15, 3) := by decide +kernel
theorem dX1_add_33 : decode cX1_add 33 = .ok (.aload_n 0, 1) := by decide +kernel
theorem dX1_add_34 : decode cX1_add 34 = .ok (.getfield 21, 3) := by decide +kernel
theorem dX1_add_37 : decode cX1_add 37 = .ok (.iconst (-1), 1) := by decide +kernel
theorem dX1_add_38 : decode cX1_add 38 = .ok (.iastore, 1) := by decide +kernel
theorem dX1_add_39 : decode cX1_add 39 = .ok (.aload_n 0, 1) := by decide +kernel
theorem dX1_add_40 : decode cX1_add 40 = .ok (.getfield 18, 3) := by decide +kernel
theorem dX1_add_43 : decode cX1_add 43 = .ok (.aload_n 0, 1) := by decide +kernel
theorem dX1_add_44 : decode cX1_add 44 = .ok (.getfield 21, 3) := by decide +kernel
theorem dX1_add_47 : decode cX1_add 47 = .ok (.iload_n 1, 1) := by decide +kernel
theorem dX1_add_48 : decode cX1_add 48 = .ok (.iastore, 1) := by decide +kernel
theorem dX1_add_49 : decode cX1_add 49 = .ok (.aload_n 0, 1) := by decide +kernel
theorem dX1_add_50 : decode cX1_add 50 = .ok (.dup, 1) := by decide +kernel
theorem dX1_add_51 : decode cX1_add 51 = .ok (.getfield 21, 3) := by decide +kernel
theorem dX1_add_54 : decode cX1_add 54 = .ok (.iconst 1, 1) := by decide +kernel
theorem dX1_add_55 : decode cX1_add 55 = .ok (.iadd, 1) := by decide +kernel
theorem dX1_add_56 : decode cX1_add 56 = .ok (.putfield 21, 3) := by decide +kernel
theorem dX1_add_59 : decode cX1_add 59 = .ok (.aload_n 0, 1) := by decide +kernel
theorem dX1_add_60 : decode cX1_add 60 = .ok (.getfield 21, 3) := by decide +kernel
theorem dX1_add_63 : decode cX1_add 63 = .ok (.iconst 1, 1) := by decide +kernel
theorem dX1_add_64 : decode cX1_add 64 = .ok (.isub, 1) := by decide +kernel
theorem dX1_add_65 : decode cX1_add 65 = .ok (.ireturn, 1) := by decide +kernel
theorem dX1_answer_0 : decode cX1_answer 0 = .ok (.iload_n 1, 1) := by decide +kernel
theorem dX1_answer_1 : decode cX1_answer 1 = .ok (.ifCond .lt 24, 3) := by decide +kernel
theorem dX1_answer_4 : decode cX1_answer 4 = .ok (.iload_n 1, 1) := by decide +kernel
theorem dX1_answer_5 : decode cX1_answer 5 = .ok (.sipush 200, 3) := by decide +kernel
theorem dX1_answer_8 : decode cX1_answer 8 = .ok (.if_icmp .ge 17, 3) := by decide +kernel
theorem dX1_answer_11 : decode cX1_answer 11 = .ok (.aload_n 0, 1) := by decide +kernel
theorem dX1_answer_12 : decode cX1_answer 12 = .ok (.getfield 9, 3) := by decide +kernel
theorem dX1_answer_15 : decode cX1_answer 15 = .ok (.iload_n 1, 1) := by decide +kernel
theorem dX1_answer_16 : decode cX1_answer 16 = .ok (.iload_n 2, 1) := by decide +kernel
theorem dX1_answer_17 : decode cX1_answer 17 = .ok (.iastore, 1) := by decide +kernel
theorem dX1_answer_18 : decode cX1_answer 18 = .ok (.aload_n 0, 1) := by decide +kernel
theorem dX1_answer_19 : decode cX1_answer 19 = .ok (.getfield 15, 3) := by decide +kernel
theorem dX1_answer_22 : decode cX1_answer 22 = .ok (.iload_n 1, 1) := by decide +kernel
theorem dX1_answer_23 : decode cX1_answer 23 = .ok (.iload_n 3, 1) := by decide +kernel
theorem dX1_answer_24 : decode cX1_answer 24 = .ok (.iastore, 1) := by decide +kernel
theorem dX1_answer_25 : decode cX1_answer 25 = .ok (.aload_n 0, 1) := by decide +kernel
theorem dX1_answer_26 : decode cX1_answer 26 = .ok (.dup, 1) := by decide +kernel
theorem dX1_answer_27 : decode cX1_answer 27 = .ok (.getfield 25, 3) := by decide +kernel
theorem dX1_answer_30 : decode cX1_answer 30 = .ok (.iconst 1, 1) := by decide +kernel
theorem dX1_answer_31 : decode cX1_answer 31 = .ok (.iadd, 1) := by decide +kernel
theorem dX1_answer_32 : decode cX1_answer 32 = .ok (.putfield 25, 3) := by decide +kernel
theorem dX1_answer_35 : decode cX1_answer 35 = .ok (.aload_n 0, 1) := by decide +kernel
theorem dX1_answer_36 : decode cX1_answer 36 = .ok (.iload_n 3, 1) := by decide +kernel
theorem dX1_answer_37 : decode cX1_answer 37 = .ok (.aload_n 0, 1) := by decide +kernel
theorem dX1_answer_38 : decode cX1_answer 38 = .ok (.getfield 28, 3) := by decide +kernel
theorem dX1_answer_41 : decode cX1_answer 41 = .ok (.if_icmp .le 7, 3) := by decide +kernel
theorem dX1_answer_44 : decode cX1_answer 44 = .ok (.iload_n 3, 1) := by decide +kernel
theorem dX1_answer_45 : decode cX1_answer 45 = .ok (.goto 7, 3) := by decide +kernel
theorem dX1_answer_48 : decode cX1_answer 48 = .ok (.aload_n 0, 1) := by decide +kernel
theorem dX1_answer_49 : decode cX1_answer 49 = .ok (.getfield 28, 3) := by decide +kernel
theorem dX1_answer_52 : decode cX1_answer 52 = .ok (.putfield 28, 3) := by decide +kernel
theorem dX1_answer_55 : decode cX1_answer 55 = .ok (.aload_n 0, 1) := by decide +kernel
theorem dX1_answer_56 : decode cX1_answer 56 = .ok (.dup, 1) := by decide +kernel
theorem dX1_answer_57 : decode cX1_answer 57 = .ok (.getfield 31, 3) := by decide +kernel
theorem dX1_answer_60 : decode cX1_answer 60 = .ok (.iload_n 3, 1) := by decide +kernel
theorem dX1_answer_61 : decode cX1_answer 61 = .ok (.i2l, 1) := by decide +kernel
theorem dX1_answer_62 : decode cX1_answer 62 = .ok (.ladd, 1) := by decide +kernel
theorem dX1_answer_63 : decode cX1_answer 63 = .ok (.putfield 31, 3) := by decide +kernel
theorem dX1_answer_66 : decode cX1_answer 66 = .ok (.aload_n 0, 1) := by decide +kernel
theorem dX1_answer_67 : decode cX1_answer 67 = .ok (.dup, 1) := by decide +kernel
theorem dX1_answer_68 : decode cX1_answer 68 = .ok (.getfield 35, 3) := by decide +kernel
theorem dX1_answer_71 : decode cX1_answer 71 = .ok (.iload_n 3, 1) := by decide +kernel
theorem dX1_answer_72 : decode cX1_answer 72 = .ok (.i2l, 1) := by decide +kernel
theorem dX1_answer_73 : decode cX1_answer 73 = .ok (.iload_n 3, 1) := by decide +kernel
theorem dX1_answer_74 : decode cX1_answer 74 = .ok (.i2l, 1) := by decide +kernel
theorem dX1_answer_75 : decode cX1_answer 75 = .ok (.lmul, 1) := by decide +kernel
theorem dX1_answer_76 : decode cX1_answer 76 = .ok (.ladd, 1) := by decide +kernel
theorem dX1_answer_77 : decode cX1_answer 77 = .ok (.putfield 35, 3) := by decide +kernel
theorem dX1_answer_80 : decode cX1_answer 80 = .ok (.return_, 1) := by decide +kernel
theorem dX1_meanWait_0 : decode cX1_meanWait 0 = .ok (.aload_n 0, 1) := by decide +kernel
theorem dX1_meanWait_1 : decode cX1_meanWait 1 = .ok (.getfield 25, 3) := by decide +kernel
theorem dX1_meanWait_4 : decode cX1_meanWait 4 = .ok (.ifCond .gt 7, 3) := by decide +kernel
theorem dX1_meanWait_7 : decode cX1_meanWait 7 = .ok (.fconst 0, 1) := by decide +kernel
theorem dX1_meanWait_8 : decode cX1_meanWait 8 = .ok (.goto 14, 3) := by decide +kernel
theorem dX1_meanWait_11 : decode cX1_meanWait 11 = .ok (.aload_n 0, 1) := by decide +kernel
theorem dX1_meanWait_12 : decode cX1_meanWait 12 = .ok (.getfield 31, 3) := by decide +kernel
theorem dX1_meanWait_15 : decode cX1_meanWait 15 = .ok (.l2f, 1) := by decide +kernel
theorem dX1_meanWait_16 : decode cX1_meanWait 16 = .ok (.aload_n 0, 1) := by decide +kernel
theorem dX1_meanWait_17 : decode cX1_meanWait 17 = .ok (.getfield 25, 3) := by decide +kernel
theorem dX1_meanWait_20 : decode cX1_meanWait 20 = .ok (.i2f, 1) := by decide +kernel
theorem dX1_meanWait_21 : decode cX1_meanWait 21 = .ok (.fdiv, 1) := by decide +kernel
theorem dX1_meanWait_22 : decode cX1_meanWait 22 = .ok (.freturn, 1) := by decide +kernel
theorem dX1_spread_0 : decode cX1_spread 0 = .ok (.aload_n 0, 1) := by decide +kernel
theorem dX1_spread_1 : decode cX1_spread 1 = .ok (.getfield 25, 3) := by decide +kernel
theorem dX1_spread_4 : decode cX1_spread 4 = .ok (.ifCond .gt 5, 3) := by decide +kernel
theorem dX1_spread_7 : decode cX1_spread 7 = .ok (.dconst 0, 1) := by decide +kernel
theorem dX1_spread_8 : decode cX1_spread 8 = .ok (.dreturn, 1) := by decide +kernel
theorem dX1_spread_9 : decode cX1_spread 9 = .ok (.aload_n 0, 1) := by decide +kernel
theorem dX1_spread_10 : decode cX1_spread 10 = .ok (.getfield 31, 3) := by decide +kernel
theorem dX1_spread_13 : decode cX1_spread 13 = .ok (.l2d, 1) := by decide +kernel
theorem dX1_spread_14 : decode cX1_spread 14 = .ok (.aload_n 0, 1) := by decide +kernel
theorem dX1_spread_15 : decode cX1_spread 15 = .ok (.getfield 25, 3) := by decide +kernel
theorem dX1_spread_18 : decode cX1_spread 18 = .ok (.i2d, 1) := by decide +kernel
theorem dX1_spread_19 : decode cX1_spread 19 = .ok (.ddiv, 1) := by decide +kernel
theorem dX1_spread_20 : decode cX1_spread 20 = .ok (.dstore_n 1, 1) := by decide +kernel
theorem dX1_spread_21 : decode cX1_spread 21 = .ok (.aload_n 0, 1) := by decide +kernel
theorem dX1_spread_22 : decode cX1_spread 22 = .ok (.getfield 35, 3) := by decide +kernel
theorem dX1_spread_25 : decode cX1_spread 25 = .ok (.l2d, 1) := by decide +kernel
theorem dX1_spread_26 : decode cX1_spread 26 = .ok (.aload_n 0, 1) := by decide +kernel
theorem dX1_spread_27 : decode cX1_spread 27 = .ok (.getfield 25, 3) := by decide +kernel
theorem dX1_spread_30 : decode cX1_spread 30 = .ok (.i2d, 1) := by decide +kernel
theorem dX1_spread_31 : decode cX1_spread 31 = .ok (.ddiv, 1) := by decide +kernel
theorem dX1_spread_32 : decode cX1_spread 32 = .ok (.dload_n 1, 1) := by decide +kernel
theorem dX1_spread_33 : decode cX1_spread 33 = .ok (.dload_n 1, 1) := by decide +kernel
theorem dX1_spread_34 : decode cX1_spread 34 = .ok (.dmul, 1) := by decide +kernel
theorem dX1_spread_35 : decode cX1_spread 35 = .ok (.dsub, 1) := by decide +kernel
theorem dX1_spread_36 : decode cX1_spread 36 = .ok (.dreturn, 1) := by decide +kernel
theorem dX2_init_0 : decode cX2_init 0 = .ok (.aload_n 0, 1) := by decide +kernel
theorem dX2_init_1 : decode cX2_init 1 = .ok (.invokespecial 3, 3) := by decide +kernel
theorem dX2_init_4 : decode cX2_init 4 = .ok (.aload_n 0, 1) := by decide +kernel
theorem dX2_init_5 : decode cX2_init 5 = .ok (.getstatic 9, 3) := by decide +kernel
theorem dX2_init_8 : decode cX2_init 8 = .ok (.arraylength, 1) := by decide +kernel
theorem dX2_init_9 : decode cX2_init 9 = .ok (.newarray .int, 2) := by decide +kernel
theorem dX2_init_11 : decode cX2_init 11 = .ok (.putfield 13, 3) := by decide +kernel
theorem dX2_init_14 : decode cX2_init 14 = .ok (.getstatic 9, 3) := by decide +kernel
theorem dX2_init_17 : decode cX2_init 17 = .ok (.iconst 0, 1) := by decide +kernel
theorem dX2_init_18 : decode cX2_init 18 = .ok (.aload_n 0, 1) := by decide +kernel
theorem dX2_init_19 : decode cX2_init 19 = .ok (.getfield 13, 3) := by decide +kernel
theorem dX2_init_22 : decode cX2_init 22 = .ok (.iconst 0, 1) := by decide +kernel
theorem dX2_init_23 : decode cX2_init 23 = .ok (.getstatic 9, 3) := by decide +kernel
theorem dX2_init_26 : decode cX2_init 26 = .ok (.arraylength, 1) := by decide +kernel
theorem dX2_init_27 : decode cX2_init 27 = .ok (.invokestatic 18, 3) := by decide +kernel
theorem dX2_init_30 : decode cX2_init 30 = .ok (.aload_n 0, 1) := by decide +kernel
theorem dX2_init_31 : decode cX2_init 31 = .ok (.bipush 10, 2) := by decide +kernel
theorem dX2_init_33 : decode cX2_init 33 = .ok (.newarray .int, 2) := by decide +kernel
theorem dX2_init_35 : decode cX2_init 35 = .ok (.putfield 24, 3) := by decide +kernel
theorem dX2_init_38 : decode cX2_init 38 = .ok (.aload_n 0, 1) := by decide +kernel
theorem dX2_init_39 : decode cX2_init 39 = .ok (.bipush 16, 2) := by decide +kernel
theorem dX2_init_41 : decode cX2_init 41 = .ok (.anewarray 27, 3) := by decide +kernel
theorem dX2_init_44 : decode cX2_init 44 = .ok (.putfield 29, 3) := by decide +kernel
theorem dX2_init_47 : decode cX2_init 47 = .ok (.iconst 0, 1) := by decide +kernel
theorem dX2_init_48 : decode cX2_init 48 = .ok (.istore_n 1, 1) := by decide +kernel
theorem dX2_init_49 : decode cX2_init 49 = .ok (.iload_n 1, 1) := by decide +kernel
theorem dX2_init_50 : decode cX2_init 50 = .ok (.bipush 16, 2) := by decide +kernel
theorem dX2_init_52 : decode cX2_init 52 = .ok (.if_icmp .ge 23, 3) := by decide +kernel
theorem dX2_init_55 : decode cX2_init 55 = .ok (.aload_n 0, 1) := by decide +kernel
theorem dX2_init_56 : decode cX2_init 56 = .ok (.getfield 29, 3) := by decide +kernel
theorem dX2_init_59 : decode cX2_init 59 = .ok (.iload_n 1, 1) := by decide +kernel
theorem dX2_init_60 : decode cX2_init 60 = .ok (.new 27, 3) := by decide +kernel
theorem dX2_init_63 : decode cX2_init 63 = .ok (.dup, 1) := by decide +kernel
theorem dX2_init_64 : decode cX2_init 64 = .ok (.iload_n 1, 1) := by decide +kernel
theorem dX2_init_65 : decode cX2_init 65 = .ok (.invokespecial 33, 3) := by decide +kernel
theorem dX2_init_68 : decode cX2_init 68 = .ok (.aastore, 1) := by decide +kernel
theorem dX2_init_69 : decode cX2_init 69 = .ok (.iinc 1 1, 3) := by decide +kernel
theorem dX2_init_72 : decode cX2_init 72 = .ok (.goto (-23), 3) := by decide +kernel
theorem dX2_init_75 : decode cX2_init 75 = .ok (.aload_n 0, 1) := by decide +kernel
theorem dX2_init_76 : decode cX2_init 76 = .ok (.new 36, 3) := by decide +kernel
theorem dX2_init_79 : decode cX2_init 79 = .ok (.dup, 1) := by decide +kernel
theorem dX2_init_80 : decode cX2_init 80 = .ok (.invokespecial 38, 3) := by decide +kernel
theorem dX2_init_83 : decode cX2_init 83 = .ok (.putfield 39, 3) := by decide +kernel
theorem dX2_init_86 : decode cX2_init 86 = .ok (.aload_n 0, 1) := by decide +kernel
theorem dX2_init_87 : decode cX2_init 87 = .ok (.invokevirtual 43, 3) := by decide +kernel
theorem dX2_init_90 : decode cX2_init 90 = .ok (.return_, 1) := by decide +kernel
theorem dX2_renew_0 : decode cX2_renew 0 = .ok (.iconst 0, 1) := by decide +kernel
theorem dX2_renew_1 : decode cX2_renew 1 = .ok (.istore_n 1, 1) := by decide +kernel
theorem dX2_renew_2 : decode cX2_renew 2 = .ok (.iload_n 1, 1) := by decide +kernel
theorem dX2_renew_3 : decode cX2_renew 3 = .ok (.bipush 10, 2) := by decide +kernel
theorem dX2_renew_5 : decode cX2_renew 5 = .ok (.if_icmp .ge 16, 3) := by decide +kernel
theorem dX2_renew_8 : decode cX2_renew 8 = .ok (.aload_n 0, 1) := by decide +kernel
theorem dX2_renew_9 : decode cX2_renew 9 = .ok (.getfield 24, 3) := by decide +kernel
theorem dX2_renew_12 : decode cX2_renew 12 = .ok (.iload_n 1, 1) := by decide +kernel
theorem dX2_renew_13 : decode cX2_renew 13 = .ok (.iconst 0, 1) := by decide +kernel
theorem dX2_renew_14 : decode cX2_renew 14 = .ok (.iastore, 1) := by decide +kernel
theorem dX2_renew_15 : decode cX2_renew 15 = .ok (.iinc 1 1, 3) := by decide +kernel
theorem dX2_renew_18 : decode cX2_renew 18 = .ok (.goto (-16), 3) := by decide +kernel
theorem dX2_renew_21 : decode cX2_renew 21 = .ok (.aload_n 0, 1) := by decide +kernel
theorem dX2_renew_22 : decode cX2_renew 22 = .ok (.getfield 29, 3) := by decide +kernel
theorem dX2_renew_25 : decode cX2_renew 25 = .ok (.astore_n 1, 1) := by decide +kernel
theorem dX2_renew_26 : decode cX2_renew 26 = .ok (.aload_n 1, 1) := by decide +kernel
theorem dX2_renew_27 : decode cX2_renew 27 = .ok (.arraylength, 1) := by decide +kernel
theorem dX2_renew_28 : decode cX2_renew 28 = .ok (.istore_n 2, 1) := by decide +kernel
theorem dX2_renew_29 : decode cX2_renew 29 = .ok (.iconst 0, 1) := by decide +kernel
theorem dX2_renew_30 : decode cX2_renew 30 = .ok (.istore_n 3, 1) := by decide +kernel
theorem dX2_renew_31 : decode cX2_renew 31 = .ok (.iload_n 3, 1) := by decide +kernel
theorem dX2_renew_32 : decode cX2_renew 32 = .ok (.iload_n 2, 1) := by decide +kernel
theorem dX2_renew_33 : decode cX2_renew 33 = .ok (.if_icmp .ge 19, 3) := by decide +kernel
theorem dX2_renew_36 : decode cX2_renew 36 = .ok (.aload_n 1, 1) := by decide +kernel
theorem dX2_renew_37 : decode cX2_renew 37 = .ok (.iload_n 3, 1) := by decide +kernel
theorem dX2_renew_38 : decode cX2_renew 38 = .ok (.aaload, 1) := by decide +kernel
theorem dX2_renew_39 : decode cX2_renew 39 = .ok (.astore 4, 2) := by decide +kernel
theorem dX2_renew_41 : decode cX2_renew 41 = .ok (.aload 4, 2) := by decide +kernel
theorem dX2_renew_43 : decode cX2_renew 43 = .ok (.invokevirtual 46, 3) := by decide +kernel
theorem dX2_renew_46 : decode cX2_renew 46 = .ok (.iinc 3 1, 3) := by decide +kernel
theorem dX2_renew_49 : decode cX2_renew 49 = .ok (.goto (-18), 3) := by decide +kernel
theorem dX2_renew_52 : decode cX2_renew 52 = .ok (.aload_n 0, 1) := by decide +kernel
theorem dX2_renew_53 : decode cX2_renew 53 = .ok (.getfield 39, 3) := by decide +kernel
theorem dX2_renew_56 : decode cX2_renew 56 = .ok (.invokevirtual 47, 3) := by decide +kernel
theorem dX2_renew_59 : decode cX2_renew 59 = .ok (.aload_n 0, 1) := by decide +kernel
theorem dX2_renew_60 : decode cX2_renew 60 = .ok (.fconst 0, 1) := by decide +kernel
theorem dX2_renew_61 : decode cX2_renew 61 = .ok (.putfield 48, 3) := by decide +kernel
theorem dX2_renew_64 : decode cX2_renew 64 = .ok (.aload_n 0, 1) := by decide +kernel
theorem dX2_renew_65 : decode cX2_renew 65 = .ok (.iconst 0, 1) := by decide +kernel
theorem dX2_renew_66 : decode cX2_renew 66 = .ok (.putfield 52, 3) := by decide +kernel
theorem dX2_renew_69 : decode cX2_renew 69 = .ok (.aload_n 0, 1) := by decide +kernel
theorem dX2_renew_70 : decode cX2_renew 70 = .ok (.iconst 0, 1) := by decide +kernel
theorem dX2_renew_71 : decode cX2_renew 71 = .ok (.putfield 56, 3) := by decide +kernel
theorem dX2_renew_74 : decode cX2_renew 74 = .ok (.aload_n 0, 1) := by decide +kernel
theorem dX2_renew_75 : decode cX2_renew 75 = .ok (.iconst 0, 1) := by decide +kernel
theorem dX2_renew_76 : decode cX2_renew 76 = .ok (.putfield 59, 3) := by decide +kernel
theorem dX2_renew_79 : decode cX2_renew 79 = .ok (.aload_n 0, 1) := by decide +kernel
theorem dX2_renew_80 : decode cX2_renew 80 = .ok (.ldc 62, 2) := by decide +kernel
theorem dX2_renew_82 : decode cX2_renew 82 = .ok (.putfield 63, 3) := by decide +kernel
theorem dX2_renew_85 : decode cX2_renew 85 = .ok (.return_, 1) := by decide +kernel
theorem dX2_become_0 : decode cX2_become 0 = .ok (.aload_n 1, 1) := by decide +kernel
theorem dX2_become_1 : decode cX2_become 1 = .ok (.getfield 13, 3) := by decide +kernel
theorem dX2_become_4 : decode cX2_become 4 = .ok (.iconst 0, 1) := by decide +kernel
theorem dX2_become_5 : decode cX2_become 5 = .ok (.aload_n 0, 1) := by decide +kernel
theorem dX2_become_6 : decode cX2_become 6 = .ok (.getfield 13, 3) := by decide +kernel
theorem dX2_become_9 : decode cX2_become 9 = .ok (.iconst 0, 1) := by decide +kernel
theorem dX2_become_10 : decode cX2_become 10 = .ok (.getstatic 9, 3) := by decide +kernel
theorem dX2_become_13 : decode cX2_become 13 = .ok (.arraylength, 1) := by decide +kernel
theorem dX2_become_14 : decode cX2_become 14 = .ok (.invokestatic 18, 3) := by decide +kernel
theorem dX2_become_17 : decode cX2_become 17 = .ok (.aload_n 1, 1) := by decide +kernel
theorem dX2_become_18 : decode cX2_become 18 = .ok (.getfield 24, 3) := by decide +kernel
theorem dX2_become_21 : decode cX2_become 21 = .ok (.iconst 0, 1) := by decide +kernel
theorem dX2_become_22 : decode cX2_become 22 = .ok (.aload_n 0, 1) := by decide +kernel
theorem dX2_become_23 : decode cX2_become 23 = .ok (.getfield 24, 3) := by decide +kernel
theorem dX2_become_26 : decode cX2_become 26 = .ok (.iconst 0, 1) := by decide +kernel
theorem dX2_become_27 : decode cX2_become 27 = .ok (.bipush 10, 2) := by decide +kernel
theorem dX2_become_29 : decode cX2_become 29 = .ok (.invokestatic 18, 3) := by decide +kernel
theorem dX2_become_32 : decode cX2_become 32 = .ok (.iconst 0, 1) := by decide +kernel
theorem dX2_become_33 : decode cX2_become 33 = .ok (.istore_n 2, 1) := by decide +kernel
theorem dX2_become_34 : decode cX2_become 34 = .ok (.iload_n 2, 1) := by decide +kernel
theorem dX2_become_35 : decode cX2_become 35 = .ok (.bipush 16, 2) := by decide +kernel
theorem dX2_become_37 : decode cX2_become 37 = .ok (.if_icmp .ge 24, 3) := by decide +kernel
theorem dX2_become_40 : decode cX2_become 40 = .ok (.aload_n 0, 1) := by decide +kernel
theorem dX2_become_41 : decode cX2_become 41 = .ok (.getfield 29, 3) := by decide +kernel
theorem dX2_become_44 : decode cX2_become 44 = .ok (.iload_n 2, 1) := by decide +kernel
theorem dX2_become_45 : decode cX2_become 45 = .ok (.aaload, 1) := by decide +kernel
theorem dX2_become_46 : decode cX2_become 46 = .ok (.aload_n 1, 1) := by decide +kernel
theorem dX2_become_47 : decode cX2_become 47 = .ok (.getfield 29, 3) := by decide +kernel
theorem dX2_become_50 : decode cX2_become 50 = .ok (.iload_n 2, 1) := by decide +kernel
theorem dX2_become_51 : decode cX2_become 51 = .ok (.aaload, 1) := by decide +kernel
theorem dX2_become_52 : decode cX2_become 52 = .ok (.invokevirtual 66, 3) := by decide +kernel
theorem dX2_become_55 : decode cX2_become 55 = .ok (.iinc 2 1, 3) := by decide +kernel
theorem dX2_become_58 : decode cX2_become 58 = .ok (.goto (-24), 3) := by decide +kernel
theorem dX2_become_61 : decode cX2_become 61 = .ok (.aload_n 0, 1) := by decide +kernel
theorem dX2_become_62 : decode cX2_become 62 = .ok (.getfield 39, 3) := by decide +kernel
theorem dX2_become_65 : decode cX2_become 65 = .ok (.aload_n 1, 1) := by decide +kernel
theorem dX2_become_66 : decode cX2_become 66 = .ok (.getfield 39, 3) := by decide +kernel
theorem dX2_become_69 : decode cX2_become 69 = .ok (.invokevirtual 70, 3) := by decide +kernel
theorem dX2_become_72 : decode cX2_become 72 = .ok (.aload_n 0, 1) := by decide +kernel
theorem dX2_become_73 : decode cX2_become 73 = .ok (.aload_n 1, 1) := by decide +kernel
theorem dX2_become_74 : decode cX2_become 74 = .ok (.getfield 48, 3) := by decide +kernel
theorem dX2_become_77 : decode cX2_become 77 = .ok (.putfield 48, 3) := by decide +kernel
theorem dX2_become_80 : decode cX2_become 80 = .ok (.aload_n 0, 1) := by decide +kernel
theorem dX2_become_81 : decode cX2_become 81 = .ok (.aload_n 1, 1) := by decide +kernel
theorem dX2_become_82 : decode cX2_become 82 = .ok (.getfield 52, 3) := by decide +kernel
theorem dX2_become_85 : decode cX2_become 85 = .ok (.putfield 52, 3) := by decide +kernel
theorem dX2_become_88 : decode cX2_become 88 = .ok (.aload_n 0, 1) := by decide +kernel
theorem dX2_become_89 : decode cX2_become 89 = .ok (.aload_n 1, 1) := by decide +kernel
theorem dX2_become_90 : decode cX2_become 90 = .ok (.getfield 56, 3) := by decide +kernel
theorem dX2_become_93 : decode cX2_become 93 = .ok (.putfield 56, 3) := by decide +kernel
theorem dX2_become_96 : decode cX2_become 96 = .ok (.aload_n 0, 1) := by decide +kernel
theorem dX2_become_97 : decode cX2_become 97 = .ok (.aload_n 1, 1) := by decide +kernel
theorem dX2_become_98 : decode cX2_become 98 = .ok (.getfield 59, 3) := by decide +kernel
theorem dX2_become_101 : decode cX2_become 101 = .ok (.putfield 59, 3) := by decide +kernel
theorem dX2_become_104 : decode cX2_become 104 = .ok (.aload_n 0, 1) := by decide +kernel
theorem dX2_become_105 : decode cX2_become 105 = .ok (.aload_n 1, 1) := by decide +kernel
theorem dX2_become_106 : decode cX2_become 106 = .ok (.getfield 63, 3) := by decide +kernel
theorem dX2_become_109 : decode cX2_become 109 = .ok (.putfield 63, 3) := by decide +kernel
theorem dX2_become_112 : decode cX2_become 112 = .ok (.return_, 1) := by decide +kernel
theorem dX2_begin_0 : decode cX2_begin 0 = .ok (.iconst 0, 1) := by decide +kernel
theorem dX2_begin_1 : decode cX2_begin 1 = .ok (.istore 4, 2) := by decide +kernel
theorem dX2_begin_3 : decode cX2_begin 3 = .ok (.iload 4, 2) := by decide +kernel
theorem dX2_begin_5 : decode cX2_begin 5 = .ok (.sipush 1000, 3) := by decide +kernel
theorem dX2_begin_8 : decode cX2_begin 8 = .ok (.if_icmp .ge 68, 3) := by decide +kernel
theorem dX2_begin_11 : decode cX2_begin 11 = .ok (.aload_n 0, 1) := by decide +kernel
theorem dX2_begin_12 : decode cX2_begin 12 = .ok (.invokevirtual 73, 3) := by decide +kernel
theorem dX2_begin_15 : decode cX2_begin 15 = .ok (.aload_n 1, 1) := by decide +kernel
theorem dX2_begin_16 : decode cX2_begin 16 = .ok (.ifnonnull 25, 3) := by decide +kernel
theorem dX2_begin_19 : decode cX2_begin 19 = .ok (.aload_n 0, 1) := by decide +kernel
theorem dX2_begin_20 : decode cX2_begin 20 = .ok (.getfield 52, 3) := by decide +kernel
theorem dX2_begin_23 : decode cX2_begin 23 = .ok (.ifCond .ne 14, 3) := by decide +kernel
theorem dX2_begin_26 : decode cX2_begin 26 = .ok (.aload_n 0, 1) := by decide +kernel
theorem dX2_begin_27 : decode cX2_begin 27 = .ok (.getfield 56, 3) := by decide +kernel
theorem dX2_begin_30 : decode cX2_begin 30 = .ok (.ifCond .ne 7, 3) := by decide +kernel
theorem dX2_begin_33 : decode cX2_begin 33 = .ok (.iconst 1, 1) := by decide +kernel
theorem dX2_begin_34 : decode cX2_begin 34 = .ok (.goto 14, 3) := by decide +kernel
theorem dX2_begin_37 : decode cX2_begin 37 = .ok (.iconst 0, 1) := by decide +kernel
theorem dX2_begin_38 : decode cX2_begin 38 = .ok (.goto 10, 3) := by decide +kernel
theorem dX2_begin_41 : decode cX2_begin 41 = .ok (.aload_n 0, 1) := by decide +kernel
theorem dX2_begin_42 : decode cX2_begin 42 = .ok (.aload_n 1, 1) := by decide +kernel
theorem dX2_begin_43 : decode cX2_begin 43 = .ok (.iload_n 2, 1) := by decide +kernel
theorem dX2_begin_44 : decode cX2_begin 44 = .ok (.iload_n 3, 1) := by decide +kernel
theorem dX2_begin_45 : decode cX2_begin 45 = .ok (.invokevirtual 76, 3) := by decide +kernel
theorem dX2_begin_48 : decode cX2_begin 48 = .ok (.istore 5, 2) := by decide +kernel
theorem dX2_begin_50 : decode cX2_begin 50 = .ok (.iload 5, 2) := by decide +kernel
theorem dX2_begin_52 : decode cX2_begin 52 = .ok (.ifCond .eq 11, 3) := by decide +kernel
theorem dX2_begin_55 : decode cX2_begin 55 = .ok (.aload_n 0, 1) := by decide +kernel
theorem dX2_begin_56 : decode cX2_begin 56 = .ok (.getfield 24, 3) := by decide +kernel
theorem dX2_begin_59 : decode cX2_begin 59 = .ok (.bipush 9, 2) := by decide +kernel
theorem dX2_begin_61 : decode cX2_begin 61 = .ok (.iaload, 1) := by decide +kernel
theorem dX2_begin_62 : decode cX2_begin 62 = .ok (.ireturn, 1) := by decide +kernel
theorem dX2_begin_63 : decode cX2_begin 63 = .ok (.aload_n 0, 1) := by decide +kernel
theorem dX2_begin_64 : decode cX2_begin 64 = .ok (.iconst 4, 1) := by decide +kernel
theorem dX2_begin_65 : decode cX2_begin 65 = .ok (.ldc 80, 2) := by decide +kernel
theorem dX2_begin_67 : decode cX2_begin 67 = .ok (.invokevirtual 81, 3) := by decide +kernel
theorem dX2_begin_70 : decode cX2_begin 70 = .ok (.iinc 4 1, 3) := by decide +kernel
theorem dX2_begin_73 : decode cX2_begin 73 = .ok (.goto (-70), 3) := by decide +kernel
theorem dX2_begin_76 : decode cX2_begin 76 = .ok (.aload_n 0, 1) := by decide +kernel
theorem dX2_begin_77 : decode cX2_begin 77 = .ok (.getfield 24, 3) := by decide +kernel
theorem dX2_begin_80 : decode cX2_begin 80 = .ok (.bipush 9, 2) := by decide +kernel
theorem dX2_begin_82 : decode cX2_begin 82 = .ok (.iaload, 1) := by decide +kernel
theorem dX2_begin_83 : decode cX2_begin 83 = .ok (.ireturn, 1) := by decide +kernel
theorem dX2_pause_0 : decode cX2_pause 0 = .ok (.iconst 0, 1) := by decide +kernel
theorem dX2_pause_1 : decode cX2_pause 1 = .ok (.istore_n 2, 1) := by decide +kernel
theorem dX2_pause_2 : decode cX2_pause 2 = .ok (.iload_n 2, 1) := by decide +kernel
theorem dX2_pause_3 : decode cX2_pause 3 = .ok (.iload_n 1, 1) := by decide +kernel
theorem dX2_pause_4 : decode cX2_pause 4 = .ok (.if_icmp .ge 19, 3) := by decide +kernel
theorem dX2_pause_7 : decode cX2_pause 7 = .ok (.iload_n 2, 1) := by decide +kernel
theorem dX2_pause_8 : decode cX2_pause 8 = .ok (.bipush 99, 2) := by decide +kernel
theorem dX2_pause_10 : decode cX2_pause 10 = .ok (.if_icmp .ge 13, 3) := by decide +kernel
theorem dX2_pause_13 : decode cX2_pause 13 = .ok (.aload_n 0, 1) := by decide +kernel
theorem dX2_pause_14 : decode cX2_pause 14 = .ok (.invokevirtual 73, 3) := by decide +kernel
theorem dX2_pause_17 : decode cX2_pause 17 = .ok (.iinc 2 1, 3) := by decide +kernel
theorem dX2_pause_20 : decode cX2_pause 20 = .ok (.goto (-18), 3) := by decide +kernel
theorem dX2_pause_23 : decode cX2_pause 23 = .ok (.return_, 1) := by decide +kernel
theorem dX2_carryOut_0 : decode cX2_carryOut 0 = .ok (.iconst 0, 1) := by decide +kernel
theorem dX2_carryOut_1 : decode cX2_carryOut 1 = .ok (.istore_n 2, 1) := by decide +kernel
theorem dX2_carryOut_2 : decode cX2_carryOut 2 = .ok (.iload_n 2, 1) := by decide +kernel
theorem dX2_carryOut_3 : decode cX2_carryOut 3 = .ok (.aload_n 1, 1) := by decide +kernel
theorem dX2_carryOut_4 : decode cX2_carryOut 4 = .ok (.getfield 85, 3) := by decide +kernel
theorem dX2_carryOut_7 : decode cX2_carryOut 7 = .ok (.if_icmp .ge 75, 3) := by decide +kernel
theorem dX2_carryOut_10 : decode cX2_carryOut 10 = .ok (.iload_n 2, 1) := by decide +kernel
theorem dX2_carryOut_11 : decode cX2_carryOut 11 = .ok (.bipush 60, 2) := by decide +kernel
theorem dX2_carryOut_13 : decode cX2_carryOut 13 = .ok (.if_icmp .ge 69, 3) := by decide +kernel
theorem dX2_carryOut_16 : decode cX2_carryOut 16 = .ok (.aload_n 1, 1) := by decide +kernel
theorem dX2_carryOut_17 : decode cX2_carryOut 17 = .ok (.getfield 90, 3) := by decide +kernel
theorem dX2_carryOut_20 : decode cX2_carryOut 20 = .ok (.iload_n 2, 1) := by decide +kernel
theorem dX2_carryOut_21 : decode cX2_carryOut 21 = .ok (.iaload, 1) := by decide +kernel
theorem dX2_carryOut_22 : decode cX2_carryOut 22 = .ok (.istore_n 3, 1) := by decide +kernel
theorem dX2_carryOut_23 : decode cX2_carryOut 23 = .ok (.iload_n 3, 1) := by decide +kernel
theorem dX2_carryOut_24 : decode cX2_carryOut 24 = .ok (.bipush (-2), 2) := by decide +kernel
theorem dX2_carryOut_26 : decode cX2_carryOut 26 = .ok (.if_icmp .ne 16, 3) := by decide +kernel
theorem dX2_carryOut_29 : decode cX2_carryOut 29 = .ok (.aload_n 0, 1) := by decide +kernel
theorem dX2_carryOut_30 : decode cX2_carryOut 30 = .ok (.aload_n 1, 1) := by decide +kernel
theorem dX2_carryOut_31 : decode cX2_carryOut 31 = .ok (.getfield 93, 3) := by decide +kernel
theorem dX2_carryOut_34 : decode cX2_carryOut 34 = .ok (.iload_n 2, 1) := by decide +kernel
theorem dX2_carryOut_35 : decode cX2_carryOut 35 = .ok (.iaload, 1) := by decide +kernel
theorem dX2_carryOut_36 : decode cX2_carryOut 36 = .ok (.invokevirtual 96, 3) := by decide +kernel
theorem dX2_carryOut_39 : decode cX2_carryOut 39 = .ok (.goto 37, 3) := by decide +kernel
theorem dX2_carryOut_42 : decode cX2_carryOut 42 = .ok (.aload_n 0, 1) := by decide +kernel
theorem dX2_carryOut_43 : decode cX2_carryOut 43 = .ok (.iload_n 3, 1) := by decide +kernel
theorem dX2_carryOut_44 : decode cX2_carryOut 44 = .ok (.invokestatic 99, 3) := by decide +kernel
theorem dX2_carryOut_47 : decode cX2_carryOut 47 = .ok (.ifCond .eq 12, 3) := by decide +kernel
theorem dX2_carryOut_50 : decode cX2_carryOut 50 = .ok (.aload_n 0, 1) := by decide +kernel
theorem dX2_carryOut_51 : decode cX2_carryOut 51 = .ok (.getfield 29, 3) := by decide +kernel
theorem dX2_carryOut_54 : decode cX2_carryOut 54 = .ok (.iload_n 3, 1) := by decide +kernel
theorem dX2_carryOut_55 : decode cX2_carryOut 55 = .ok (.aaload, 1) := by decide +kernel
theorem dX2_carryOut_56 : decode cX2_carryOut 56 = .ok (.goto 4, 3) := by decide +kernel
theorem dX2_carryOut_59 : decode cX2_carryOut 59 = .ok (.aconst_null, 1) := by decide +kernel
theorem dX2_carryOut_60 : decode cX2_carryOut 60 = .ok (.aload_n 1, 1) := by decide +kernel
theorem dX2_carryOut_61 : decode cX2_carryOut 61 = .ok (.getfield 103, 3) := by decide +kernel
theorem dX2_carryOut_64 : decode cX2_carryOut 64 = .ok (.iload_n 2, 1) := by decide +kernel
theorem dX2_carryOut_65 : decode cX2_carryOut 65 = .ok (.iaload, 1) := by decide +kernel
theorem dX2_carryOut_66 : decode cX2_carryOut 66 = .ok (.aload_n 1, 1) := by decide +kernel
theorem dX2_carryOut_67 : decode cX2_carryOut 67 = .ok (.getfield 93, 3) := by decide +kernel
theorem dX2_carryOut_70 : decode cX2_carryOut 70 = .ok (.iload_n 2, 1) := by decide +kernel
theorem dX2_carryOut_71 : decode cX2_carryOut 71 = .ok (.iaload, 1) := by decide +kernel
theorem dX2_carryOut_72 : decode cX2_carryOut 72 = .ok (.invokevirtual 106, 3) := by decide +kernel
theorem dX2_carryOut_75 : decode cX2_carryOut 75 = .ok (.pop, 1) := by decide +kernel
theorem dX2_carryOut_76 : decode cX2_carryOut 76 = .ok (.iinc 2 1, 3) := by decide +kernel
theorem dX2_carryOut_79 : decode cX2_carryOut 79 = .ok (.goto (-77), 3) := by decide +kernel
theorem dX2_carryOut_82 : decode cX2_carryOut 82 = .ok (.return_, 1) := by decide +kernel
theorem dX2_startTrial_0 : decode cX2_startTrial 0 = .ok (.aload_n 1, 1) := by decide +kernel
theorem dX2_startTrial_1 : decode cX2_startTrial 1 = .ok (.iconst 0, 1) := by decide +kernel
theorem dX2_startTrial_2 : decode cX2_startTrial 2 = .ok (.aload_n 0, 1) := by decide +kernel
theorem dX2_startTrial_3 : decode cX2_startTrial 3 = .ok (.getfield 13, 3) := by decide +kernel
theorem dX2_startTrial_6 : decode cX2_startTrial 6 = .ok (.iconst 0, 1) := by decide +kernel
theorem dX2_startTrial_7 : decode cX2_startTrial 7 = .ok (.getstatic 9, 3) := by decide +kernel
theorem dX2_startTrial_10 : decode cX2_startTrial 10 = .ok (.arraylength, 1) := by decide +kernel
theorem dX2_startTrial_11 : decode cX2_startTrial 11 = .ok (.invokestatic 18, 3) := by decide +kernel
theorem dX2_startTrial_14 : decode cX2_startTrial 14 = .ok (.aload_n 0, 1) := by decide +kernel
theorem dX2_startTrial_15 : decode cX2_startTrial 15 = .ok (.getfield 13, 3) := by decide +kernel
theorem dX2_startTrial_18 : decode cX2_startTrial 18 = .ok (.iconst 2, 1) := by decide +kernel
theorem dX2_startTrial_19 : decode cX2_startTrial 19 = .ok (.iload_n 2, 1) := by decide +kernel
theorem dX2_startTrial_20 : decode cX2_startTrial 20 = .ok (.iastore, 1) := by decide +kernel
theorem dX2_startTrial_21 : decode cX2_startTrial 21 = .ok (.aload_n 0, 1) := by decide +kernel
theorem dX2_startTrial_22 : decode cX2_startTrial 22 = .ok (.invokevirtual 43, 3) := by decide +kernel
theorem dX2_startTrial_25 : decode cX2_startTrial 25 = .ok (.return_, 1) := by decide +kernel
theorem dX2_awaitFetches_0 : decode cX2_awaitFetches 0 = .ok (.iconst 0, 1) := by decide +kernel
theorem dX2_awaitFetches_1 : decode cX2_awaitFetches 1 = .ok (.istore_n 1, 1) := by decide +kernel
theorem dX2_awaitFetches_2 : decode cX2_awaitFetches 2 = .ok (.iload_n 1, 1) := by decide +kernel
theorem dX2_awaitFetches_3 : decode cX2_awaitFetches 3 = .ok (.sipush 1000, 3) := by decide +kernel
theorem dX2_awaitFetches_6 : decode cX2_awaitFetches 6 = .ok (.if_icmp .ge 20, 3) := by decide +kernel
theorem dX2_awaitFetches_9 : decode cX2_awaitFetches 9 = .ok (.aload_n 0, 1) := by decide +kernel
theorem dX2_awaitFetches_10 : decode cX2_awaitFetches 10 = .ok (.getfield 52, 3) := by decide +kernel
theorem dX2_awaitFetches_13 : decode cX2_awaitFetches 13 = .ok (.ifCond .le 13, 3) := by decide +kernel
theorem dX2_awaitFetches_16 : decode cX2_awaitFetches 16 = .ok (.aload_n 0, 1) := by decide +kernel
theorem dX2_awaitFetches_17 : decode cX2_awaitFetches 17 = .ok (.invokevirtual 73, 3) := by decide +kernel
theorem dX2_awaitFetches_20 : decode cX2_awaitFetches 20 = .ok (.iinc 1 1, 3) := by decide +kernel
theorem dX2_awaitFetches_23 : decode cX2_awaitFetches 23 = .ok (.goto (-21), 3) := by decide +kernel
theorem dX2_awaitFetches_26 : decode cX2_awaitFetches 26 = .ok (.return_, 1) := by decide +kernel
theorem dX2_tally_0 : decode cX2_tally 0 = .ok (.iload_n 1, 1) := by decide +kernel
theorem dX2_tally_1 : decode cX2_tally 1 = .ok (.ifCond .lt 19, 3) := by decide +kernel
theorem dX2_tally_4 : decode cX2_tally 4 = .ok (.iload_n 1, 1) := by decide +kernel
theorem dX2_tally_5 : decode cX2_tally 5 = .ok (.bipush 10, 2) := by decide +kernel
theorem dX2_tally_7 : decode cX2_tally 7 = .ok (.if_icmp .ge 13, 3) := by decide +kernel
theorem dX2_tally_10 : decode cX2_tally 10 = .ok (.aload_n 0, 1) := by decide +kernel
theorem dX2_tally_11 : decode cX2_tally 11 = .ok (.getfield 24, 3) := by decide +kernel
theorem dX2_tally_14 : decode cX2_tally 14 = .ok (.iload_n 1, 1) := by decide +kernel
theorem dX2_tally_15 : decode cX2_tally 15 = .ok (.dup2, 1) := by decide +kernel
theorem dX2_tally_16 : decode cX2_tally 16 = .ok (.iaload, 1) := by decide +kernel
theorem dX2_tally_17 : decode cX2_tally 17 = .ok (.iconst 1, 1) := by decide +kernel
theorem dX2_tally_18 : decode cX2_tally 18 = .ok (.iadd, 1) := by decide +kernel
theorem dX2_tally_19 : decode cX2_tally 19 = .ok (.iastore, 1) := by decide +kernel
theorem dX2_tally_20 : decode cX2_tally 20 = .ok (.aload_n 0, 1) := by decide +kernel
theorem dX2_tally_21 : decode cX2_tally 21 = .ok (.dup, 1) := by decide +kernel
theorem dX2_tally_22 : decode cX2_tally 22 = .ok (.getfield 48, 3) := by decide +kernel
theorem dX2_tally_25 : decode cX2_tally 25 = .ok (.fload_n 2, 1) := by decide +kernel
theorem dX2_tally_26 : decode cX2_tally 26 = .ok (.fadd, 1) := by decide +kernel
theorem dX2_tally_27 : decode cX2_tally 27 = .ok (.putfield 48, 3) := by decide +kernel
theorem dX2_tally_30 : decode cX2_tally 30 = .ok (.return_, 1) := by decide +kernel
theorem dX2_pass_0 : decode cX2_pass 0 = .ok (.aload_n 0, 1) := by decide +kernel
theorem dX2_pass_1 : decode cX2_pass 1 = .ok (.getfield 24, 3) := by decide +kernel
theorem dX2_pass_4 : decode cX2_pass 4 = .ok (.bipush 9, 2) := by decide +kernel
theorem dX2_pass_6 : decode cX2_pass 6 = .ok (.dup2, 1) := by decide +kernel
theorem dX2_pass_7 : decode cX2_pass 7 = .ok (.iaload, 1) := by decide +kernel
theorem dX2_pass_8 : decode cX2_pass 8 = .ok (.iconst 1, 1) := by decide +kernel
theorem dX2_pass_9 : decode cX2_pass 9 = .ok (.iadd, 1) := by decide +kernel
theorem dX2_pass_10 : decode cX2_pass 10 = .ok (.iastore, 1) := by decide +kernel
theorem dX2_pass_11 : decode cX2_pass 11 = .ok (.aload_n 0, 1) := by decide +kernel
theorem dX2_pass_12 : decode cX2_pass 12 = .ok (.getfield 24, 3) := by decide +kernel
theorem dX2_pass_15 : decode cX2_pass 15 = .ok (.bipush 9, 2) := by decide +kernel
theorem dX2_pass_17 : decode cX2_pass 17 = .ok (.iaload, 1) := by decide +kernel
theorem dX2_pass_18 : decode cX2_pass 18 = .ok (.istore_n 1, 1) := by decide +kernel
theorem dX2_pass_19 : decode cX2_pass 19 = .ok (.iload_n 1, 1) := by decide +kernel
theorem dX2_pass_20 : decode cX2_pass 20 = .ok (.aload_n 0, 1) := by decide +kernel
theorem dX2_pass_21 : decode cX2_pass 21 = .ok (.getfield 63, 3) := by decide +kernel
theorem dX2_pass_24 : decode cX2_pass 24 = .ok (.if_icmp .ge 4, 3) := by decide +kernel
theorem dX2_pass_27 : decode cX2_pass 27 = .ok (.return_, 1) := by decide +kernel
theorem dX2_pass_28 : decode cX2_pass 28 = .ok (.aload_n 0, 1) := by decide +kernel
theorem dX2_pass_29 : decode cX2_pass 29 = .ok (.getfield 29, 3) := by decide +kernel
theorem dX2_pass_32 : decode cX2_pass 32 = .ok (.astore_n 2, 1) := by decide +kernel
theorem dX2_pass_33 : decode cX2_pass 33 = .ok (.aload_n 2, 1) := by decide +kernel
theorem dX2_pass_34 : decode cX2_pass 34 = .ok (.arraylength, 1) := by decide +kernel
theorem dX2_pass_35 : decode cX2_pass 35 = .ok (.istore_n 3, 1) := by decide +kernel
theorem dX2_pass_36 : decode cX2_pass 36 = .ok (.iconst 0, 1) := by decide +kernel
theorem dX2_pass_37 : decode cX2_pass 37 = .ok (.istore 4, 2) := by decide +kernel
theorem dX2_pass_39 : decode cX2_pass 39 = .ok (.iload 4, 2) := by decide +kernel
theorem dX2_pass_41 : decode cX2_pass 41 = .ok (.iload_n 3, 1) := by decide +kernel
theorem dX2_pass_42 : decode cX2_pass 42 = .ok (.if_icmp .ge 56, 3) := by decide +kernel
theorem dX2_pass_45 : decode cX2_pass 45 = .ok (.aload_n 2, 1) := by decide +kernel
theorem dX2_pass_46 : decode cX2_pass 46 = .ok (.iload 4, 2) := by decide +kernel
theorem dX2_pass_48 : decode cX2_pass 48 = .ok (.aaload, 1) := by decide +kernel
theorem dX2_pass_49 : decode cX2_pass 49 = .ok (.astore 5, 2) := by decide +kernel
theorem dX2_pass_51 : decode cX2_pass 51 = .ok (.aload 5, 2) := by decide +kernel
theorem dX2_pass_53 : decode cX2_pass 53 = .ok (.getfield 110, 3) := by decide +kernel
theorem dX2_pass_56 : decode cX2_pass 56 = .ok (.iconst 2, 1) := by decide +kernel
theorem dX2_pass_57 : decode cX2_pass 57 = .ok (.if_icmp .ne 35, 3) := by decide +kernel
theorem dX2_pass_60 : decode cX2_pass 60 = .ok (.aload 5, 2) := by decide +kernel
theorem dX2_pass_62 : decode cX2_pass 62 = .ok (.getfield 113, 3) := by decide +kernel
theorem dX2_pass_65 : decode cX2_pass 65 = .ok (.iload_n 1, 1) := by decide +kernel
theorem dX2_pass_66 : decode cX2_pass 66 = .ok (.if_icmp .gt 26, 3) := by decide +kernel
theorem dX2_pass_69 : decode cX2_pass 69 = .ok (.aload_n 0, 1) := by decide +kernel
theorem dX2_pass_70 : decode cX2_pass 70 = .ok (.dup, 1) := by decide +kernel
theorem dX2_pass_71 : decode cX2_pass 71 = .ok (.getfield 56, 3) := by decide +kernel
theorem dX2_pass_74 : decode cX2_pass 74 = .ok (.iconst 1, 1) := by decide +kernel
theorem dX2_pass_75 : decode cX2_pass 75 = .ok (.isub, 1) := by decide +kernel
theorem dX2_pass_76 : decode cX2_pass 76 = .ok (.putfield 56, 3) := by decide +kernel
theorem dX2_pass_79 : decode cX2_pass 79 = .ok (.aload 5, 2) := by decide +kernel
theorem dX2_pass_81 : decode cX2_pass 81 = .ok (.invokevirtual 116, 3) := by decide +kernel
theorem dX2_pass_84 : decode cX2_pass 84 = .ok (.aload_n 0, 1) := by decide +kernel
theorem dX2_pass_85 : decode cX2_pass 85 = .ok (.bipush 6, 2) := by decide +kernel
theorem dX2_pass_87 : decode cX2_pass 87 = .ok (.ldc 119, 2) := by decide +kernel
theorem dX2_pass_89 : decode cX2_pass 89 = .ok (.invokevirtual 81, 3) := by decide +kernel
theorem dX2_pass_92 : decode cX2_pass 92 = .ok (.iinc 4 1, 3) := by decide +kernel
theorem dX2_pass_95 : decode cX2_pass 95 = .ok (.goto (-56), 3) := by decide +kernel
theorem dX2_pass_98 : decode cX2_pass 98 = .ok (.aload_n 0, 1) := by decide +kernel
theorem dX2_pass_99 : decode cX2_pass 99 = .ok (.getfield 29, 3) := by decide +kernel
theorem dX2_pass_102 : decode cX2_pass 102 = .ok (.astore_n 2, 1) := by decide +kernel
theorem dX2_pass_103 : decode cX2_pass 103 = .ok (.aload_n 2, 1) := by decide +kernel
theorem dX2_pass_104 : decode cX2_pass 104 = .ok (.arraylength, 1) := by decide +kernel
theorem dX2_pass_105 : decode cX2_pass 105 = .ok (.istore_n 3, 1) := by decide +kernel
theorem dX2_pass_106 : decode cX2_pass 106 = .ok (.iconst 0, 1) := by decide +kernel
theorem dX2_pass_107 : decode cX2_pass 107 = .ok (.istore 4, 2) := by decide +kernel
theorem dX2_pass_109 : decode cX2_pass 109 = .ok (.iload 4, 2) := by decide +kernel
theorem dX2_pass_111 : decode cX2_pass 111 = .ok (.iload_n 3, 1) := by decide +kernel
theorem dX2_pass_112 : decode cX2_pass 112 = .ok (.if_icmp .ge 39, 3) := by decide +kernel
theorem dX2_pass_115 : decode cX2_pass 115 = .ok (.aload_n 2, 1) := by decide +kernel
theorem dX2_pass_116 : decode cX2_pass 116 = .ok (.iload 4, 2) := by decide +kernel
theorem dX2_pass_118 : decode cX2_pass 118 = .ok (.aaload, 1) := by decide +kernel
theorem dX2_pass_119 : decode cX2_pass 119 = .ok (.astore 5, 2) := by decide +kernel
theorem dX2_pass_121 : decode cX2_pass 121 = .ok (.aload 5, 2) := by decide +kernel
theorem dX2_pass_123 : decode cX2_pass 123 = .ok (.getfield 110, 3) := by decide +kernel
theorem dX2_pass_126 : decode cX2_pass 126 = .ok (.iconst 3, 1) := by decide +kernel
theorem dX2_pass_127 : decode cX2_pass 127 = .ok (.if_icmp .ne 18, 3) := by decide +kernel
theorem dX2_pass_130 : decode cX2_pass 130 = .ok (.aload 5, 2) := by decide +kernel
theorem dX2_pass_132 : decode cX2_pass 132 = .ok (.getfield 113, 3) := by decide +kernel
theorem dX2_pass_135 : decode cX2_pass 135 = .ok (.iload_n 1, 1) := by decide +kernel
theorem dX2_pass_136 : decode cX2_pass 136 = .ok (.if_icmp .gt 9, 3) := by decide +kernel
theorem dX2_pass_139 : decode cX2_pass 139 = .ok (.aload_n 0, 1) := by decide +kernel
theorem dX2_pass_140 : decode cX2_pass 140 = .ok (.aload 5, 2) := by decide +kernel
theorem dX2_pass_142 : decode cX2_pass 142 = .ok (.invokevirtual 120, 3) := by decide +kernel
theorem dX2_pass_145 : decode cX2_pass 145 = .ok (.iinc 4 1, 3) := by decide +kernel
theorem dX2_pass_148 : decode cX2_pass 148 = .ok (.goto (-39), 3) := by decide +kernel
theorem dX2_pass_151 : decode cX2_pass 151 = .ok (.aload_n 0, 1) := by decide +kernel
theorem dX2_pass_152 : decode cX2_pass 152 = .ok (.ldc 62, 2) := by decide +kernel
theorem dX2_pass_154 : decode cX2_pass 154 = .ok (.putfield 63, 3) := by decide +kernel
theorem dX2_pass_157 : decode cX2_pass 157 = .ok (.aload_n 0, 1) := by decide +kernel
theorem dX2_pass_158 : decode cX2_pass 158 = .ok (.getfield 29, 3) := by decide +kernel
theorem dX2_pass_161 : decode cX2_pass 161 = .ok (.astore_n 2, 1) := by decide +kernel
theorem dX2_pass_162 : decode cX2_pass 162 = .ok (.aload_n 2, 1) := by decide +kernel
theorem dX2_pass_163 : decode cX2_pass 163 = .ok (.arraylength, 1) := by decide +kernel
theorem dX2_pass_164 : decode cX2_pass 164 = .ok (.istore_n 3, 1) := by decide +kernel
theorem dX2_pass_165 : decode cX2_pass 165 = .ok (.iconst 0, 1) := by decide +kernel
theorem dX2_pass_166 : decode cX2_pass 166 = .ok (.istore 4, 2) := by decide +kernel
theorem dX2_pass_168 : decode cX2_pass 168 = .ok (.iload 4, 2) := by decide +kernel
theorem dX2_pass_170 : decode cX2_pass 170 = .ok (.iload_n 3, 1) := by decide +kernel
theorem dX2_pass_171 : decode cX2_pass 171 = .ok (.if_icmp .ge 31, 3) := by decide +kernel
theorem dX2_pass_174 : decode cX2_pass 174 = .ok (.aload_n 2, 1) := by decide +kernel
theorem dX2_pass_175 : decode cX2_pass 175 = .ok (.iload 4, 2) := by decide +kernel
theorem dX2_pass_177 : decode cX2_pass 177 = .ok (.aaload, 1) := by decide +kernel
theorem dX2_pass_178 : decode cX2_pass 178 = .ok (.astore 5, 2) := by decide +kernel
theorem dX2_pass_180 : decode cX2_pass 180 = .ok (.aload_n 0, 1) := by decide +kernel
theorem dX2_pass_181 : decode cX2_pass 181 = .ok (.aload_n 0, 1) := by decide +kernel
theorem dX2_pass_182 : decode cX2_pass 182 = .ok (.getfield 63, 3) := by decide +kernel
theorem dX2_pass_185 : decode cX2_pass 185 = .ok (.aload 5, 2) := by decide +kernel
theorem dX2_pass_187 : decode cX2_pass 187 = .ok (.getfield 113, 3) := by decide +kernel
theorem dX2_pass_190 : decode cX2_pass 190 = .ok (.invokestatic 123, 3) := by decide +kernel
theorem dX2_pass_193 : decode cX2_pass 193 = .ok (.putfield 63, 3) := by decide +kernel
theorem dX2_pass_196 : decode cX2_pass 196 = .ok (.iinc 4 1, 3) := by decide +kernel
theorem dX2_pass_199 : decode cX2_pass 199 = .ok (.goto (-31), 3) := by decide +kernel
theorem dX2_pass_202 : decode cX2_pass 202 = .ok (.return_, 1) := by decide +kernel
theorem dX2_come_0 : decode cX2_come 0 = .ok (.aload_n 0, 1) := by decide +kernel
theorem dX2_come_1 : decode cX2_come 1 = .ok (.dup, 1) := by decide +kernel
theorem dX2_come_2 : decode cX2_come 2 = .ok (.getfield 52, 3) := by decide +kernel
theorem dX2_come_5 : decode cX2_come 5 = .ok (.iconst 1, 1) := by decide +kernel
theorem dX2_come_6 : decode cX2_come 6 = .ok (.isub, 1) := by decide +kernel
theorem dX2_come_7 : decode cX2_come 7 = .ok (.putfield 52, 3) := by decide +kernel
theorem dX2_come_10 : decode cX2_come 10 = .ok (.aload_n 1, 1) := by decide +kernel
theorem dX2_come_11 : decode cX2_come 11 = .ok (.invokevirtual 129, 3) := by decide +kernel
theorem dX2_come_14 : decode cX2_come 14 = .ok (.aload_n 0, 1) := by decide +kernel
theorem dX2_come_15 : decode cX2_come 15 = .ok (.aload_n 1, 1) := by decide +kernel
theorem dX2_come_16 : decode cX2_come 16 = .ok (.invokevirtual 132, 3) := by decide +kernel
theorem dX2_come_19 : decode cX2_come 19 = .ok (.iconst 0, 1) := by decide +kernel
theorem dX2_come_20 : decode cX2_come 20 = .ok (.istore_n 2, 1) := by decide +kernel
theorem dX2_come_21 : decode cX2_come 21 = .ok (.iload_n 2, 1) := by decide +kernel
theorem dX2_come_22 : decode cX2_come 22 = .ok (.aload_n 1, 1) := by decide +kernel
theorem dX2_come_23 : decode cX2_come 23 = .ok (.getfield 135, 3) := by decide +kernel
theorem dX2_come_26 : decode cX2_come 26 = .ok (.if_icmp .ge 43, 3) := by decide +kernel
theorem dX2_come_29 : decode cX2_come 29 = .ok (.iload_n 2, 1) := by decide +kernel
theorem dX2_come_30 : decode cX2_come 30 = .ok (.iconst 4, 1) := by decide +kernel
theorem dX2_come_31 : decode cX2_come 31 = .ok (.if_icmp .ge 38, 3) := by decide +kernel
theorem dX2_come_34 : decode cX2_come 34 = .ok (.aload_n 0, 1) := by decide +kernel
theorem dX2_come_35 : decode cX2_come 35 = .ok (.aload_n 1, 1) := by decide +kernel
theorem dX2_come_36 : decode cX2_come 36 = .ok (.aload_n 1, 1) := by decide +kernel
theorem dX2_come_37 : decode cX2_come 37 = .ok (.getfield 138, 3) := by decide +kernel
theorem dX2_come_40 : decode cX2_come 40 = .ok (.iload_n 2, 1) := by decide +kernel
theorem dX2_come_41 : decode cX2_come 41 = .ok (.iaload, 1) := by decide +kernel
theorem dX2_come_42 : decode cX2_come 42 = .ok (.aload_n 1, 1) := by decide +kernel
theorem dX2_come_43 : decode cX2_come 43 = .ok (.getfield 141, 3) := by decide +kernel
theorem dX2_come_46 : decode cX2_come 46 = .ok (.iload_n 2, 1) := by decide +kernel
theorem dX2_come_47 : decode cX2_come 47 = .ok (.iaload, 1) := by decide +kernel
theorem dX2_come_48 : decode cX2_come 48 = .ok (.aload_n 1, 1) := by decide +kernel
theorem dX2_come_49 : decode cX2_come 49 = .ok (.getfield 144, 3) := by decide +kernel
theorem dX2_come_52 : decode cX2_come 52 = .ok (.iload_n 2, 1) := by decide +kernel
theorem dX2_come_53 : decode cX2_come 53 = .ok (.iaload, 1) := by decide +kernel
theorem dX2_come_54 : decode cX2_come 54 = .ok (.aload_n 1, 1) := by decide +kernel
theorem dX2_come_55 : decode cX2_come 55 = .ok (.getfield 147, 3) := by decide +kernel
theorem dX2_come_58 : decode cX2_come 58 = .ok (.iload_n 2, 1) := by decide +kernel
theorem dX2_come_59 : decode cX2_come 59 = .ok (.iaload, 1) := by decide +kernel
theorem dX2_come_60 : decode cX2_come 60 = .ok (.invokevirtual 150, 3) := by decide +kernel
theorem dX2_come_63 : decode cX2_come 63 = .ok (.iinc 2 1, 3) := by decide +kernel
theorem dX2_come_66 : decode cX2_come 66 = .ok (.goto (-45), 3) := by decide +kernel
theorem dX2_come_69 : decode cX2_come 69 = .ok (.aload_n 1, 1) := by decide +kernel
theorem dX2_come_70 : decode cX2_come 70 = .ok (.iconst 0, 1) := by decide +kernel
theorem dX2_come_71 : decode cX2_come 71 = .ok (.putfield 135, 3) := by decide +kernel
theorem dX2_come_74 : decode cX2_come 74 = .ok (.return_, 1) := by decide +kernel
theorem dX2_settle_0 : decode cX2_settle 0 = .ok (.aload_n 0, 1) := by decide +kernel
theorem dX2_settle_1 : decode cX2_settle 1 = .ok (.aload_n 1, 1) := by decide +kernel
theorem dX2_settle_2 : decode cX2_settle 2 = .ok (.getfield 154, 3) := by decide +kernel
theorem dX2_settle_5 : decode cX2_settle 5 = .ok (.iconst 4, 1) := by decide +kernel
theorem dX2_settle_6 : decode cX2_settle 6 = .ok (.irem, 1) := by decide +kernel
theorem dX2_settle_7 : decode cX2_settle 7 = .ok (.invokevirtual 157, 3) := by decide +kernel
theorem dX2_settle_10 : decode cX2_settle 10 = .ok (.astore_n 2, 1) := by decide +kernel
theorem dX2_settle_11 : decode cX2_settle 11 = .ok (.aload_n 2, 1) := by decide +kernel
theorem dX2_settle_12 : decode cX2_settle 12 = .ok (.ifnull 17, 3) := by decide +kernel
theorem dX2_settle_15 : decode cX2_settle 15 = .ok (.aload_n 2, 1) := by decide +kernel
theorem dX2_settle_16 : decode cX2_settle 16 = .ok (.getfield 161, 3) := by decide +kernel
theorem dX2_settle_19 : decode cX2_settle 19 = .ok (.ifCond .ne 10, 3) := by decide +kernel
theorem dX2_settle_22 : decode cX2_settle 22 = .ok (.aload_n 2, 1) := by decide +kernel
theorem dX2_settle_23 : decode cX2_settle 23 = .ok (.invokevirtual 116, 3) := by decide +kernel
theorem dX2_settle_26 : decode cX2_settle 26 = .ok (.goto 81, 3) := by decide +kernel
theorem dX2_settle_29 : decode cX2_settle 29 = .ok (.aload_n 2, 1) := by decide +kernel
theorem dX2_settle_30 : decode cX2_settle 30 = .ok (.ifnull 51, 3) := by decide +kernel
theorem dX2_settle_33 : decode cX2_settle 33 = .ok (.aload_n 0, 1) := by decide +kernel
theorem dX2_settle_34 : decode cX2_settle 34 = .ok (.getfield 56, 3) := by decide +kernel
theorem dX2_settle_37 : decode cX2_settle 37 = .ok (.aload_n 0, 1) := by decide +kernel
theorem dX2_settle_38 : decode cX2_settle 38 = .ok (.getfield 13, 3) := by decide +kernel
theorem dX2_settle_41 : decode cX2_settle 41 = .ok (.iconst 1, 1) := by decide +kernel
theorem dX2_settle_42 : decode cX2_settle 42 = .ok (.iaload, 1) := by decide +kernel
theorem dX2_settle_43 : decode cX2_settle 43 = .ok (.if_icmp .ge 38, 3) := by decide +kernel
theorem dX2_settle_46 : decode cX2_settle 46 = .ok (.aload_n 0, 1) := by decide +kernel
theorem dX2_settle_47 : decode cX2_settle 47 = .ok (.dup, 1) := by decide +kernel
theorem dX2_settle_48 : decode cX2_settle 48 = .ok (.getfield 56, 3) := by decide +kernel
theorem dX2_settle_51 : decode cX2_settle 51 = .ok (.iconst 1, 1) := by decide +kernel
theorem dX2_settle_52 : decode cX2_settle 52 = .ok (.iadd, 1) := by decide +kernel
theorem dX2_settle_53 : decode cX2_settle 53 = .ok (.putfield 56, 3) := by decide +kernel
theorem dX2_settle_56 : decode cX2_settle 56 = .ok (.aload_n 2, 1) := by decide +kernel
theorem dX2_settle_57 : decode cX2_settle 57 = .ok (.iconst 2, 1) := by decide +kernel
theorem dX2_settle_58 : decode cX2_settle 58 = .ok (.putfield 110, 3) := by decide +kernel
theorem dX2_settle_61 : decode cX2_settle 61 = .ok (.aload_n 0, 1) := by decide +kernel
theorem dX2_settle_62 : decode cX2_settle 62 = .ok (.aload_n 2, 1) := by decide +kernel
theorem dX2_settle_63 : decode cX2_settle 63 = .ok (.iconst 1, 1) := by decide +kernel
theorem dX2_settle_64 : decode cX2_settle 64 = .ok (.aload_n 0, 1) := by decide +kernel
theorem dX2_settle_65 : decode cX2_settle 65 = .ok (.getfield 13, 3) := by decide +kernel
theorem dX2_settle_68 : decode cX2_settle 68 = .ok (.iconst 4, 1) := by decide +kernel
theorem dX2_settle_69 : decode cX2_settle 69 = .ok (.iaload, 1) := by decide +kernel
theorem dX2_settle_70 : decode cX2_settle 70 = .ok (.iconst 2, 1) := by decide +kernel
theorem dX2_settle_71 : decode cX2_settle 71 = .ok (.idiv, 1) := by decide +kernel
theorem dX2_settle_72 : decode cX2_settle 72 = .ok (.invokestatic 164, 3) := by decide +kernel
theorem dX2_settle_75 : decode cX2_settle 75 = .ok (.invokevirtual 167, 3) := by decide +kernel
theorem dX2_settle_78 : decode cX2_settle 78 = .ok (.goto 29, 3) := by decide +kernel
theorem dX2_settle_81 : decode cX2_settle 81 = .ok (.aload_n 2, 1) := by decide +kernel
theorem dX2_settle_82 : decode cX2_settle 82 = .ok (.ifnull 25, 3) := by decide +kernel
theorem dX2_settle_85 : decode cX2_settle 85 = .ok (.aload_n 0, 1) := by decide +kernel
theorem dX2_settle_86 : decode cX2_settle 86 = .ok (.getfield 24, 3) := by decide +kernel
theorem dX2_settle_89 : decode cX2_settle 89 = .ok (.iconst 5, 1) := by decide +kernel
theorem dX2_settle_90 : decode cX2_settle 90 = .ok (.dup2, 1) := by decide +kernel
theorem dX2_settle_91 : decode cX2_settle 91 = .ok (.iaload, 1) := by decide +kernel
theorem dX2_settle_92 : decode cX2_settle 92 = .ok (.iconst 1, 1) := by decide +kernel
theorem dX2_settle_93 : decode cX2_settle 93 = .ok (.iadd, 1) := by decide +kernel
theorem dX2_settle_94 : decode cX2_settle 94 = .ok (.iastore, 1) := by decide +kernel
theorem dX2_settle_95 : decode cX2_settle 95 = .ok (.aload_n 2, 1) := by decide +kernel
theorem dX2_settle_96 : decode cX2_settle 96 = .ok (.invokevirtual 116, 3) := by decide +kernel
theorem dX2_settle_99 : decode cX2_settle 99 = .ok (.aload_n 0, 1) := by decide +kernel
theorem dX2_settle_100 : decode cX2_settle 100 = .ok (.bipush 6, 2) := by decide +kernel
theorem dX2_settle_102 : decode cX2_settle 102 = .ok (.ldc 119, 2) := by decide +kernel
theorem dX2_settle_104 : decode cX2_settle 104 = .ok (.invokevirtual 81, 3) := by decide +kernel
theorem dX2_settle_107 : decode cX2_settle 107 = .ok (.aload_n 1, 1) := by decide +kernel
theorem dX2_settle_108 : decode cX2_settle 108 = .ok (.iconst 1, 1) := by decide +kernel
theorem dX2_settle_109 : decode cX2_settle 109 = .ok (.putfield 110, 3) := by decide +kernel
theorem dX2_settle_112 : decode cX2_settle 112 = .ok (.aload_n 1, 1) := by decide +kernel
theorem dX2_settle_113 : decode cX2_settle 113 = .ok (.ldc 62, 2) := by decide +kernel
theorem dX2_settle_115 : decode cX2_settle 115 = .ok (.putfield 113, 3) := by decide +kernel
theorem dX2_settle_118 : decode cX2_settle 118 = .ok (.aload_n 0, 1) := by decide +kernel
theorem dX2_settle_119 : decode cX2_settle 119 = .ok (.aload_n 1, 1) := by decide +kernel
theorem dX2_settle_120 : decode cX2_settle 120 = .ok (.invokevirtual 171, 3) := by decide +kernel
theorem dX2_settle_123 : decode cX2_settle 123 = .ok (.return_, 1) := by decide +kernel
theorem dX2_whoMustGo_0 : decode cX2_whoMustGo 0 = .ok (.iload_n 1, 1) := by decide +kernel
theorem dX2_whoMustGo_1 : decode cX2_whoMustGo 1 = .ok (.ifCond .ge 5, 3) := by decide +kernel
theorem dX2_whoMustGo_4 : decode cX2_whoMustGo 4 = .ok (.aconst_null, 1) := by decide +kernel
theorem dX2_whoMustGo_5 : decode cX2_whoMustGo 5 = .ok (.areturn, 1) := by decide +kernel
theorem dX2_whoMustGo_6 : decode cX2_whoMustGo 6 = .ok (.aconst_null, 1) := by decide +kernel
theorem dX2_whoMustGo_7 : decode cX2_whoMustGo 7 = .ok (.astore_n 2, 1) := by decide +kernel
theorem dX2_whoMustGo_8 : decode cX2_whoMustGo 8 = .ok (.iconst 0, 1) := by decide +kernel
theorem dX2_whoMustGo_9 : decode cX2_whoMustGo 9 = .ok (.istore_n 3, 1) := by decide +kernel
theorem dX2_whoMustGo_10 : decode cX2_whoMustGo 10 = .ok (.iload_n 1, 1) := by decide +kernel
theorem dX2_whoMustGo_11 : decode cX2_whoMustGo 11 = .ok (.istore 4, 2) := by decide +kernel
theorem dX2_whoMustGo_13 : decode cX2_whoMustGo 13 = .ok (.iload 4, 2) := by decide +kernel
theorem dX2_whoMustGo_15 : decode cX2_whoMustGo 15 = .ok (.bipush 16, 2) := by decide +kernel
theorem dX2_whoMustGo_17 : decode cX2_whoMustGo 17 = .ok (.if_icmp .ge 53, 3) := by decide +kernel
theorem dX2_whoMustGo_20 : decode cX2_whoMustGo 20 = .ok (.aload_n 0, 1) := by decide +kernel
theorem dX2_whoMustGo_21 : decode cX2_whoMustGo 21 = .ok (.getfield 29, 3) := by decide +kernel
theorem dX2_whoMustGo_24 : decode cX2_whoMustGo 24 = .ok (.iload 4, 2) := by decide +kernel
theorem dX2_whoMustGo_26 : decode cX2_whoMustGo 26 = .ok (.aaload, 1) := by decide +kernel
theorem dX2_whoMustGo_27 : decode cX2_whoMustGo 27 = .ok (.astore 5, 2) := by decide +kernel
theorem dX2_whoMustGo_29 : decode cX2_whoMustGo 29 = .ok (.aload 5, 2) := by decide +kernel
theorem dX2_whoMustGo_31 : decode cX2_whoMustGo 31 = .ok (.getfield 110, 3) := by decide +kernel
theorem dX2_whoMustGo_34 : decode cX2_whoMustGo 34 = .ok (.iconst 1, 1) := by decide +kernel
theorem dX2_whoMustGo_35 : decode cX2_whoMustGo 35 = .ok (.if_icmp .ne 29, 3) := by decide +kernel
theorem dX2_whoMustGo_38 : decode cX2_whoMustGo 38 = .ok (.iinc 3 1, 3) := by decide +kernel
theorem dX2_whoMustGo_41 : decode cX2_whoMustGo 41 = .ok (.aload_n 2, 1) := by decide +kernel
theorem dX2_whoMustGo_42 : decode cX2_whoMustGo 42 = .ok (.ifnull 15, 3) := by decide +kernel
theorem dX2_whoMustGo_45 : decode cX2_whoMustGo 45 = .ok (.aload 5, 2) := by decide +kernel
theorem dX2_whoMustGo_47 : decode cX2_whoMustGo 47 = .ok (.getfield 174, 3) := by decide +kernel
theorem dX2_whoMustGo_50 : decode cX2_whoMustGo 50 = .ok (.aload_n 2, 1) := by decide +kernel
theorem dX2_whoMustGo_51 : decode cX2_whoMustGo 51 = .ok (.getfield 174, 3) := by decide +kernel
theorem dX2_whoMustGo_54 : decode cX2_whoMustGo 54 = .ok (.if_icmp .ge 8, 3) := by decide +kernel
theorem dX2_whoMustGo_57 : decode cX2_whoMustGo 57 = .ok (.aload 5, 2) := by decide +kernel
theorem dX2_whoMustGo_59 : decode cX2_whoMustGo 59 = .ok (.goto 4, 3) := by decide +kernel
theorem dX2_whoMustGo_62 : decode cX2_whoMustGo 62 = .ok (.aload_n 2, 1) := by decide +kernel
theorem dX2_whoMustGo_63 : decode cX2_whoMustGo 63 = .ok (.astore_n 2, 1) := by decide +kernel
theorem dX2_whoMustGo_64 : decode cX2_whoMustGo 64 = .ok (.iinc 4 4, 3) := by decide +kernel
theorem dX2_whoMustGo_67 : decode cX2_whoMustGo 67 = .ok (.goto (-54), 3) := by decide +kernel
theorem dX2_whoMustGo_70 : decode cX2_whoMustGo 70 = .ok (.iload_n 3, 1) := by decide +kernel
theorem dX2_whoMustGo_71 : decode cX2_whoMustGo 71 = .ok (.aload_n 0, 1) := by decide +kernel
theorem dX2_whoMustGo_72 : decode cX2_whoMustGo 72 = .ok (.getfield 13, 3) := by decide +kernel
theorem dX2_whoMustGo_75 : decode cX2_whoMustGo 75 = .ok (.iconst 0, 1) := by decide +kernel
theorem dX2_whoMustGo_76 : decode cX2_whoMustGo 76 = .ok (.iaload, 1) := by decide +kernel
theorem dX2_whoMustGo_77 : decode cX2_whoMustGo 77 = .ok (.if_icmp .ge 7, 3) := by decide +kernel
theorem dX2_whoMustGo_80 : decode cX2_whoMustGo 80 = .ok (.aconst_null, 1) := by decide +kernel
theorem dX2_whoMustGo_81 : decode cX2_whoMustGo 81 = .ok (.goto 4, 3) := by decide +kernel
theorem dX2_whoMustGo_84 : decode cX2_whoMustGo 84 = .ok (.aload_n 2, 1) := by decide +kernel
theorem dX2_whoMustGo_85 : decode cX2_whoMustGo 85 = .ok (.areturn, 1) := by decide +kernel
theorem dX2_use_0 : decode cX2_use 0 = .ok (.aload_n 0, 1) := by decide +kernel
theorem dX2_use_1 : decode cX2_use 1 = .ok (.dup, 1) := by decide +kernel
theorem dX2_use_2 : decode cX2_use 2 = .ok (.getfield 59, 3) := by decide +kernel
theorem dX2_use_5 : decode cX2_use 5 = .ok (.iconst 1, 1) := by decide +kernel
theorem dX2_use_6 : decode cX2_use 6 = .ok (.iadd, 1) := by decide +kernel
theorem dX2_use_7 : decode cX2_use 7 = .ok (.putfield 59, 3) := by decide +kernel
theorem dX2_use_10 : decode cX2_use 10 = .ok (.aload_n 1, 1) := by decide +kernel
theorem dX2_use_11 : decode cX2_use 11 = .ok (.aload_n 0, 1) := by decide +kernel
theorem dX2_use_12 : decode cX2_use 12 = .ok (.getfield 59, 3) := by decide +kernel
theorem dX2_use_15 : decode cX2_use 15 = .ok (.putfield 174, 3) := by decide +kernel
theorem dX2_use_18 : decode cX2_use 18 = .ok (.return_, 1) := by decide +kernel
theorem dX2_setDue_0 : decode cX2_setDue 0 = .ok (.aload_n 1, 1) := by decide +kernel
theorem dX2_setDue_1 : decode cX2_setDue 1 = .ok (.aload_n 0, 1) := by decide +kernel
theorem dX2_setDue_2 : decode cX2_setDue 2 = .ok (.getfield 24, 3) := by decide +kernel
theorem dX2_setDue_5 : decode cX2_setDue 5 = .ok (.bipush 9, 2) := by decide +kernel
theorem dX2_setDue_7 : decode cX2_setDue 7 = .ok (.iaload, 1) := by decide +kernel
theorem dX2_setDue_8 : decode cX2_setDue 8 = .ok (.iload_n 2, 1) := by decide +kernel
theorem dX2_setDue_9 : decode cX2_setDue 9 = .ok (.iadd, 1) := by decide +kernel
theorem dX2_setDue_10 : decode cX2_setDue 10 = .ok (.putfield 113, 3) := by decide +kernel
theorem dX2_setDue_13 : decode cX2_setDue 13 = .ok (.aload_n 0, 1) := by decide +kernel
theorem dX2_setDue_14 : decode cX2_setDue 14 = .ok (.aload_n 1, 1) := by decide +kernel
theorem dX2_setDue_15 : decode cX2_setDue 15 = .ok (.getfield 113, 3) := by decide +kernel
theorem dX2_setDue_18 : decode cX2_setDue 18 = .ok (.aload_n 0, 1) := by decide +kernel
theorem dX2_setDue_19 : decode cX2_setDue 19 = .ok (.getfield 63, 3) := by decide +kernel
theorem dX2_setDue_22 : decode cX2_setDue 22 = .ok (.if_icmp .ge 10, 3) := by decide +kernel
theorem dX2_setDue_25 : decode cX2_setDue 25 = .ok (.aload_n 1, 1) := by decide +kernel
theorem dX2_setDue_26 : decode cX2_setDue 26 = .ok (.getfield 113, 3) := by decide +kernel
theorem dX2_setDue_29 : decode cX2_setDue 29 = .ok (.goto 7, 3) := by decide +kernel
theorem dX2_setDue_32 : decode cX2_setDue 32 = .ok (.aload_n 0, 1) := by decide +kernel
theorem dX2_setDue_33 : decode cX2_setDue 33 = .ok (.getfield 63, 3) := by decide +kernel
theorem dX2_setDue_36 : decode cX2_setDue 36 = .ok (.putfield 63, 3) := by decide +kernel
theorem dX2_setDue_39 : decode cX2_setDue 39 = .ok (.return_, 1) := by decide +kernel
theorem dX2_ask_0 : decode cX2_ask 0 = .ok (.aload_n 1, 1) := by decide +kernel
theorem dX2_ask_1 : decode cX2_ask 1 = .ok (.getfield 110, 3) := by decide +kernel
theorem dX2_ask_4 : decode cX2_ask 4 = .ok (.iconst 1, 1) := by decide +kernel
theorem dX2_ask_5 : decode cX2_ask 5 = .ok (.if_icmp .ne 18, 3) := by decide +kernel
theorem dX2_ask_8 : decode cX2_ask 8 = .ok (.aload_n 0, 1) := by decide +kernel
theorem dX2_ask_9 : decode cX2_ask 9 = .ok (.aload_n 1, 1) := by decide +kernel
theorem dX2_ask_10 : decode cX2_ask 10 = .ok (.invokevirtual 171, 3) := by decide +kernel
theorem dX2_ask_13 : decode cX2_ask 13 = .ok (.aload_n 0, 1) := by decide +kernel
theorem dX2_ask_14 : decode cX2_ask 14 = .ok (.iconst 0, 1) := by decide +kernel
theorem dX2_ask_15 : decode cX2_ask 15 = .ok (.ldc 177, 2) := by decide +kernel
theorem dX2_ask_17 : decode cX2_ask 17 = .ok (.invokevirtual 81, 3) := by decide +kernel
theorem dX2_ask_20 : decode cX2_ask 20 = .ok (.goto 117, 3) := by decide +kernel
theorem dX2_ask_23 : decode cX2_ask 23 = .ok (.aload_n 1, 1) := by decide +kernel
theorem dX2_ask_24 : decode cX2_ask 24 = .ok (.getfield 110, 3) := by decide +kernel
theorem dX2_ask_27 : decode cX2_ask 27 = .ok (.iconst 2, 1) := by decide +kernel
theorem dX2_ask_28 : decode cX2_ask 28 = .ok (.if_icmp .ne 28, 3) := by decide +kernel
theorem dX2_ask_31 : decode cX2_ask 31 = .ok (.aload_n 0, 1) := by decide +kernel
theorem dX2_ask_32 : decode cX2_ask 32 = .ok (.dup, 1) := by decide +kernel
theorem dX2_ask_33 : decode cX2_ask 33 = .ok (.getfield 56, 3) := by decide +kernel
theorem dX2_ask_36 : decode cX2_ask 36 = .ok (.iconst 1, 1) := by decide +kernel
theorem dX2_ask_37 : decode cX2_ask 37 = .ok (.isub, 1) := by decide +kernel
theorem dX2_ask_38 : decode cX2_ask 38 = .ok (.putfield 56, 3) := by decide +kernel
theorem dX2_ask_41 : decode cX2_ask 41 = .ok (.aload_n 0, 1) := by decide +kernel
theorem dX2_ask_42 : decode cX2_ask 42 = .ok (.aload_n 1, 1) := by decide +kernel
theorem dX2_ask_43 : decode cX2_ask 43 = .ok (.invokevirtual 132, 3) := by decide +kernel
theorem dX2_ask_46 : decode cX2_ask 46 = .ok (.aload_n 0, 1) := by decide +kernel
theorem dX2_ask_47 : decode cX2_ask 47 = .ok (.iconst 3, 1) := by decide +kernel
theorem dX2_ask_48 : decode cX2_ask 48 = .ok (.ldc 178, 2) := by decide +kernel
theorem dX2_ask_50 : decode cX2_ask 50 = .ok (.invokevirtual 81, 3) := by decide +kernel
theorem dX2_ask_53 : decode cX2_ask 53 = .ok (.goto 84, 3) := by decide +kernel
theorem dX2_ask_56 : decode cX2_ask 56 = .ok (.aload_n 1, 1) := by decide +kernel
theorem dX2_ask_57 : decode cX2_ask 57 = .ok (.getfield 110, 3) := by decide +kernel
theorem dX2_ask_60 : decode cX2_ask 60 = .ok (.iconst 3, 1) := by decide +kernel
theorem dX2_ask_61 : decode cX2_ask 61 = .ok (.if_icmp .ne 28, 3) := by decide +kernel
theorem dX2_ask_64 : decode cX2_ask 64 = .ok (.aload_n 1, 1) := by decide +kernel
theorem dX2_ask_65 : decode cX2_ask 65 = .ok (.getfield 135, 3) := by decide +kernel
theorem dX2_ask_68 : decode cX2_ask 68 = .ok (.aload_n 0, 1) := by decide +kernel
theorem dX2_ask_69 : decode cX2_ask 69 = .ok (.getfield 13, 3) := by decide +kernel
theorem dX2_ask_72 : decode cX2_ask 72 = .ok (.iconst 3, 1) := by decide +kernel
theorem dX2_ask_73 : decode cX2_ask 73 = .ok (.iaload, 1) := by decide +kernel
theorem dX2_ask_74 : decode cX2_ask 74 = .ok (.if_icmp .lt 5, 3) := by decide +kernel
theorem dX2_ask_77 : decode cX2_ask 77 = .ok (.iconst 0, 1) := by decide +kernel
theorem dX2_ask_78 : decode cX2_ask 78 = .ok (.ireturn, 1) := by decide +kernel
theorem dX2_ask_79 : decode cX2_ask 79 = .ok (.aload_n 0, 1) := by decide +kernel
theorem dX2_ask_80 : decode cX2_ask 80 = .ok (.iconst 1, 1) := by decide +kernel
theorem dX2_ask_81 : decode cX2_ask 81 = .ok (.ldc 179, 2) := by decide +kernel
theorem dX2_ask_83 : decode cX2_ask 83 = .ok (.invokevirtual 81, 3) := by decide +kernel
theorem dX2_ask_86 : decode cX2_ask 86 = .ok (.goto 51, 3) := by decide +kernel
theorem dX2_ask_89 : decode cX2_ask 89 = .ok (.aload_n 0, 1) := by decide +kernel
theorem dX2_ask_90 : decode cX2_ask 90 = .ok (.getfield 52, 3) := by decide +kernel
theorem dX2_ask_93 : decode cX2_ask 93 = .ok (.aload_n 0, 1) := by decide +kernel
theorem dX2_ask_94 : decode cX2_ask 94 = .ok (.getfield 13, 3) := by decide +kernel
theorem dX2_ask_97 : decode cX2_ask 97 = .ok (.iconst 2, 1) := by decide +kernel
theorem dX2_ask_98 : decode cX2_ask 98 = .ok (.iaload, 1) := by decide +kernel
theorem dX2_ask_99 : decode cX2_ask 99 = .ok (.if_icmp .lt 5, 3) := by decide +kernel
theorem dX2_ask_102 : decode cX2_ask 102 = .ok (.iconst 0, 1) := by decide +kernel
theorem dX2_ask_103 : decode cX2_ask 103 = .ok (.ireturn, 1) := by decide +kernel
theorem dX2_ask_104 : decode cX2_ask 104 = .ok (.aload_n 0, 1) := by decide +kernel
theorem dX2_ask_105 : decode cX2_ask 105 = .ok (.dup, 1) := by decide +kernel
theorem dX2_ask_106 : decode cX2_ask 106 = .ok (.getfield 52, 3) := by decide +kernel
theorem dX2_ask_109 : decode cX2_ask 109 = .ok (.iconst 1, 1) := by decide +kernel
theorem dX2_ask_110 : decode cX2_ask 110 = .ok (.iadd, 1) := by decide +kernel
theorem dX2_ask_111 : decode cX2_ask 111 = .ok (.putfield 52, 3) := by decide +kernel
theorem dX2_ask_114 : decode cX2_ask 114 = .ok (.aload_n 1, 1) := by decide +kernel
theorem dX2_ask_115 : decode cX2_ask 115 = .ok (.iconst 3, 1) := by decide +kernel
theorem dX2_ask_116 : decode cX2_ask 116 = .ok (.putfield 110, 3) := by decide +kernel
theorem dX2_ask_119 : decode cX2_ask 119 = .ok (.aload_n 0, 1) := by decide +kernel
theorem dX2_ask_120 : decode cX2_ask 120 = .ok (.aload_n 1, 1) := by decide +kernel
theorem dX2_ask_121 : decode cX2_ask 121 = .ok (.aload_n 0, 1) := by decide +kernel
theorem dX2_ask_122 : decode cX2_ask 122 = .ok (.getfield 13, 3) := by decide +kernel
theorem dX2_ask_125 : decode cX2_ask 125 = .ok (.iconst 4, 1) := by decide +kernel
theorem dX2_ask_126 : decode cX2_ask 126 = .ok (.iaload, 1) := by decide +kernel
theorem dX2_ask_127 : decode cX2_ask 127 = .ok (.invokevirtual 167, 3) := by decide +kernel
theorem dX2_ask_130 : decode cX2_ask 130 = .ok (.aload_n 0, 1) := by decide +kernel
theorem dX2_ask_131 : decode cX2_ask 131 = .ok (.iconst 2, 1) := by decide +kernel
theorem dX2_ask_132 : decode cX2_ask 132 = .ok (.ldc 180, 2) := by decide +kernel
theorem dX2_ask_134 : decode cX2_ask 134 = .ok (.invokevirtual 81, 3) := by decide +kernel
theorem dX2_ask_137 : decode cX2_ask 137 = .ok (.aload_n 0, 1) := by decide +kernel
theorem dX2_ask_138 : decode cX2_ask 138 = .ok (.aload_n 1, 1) := by decide +kernel
theorem dX2_ask_139 : decode cX2_ask 139 = .ok (.iload_n 2, 1) := by decide +kernel
theorem dX2_ask_140 : decode cX2_ask 140 = .ok (.iload_n 3, 1) := by decide +kernel
theorem dX2_ask_141 : decode cX2_ask 141 = .ok (.invokevirtual 181, 3) := by decide +kernel
theorem dX2_ask_144 : decode cX2_ask 144 = .ok (.iconst 1, 1) := by decide +kernel
theorem dX2_ask_145 : decode cX2_ask 145 = .ok (.ireturn, 1) := by decide +kernel
theorem dX2_takeAsker_0 : decode cX2_takeAsker 0 = .ok (.iconst (-1), 1) := by decide +kernel
theorem dX2_takeAsker_1 : decode cX2_takeAsker 1 = .ok (.istore 4, 2) := by decide +kernel
theorem dX2_takeAsker_3 : decode cX2_takeAsker 3 = .ok (.iload_n 3, 1) := by decide +kernel
theorem dX2_takeAsker_4 : decode cX2_takeAsker 4 = .ok (.iconst (-1), 1) := by decide +kernel
theorem dX2_takeAsker_5 : decode cX2_takeAsker 5 = .ok (.if_icmp .ne 30, 3) := by decide +kernel
theorem dX2_takeAsker_8 : decode cX2_takeAsker 8 = .ok (.aload_n 0, 1) := by decide +kernel
theorem dX2_takeAsker_9 : decode cX2_takeAsker 9 = .ok (.getfield 24, 3) := by decide +kernel
theorem dX2_takeAsker_12 : decode cX2_takeAsker 12 = .ok (.bipush 7, 2) := by decide +kernel
theorem dX2_takeAsker_14 : decode cX2_takeAsker 14 = .ok (.dup2, 1) := by decide +kernel
theorem dX2_takeAsker_15 : decode cX2_takeAsker 15 = .ok (.iaload, 1) := by decide +kernel
theorem dX2_takeAsker_16 : decode cX2_takeAsker 16 = .ok (.iconst 1, 1) := by decide +kernel
theorem dX2_takeAsker_17 : decode cX2_takeAsker 17 = .ok (.iadd, 1) := by decide +kernel
theorem dX2_takeAsker_18 : decode cX2_takeAsker 18 = .ok (.iastore, 1) := by decide +kernel
theorem dX2_takeAsker_19 : decode cX2_takeAsker 19 = .ok (.aload_n 0, 1) := by decide +kernel
theorem dX2_takeAsker_20 : decode cX2_takeAsker 20 = .ok (.getfield 39, 3) := by decide +kernel
theorem dX2_takeAsker_23 : decode cX2_takeAsker 23 = .ok (.aload_n 0, 1) := by decide +kernel
theorem dX2_takeAsker_24 : decode cX2_takeAsker 24 = .ok (.getfield 24, 3) := by decide +kernel
theorem dX2_takeAsker_27 : decode cX2_takeAsker 27 = .ok (.bipush 9, 2) := by decide +kernel
theorem dX2_takeAsker_29 : decode cX2_takeAsker 29 = .ok (.iaload, 1) := by decide +kernel
theorem dX2_takeAsker_30 : decode cX2_takeAsker 30 = .ok (.invokevirtual 185, 3) := by decide +kernel
theorem dX2_takeAsker_33 : decode cX2_takeAsker 33 = .ok (.istore 4, 2) := by decide +kernel
theorem dX2_takeAsker_35 : decode cX2_takeAsker 35 = .ok (.aload_n 1, 1) := by decide +kernel
theorem dX2_takeAsker_36 : decode cX2_takeAsker 36 = .ok (.getfield 110, 3) := by decide +kernel
theorem dX2_takeAsker_39 : decode cX2_takeAsker 39 = .ok (.iconst 1, 1) := by decide +kernel
theorem dX2_takeAsker_40 : decode cX2_takeAsker 40 = .ok (.if_icmp .ne 22, 3) := by decide +kernel
theorem dX2_takeAsker_43 : decode cX2_takeAsker 43 = .ok (.aload_n 0, 1) := by decide +kernel
theorem dX2_takeAsker_44 : decode cX2_takeAsker 44 = .ok (.aload_n 1, 1) := by decide +kernel
theorem dX2_takeAsker_45 : decode cX2_takeAsker 45 = .ok (.iload_n 2, 1) := by decide +kernel
theorem dX2_takeAsker_46 : decode cX2_takeAsker 46 = .ok (.iload_n 3, 1) := by decide +kernel
theorem dX2_takeAsker_47 : decode cX2_takeAsker 47 = .ok (.iload 4, 2) := by decide +kernel
theorem dX2_takeAsker_49 : decode cX2_takeAsker 49 = .ok (.aload_n 0, 1) := by decide +kernel
theorem dX2_takeAsker_50 : decode cX2_takeAsker 50 = .ok (.getfield 24, 3) := by decide +kernel
theorem dX2_takeAsker_53 : decode cX2_takeAsker 53 = .ok (.bipush 9, 2) := by decide +kernel
theorem dX2_takeAsker_55 : decode cX2_takeAsker 55 = .ok (.iaload, 1) := by decide +kernel
theorem dX2_takeAsker_56 : decode cX2_takeAsker 56 = .ok (.invokevirtual 150, 3) := by decide +kernel
theorem dX2_takeAsker_59 : decode cX2_takeAsker 59 = .ok (.goto 18, 3) := by decide +kernel
theorem dX2_takeAsker_62 : decode cX2_takeAsker 62 = .ok (.aload_n 1, 1) := by decide +kernel
theorem dX2_takeAsker_63 : decode cX2_takeAsker 63 = .ok (.iload_n 2, 1) := by decide +kernel
theorem dX2_takeAsker_64 : decode cX2_takeAsker 64 = .ok (.iload_n 3, 1) := by decide +kernel
theorem dX2_takeAsker_65 : decode cX2_takeAsker 65 = .ok (.iload 4, 2) := by decide +kernel
theorem dX2_takeAsker_67 : decode cX2_takeAsker 67 = .ok (.aload_n 0, 1) := by decide +kernel
theorem dX2_takeAsker_68 : decode cX2_takeAsker 68 = .ok (.getfield 24, 3) := by decide +kernel
theorem dX2_takeAsker_71 : decode cX2_takeAsker 71 = .ok (.bipush 9, 2) := by decide +kernel
theorem dX2_takeAsker_73 : decode cX2_takeAsker 73 = .ok (.iaload, 1) := by decide +kernel
theorem dX2_takeAsker_74 : decode cX2_takeAsker 74 = .ok (.invokevirtual 189, 3) := by decide +kernel
theorem dX2_takeAsker_77 : decode cX2_takeAsker 77 = .ok (.return_, 1) := by decide +kernel
theorem dX2_serve_0 : decode cX2_serve 0 = .ok (.iload_n 3, 1) := by decide +kernel
theorem dX2_serve_1 : decode cX2_serve 1 = .ok (.iconst (-1), 1) := by decide +kernel
theorem dX2_serve_2 : decode cX2_serve 2 = .ok (.if_icmp .ne 41, 3) := by decide +kernel
theorem dX2_serve_5 : decode cX2_serve 5 = .ok (.aload_n 0, 1) := by decide +kernel
theorem dX2_serve_6 : decode cX2_serve 6 = .ok (.getfield 24, 3) := by decide +kernel
theorem dX2_serve_9 : decode cX2_serve 9 = .ok (.bipush 8, 2) := by decide +kernel
theorem dX2_serve_11 : decode cX2_serve 11 = .ok (.dup2, 1) := by decide +kernel
theorem dX2_serve_12 : decode cX2_serve 12 = .ok (.iaload, 1) := by decide +kernel
theorem dX2_serve_13 : decode cX2_serve 13 = .ok (.iconst 1, 1) := by decide +kernel
theorem dX2_serve_14 : decode cX2_serve 14 = .ok (.iadd, 1) := by decide +kernel
theorem dX2_serve_15 : decode cX2_serve 15 = .ok (.iastore, 1) := by decide +kernel
theorem dX2_serve_16 : decode cX2_serve 16 = .ok (.aload_n 0, 1) := by decide +kernel
theorem dX2_serve_17 : decode cX2_serve 17 = .ok (.getfield 39, 3) := by decide +kernel
theorem dX2_serve_20 : decode cX2_serve 20 = .ok (.iload 4, 2) := by decide +kernel
theorem dX2_serve_22 : decode cX2_serve 22 = .ok (.aload_n 1, 1) := by decide +kernel
theorem dX2_serve_23 : decode cX2_serve 23 = .ok (.iload_n 2, 1) := by decide +kernel
theorem dX2_serve_24 : decode cX2_serve 24 = .ok (.invokevirtual 193, 3) := by decide +kernel
theorem dX2_serve_27 : decode cX2_serve 27 = .ok (.aload_n 0, 1) := by decide +kernel
theorem dX2_serve_28 : decode cX2_serve 28 = .ok (.getfield 24, 3) := by decide +kernel
theorem dX2_serve_31 : decode cX2_serve 31 = .ok (.bipush 9, 2) := by decide +kernel
theorem dX2_serve_33 : decode cX2_serve 33 = .ok (.iaload, 1) := by decide +kernel
theorem dX2_serve_34 : decode cX2_serve 34 = .ok (.iload 5, 2) := by decide +kernel
theorem dX2_serve_36 : decode cX2_serve 36 = .ok (.isub, 1) := by decide +kernel
theorem dX2_serve_37 : decode cX2_serve 37 = .ok (.invokevirtual 196, 3) := by decide +kernel
theorem dX2_serve_40 : decode cX2_serve 40 = .ok (.goto 9, 3) := by decide +kernel
theorem dX2_serve_43 : decode cX2_serve 43 = .ok (.aload_n 1, 1) := by decide +kernel
theorem dX2_serve_44 : decode cX2_serve 44 = .ok (.iload_n 2, 1) := by decide +kernel
theorem dX2_serve_45 : decode cX2_serve 45 = .ok (.iload_n 3, 1) := by decide +kernel
theorem dX2_serve_46 : decode cX2_serve 46 = .ok (.invokevirtual 200, 3) := by decide +kernel
theorem dX2_serve_49 : decode cX2_serve 49 = .ok (.return_, 1) := by decide +kernel
theorem dX2_boxInPlace_0 : decode cX2_boxInPlace 0 = .ok (.iload_n 1, 1) := by decide +kernel
theorem dX2_boxInPlace_1 : decode cX2_boxInPlace 1 = .ok (.ifCond .ge 5, 3) := by decide +kernel
theorem dX2_boxInPlace_4 : decode cX2_boxInPlace 4 = .ok (.iconst (-1), 1) := by decide +kernel
theorem dX2_boxInPlace_5 : decode cX2_boxInPlace 5 = .ok (.ireturn, 1) := by decide +kernel
theorem dX2_boxInPlace_6 : decode cX2_boxInPlace 6 = .ok (.iload_n 1, 1) := by decide +kernel
theorem dX2_boxInPlace_7 : decode cX2_boxInPlace 7 = .ok (.istore_n 3, 1) := by decide +kernel
theorem dX2_boxInPlace_8 : decode cX2_boxInPlace 8 = .ok (.iload_n 3, 1) := by decide +kernel
theorem dX2_boxInPlace_9 : decode cX2_boxInPlace 9 = .ok (.bipush 16, 2) := by decide +kernel
theorem dX2_boxInPlace_11 : decode cX2_boxInPlace 11 = .ok (.if_icmp .ge 95, 3) := by decide +kernel
theorem dX2_boxInPlace_14 : decode cX2_boxInPlace 14 = .ok (.iconst 0, 1) := by decide +kernel
theorem dX2_boxInPlace_15 : decode cX2_boxInPlace 15 = .ok (.istore 4, 2) := by decide +kernel
theorem dX2_boxInPlace_17 : decode cX2_boxInPlace 17 = .ok (.iload_n 1, 1) := by decide +kernel
theorem dX2_boxInPlace_18 : decode cX2_boxInPlace 18 = .ok (.istore 5, 2) := by decide +kernel
theorem dX2_boxInPlace_20 : decode cX2_boxInPlace 20 = .ok (.iload 5, 2) := by decide +kernel
theorem dX2_boxInPlace_22 : decode cX2_boxInPlace 22 = .ok (.bipush 16, 2) := by decide +kernel
theorem dX2_boxInPlace_24 : decode cX2_boxInPlace 24 = .ok (.if_icmp .ge 55, 3) := by decide +kernel
theorem dX2_boxInPlace_27 : decode cX2_boxInPlace 27 = .ok (.iload 4, 2) := by decide +kernel
theorem dX2_boxInPlace_29 : decode cX2_boxInPlace 29 = .ok (.aload_n 0, 1) := by decide +kernel
theorem dX2_boxInPlace_30 : decode cX2_boxInPlace 30 = .ok (.getfield 29, 3) := by decide +kernel
theorem dX2_boxInPlace_33 : decode cX2_boxInPlace 33 = .ok (.iload 5, 2) := by decide +kernel
theorem dX2_boxInPlace_35 : decode cX2_boxInPlace 35 = .ok (.aaload, 1) := by decide +kernel
theorem dX2_boxInPlace_36 : decode cX2_boxInPlace 36 = .ok (.getfield 110, 3) := by decide +kernel
theorem dX2_boxInPlace_39 : decode cX2_boxInPlace 39 = .ok (.iconst 1, 1) := by decide +kernel
theorem dX2_boxInPlace_40 : decode cX2_boxInPlace 40 = .ok (.if_icmp .ne 29, 3) := by decide +kernel
theorem dX2_boxInPlace_43 : decode cX2_boxInPlace 43 = .ok (.aload_n 0, 1) := by decide +kernel
theorem dX2_boxInPlace_44 : decode cX2_boxInPlace 44 = .ok (.getfield 29, 3) := by decide +kernel
theorem dX2_boxInPlace_47 : decode cX2_boxInPlace 47 = .ok (.iload 5, 2) := by decide +kernel
theorem dX2_boxInPlace_49 : decode cX2_boxInPlace 49 = .ok (.aaload, 1) := by decide +kernel
theorem dX2_boxInPlace_50 : decode cX2_boxInPlace 50 = .ok (.getfield 174, 3) := by decide +kernel
theorem dX2_boxInPlace_53 : decode cX2_boxInPlace 53 = .ok (.aload_n 0, 1) := by decide +kernel
theorem dX2_boxInPlace_54 : decode cX2_boxInPlace 54 = .ok (.getfield 29, 3) := by decide +kernel
theorem dX2_boxInPlace_57 : decode cX2_boxInPlace 57 = .ok (.iload_n 3, 1) := by decide +kernel
theorem dX2_boxInPlace_58 : decode cX2_boxInPlace 58 = .ok (.aaload, 1) := by decide +kernel
theorem dX2_boxInPlace_59 : decode cX2_boxInPlace 59 = .ok (.getfield 174, 3) := by decide +kernel
theorem dX2_boxInPlace_62 : decode cX2_boxInPlace 62 = .ok (.if_icmp .le 7, 3) := by decide +kernel
theorem dX2_boxInPlace_65 : decode cX2_boxInPlace 65 = .ok (.iconst 1, 1) := by decide +kernel
theorem dX2_boxInPlace_66 : decode cX2_boxInPlace 66 = .ok (.goto 4, 3) := by decide +kernel
theorem dX2_boxInPlace_69 : decode cX2_boxInPlace 69 = .ok (.iconst 0, 1) := by decide +kernel
theorem dX2_boxInPlace_70 : decode cX2_boxInPlace 70 = .ok (.iadd, 1) := by decide +kernel
theorem dX2_boxInPlace_71 : decode cX2_boxInPlace 71 = .ok (.istore 4, 2) := by decide +kernel
theorem dX2_boxInPlace_73 : decode cX2_boxInPlace 73 = .ok (.iinc 5 4, 3) := by decide +kernel
theorem dX2_boxInPlace_76 : decode cX2_boxInPlace 76 = .ok (.goto (-56), 3) := by decide +kernel
theorem dX2_boxInPlace_79 : decode cX2_boxInPlace 79 = .ok (.aload_n 0, 1) := by decide +kernel
theorem dX2_boxInPlace_80 : decode cX2_boxInPlace 80 = .ok (.getfield 29, 3) := by decide +kernel
theorem dX2_boxInPlace_83 : decode cX2_boxInPlace 83 = .ok (.iload_n 3, 1) := by decide +kernel
theorem dX2_boxInPlace_84 : decode cX2_boxInPlace 84 = .ok (.aaload, 1) := by decide +kernel
theorem dX2_boxInPlace_85 : decode cX2_boxInPlace 85 = .ok (.getfield 110, 3) := by decide +kernel
theorem dX2_boxInPlace_88 : decode cX2_boxInPlace 88 = .ok (.iconst 1, 1) := by decide +kernel
theorem dX2_boxInPlace_89 : decode cX2_boxInPlace 89 = .ok (.if_icmp .ne 11, 3) := by decide +kernel
theorem dX2_boxInPlace_92 : decode cX2_boxInPlace 92 = .ok (.iload 4, 2) := by decide +kernel
theorem dX2_boxInPlace_94 : decode cX2_boxInPlace 94 = .ok (.iload_n 2, 1) := by decide +kernel
theorem dX2_boxInPlace_95 : decode cX2_boxInPlace 95 = .ok (.if_icmp .ne 5, 3) := by decide +kernel
theorem dX2_boxInPlace_98 : decode cX2_boxInPlace 98 = .ok (.iload_n 3, 1) := by decide +kernel
theorem dX2_boxInPlace_99 : decode cX2_boxInPlace 99 = .ok (.ireturn, 1) := by decide +kernel
theorem dX2_boxInPlace_100 : decode cX2_boxInPlace 100 = .ok (.iinc 3 4, 3) := by decide +kernel
theorem dX2_boxInPlace_103 : decode cX2_boxInPlace 103 = .ok (.goto (-95), 3) := by decide +kernel
theorem dX2_boxInPlace_106 : decode cX2_boxInPlace 106 = .ok (.iconst (-1), 1) := by decide +kernel
theorem dX2_boxInPlace_107 : decode cX2_boxInPlace 107 = .ok (.ireturn, 1) := by decide +kernel
theorem dX2_boxOfFetch_0 : decode cX2_boxOfFetch 0 = .ok (.aload_n 0, 1) := by decide +kernel
theorem dX2_boxOfFetch_1 : decode cX2_boxOfFetch 1 = .ok (.getfield 29, 3) := by decide +kernel
theorem dX2_boxOfFetch_4 : decode cX2_boxOfFetch 4 = .ok (.astore_n 2, 1) := by decide +kernel
theorem dX2_boxOfFetch_5 : decode cX2_boxOfFetch 5 = .ok (.aload_n 2, 1) := by decide +kernel
theorem dX2_boxOfFetch_6 : decode cX2_boxOfFetch 6 = .ok (.arraylength, 1) := by decide +kernel
theorem dX2_boxOfFetch_7 : decode cX2_boxOfFetch 7 = .ok (.istore_n 3, 1) := by decide +kernel
theorem dX2_boxOfFetch_8 : decode cX2_boxOfFetch 8 = .ok (.iconst 0, 1) := by decide +kernel
theorem dX2_boxOfFetch_9 : decode cX2_boxOfFetch 9 = .ok (.istore 4, 2) := by decide +kernel
theorem dX2_boxOfFetch_11 : decode cX2_boxOfFetch 11 = .ok (.iload 4, 2) := by decide +kernel
theorem dX2_boxOfFetch_13 : decode cX2_boxOfFetch 13 = .ok (.iload_n 3, 1) := by decide +kernel
theorem dX2_boxOfFetch_14 : decode cX2_boxOfFetch 14 = .ok (.if_icmp .ge 102, 3) := by decide +kernel
theorem dX2_boxOfFetch_17 : decode cX2_boxOfFetch 17 = .ok (.aload_n 2, 1) := by decide +kernel
theorem dX2_boxOfFetch_18 : decode cX2_boxOfFetch 18 = .ok (.iload 4, 2) := by decide +kernel
theorem dX2_boxOfFetch_20 : decode cX2_boxOfFetch 20 = .ok (.aaload, 1) := by decide +kernel
theorem dX2_boxOfFetch_21 : decode cX2_boxOfFetch 21 = .ok (.astore 5, 2) := by decide +kernel
theorem dX2_boxOfFetch_23 : decode cX2_boxOfFetch 23 = .ok (.iconst 0, 1) := by decide +kernel
theorem dX2_boxOfFetch_24 : decode cX2_boxOfFetch 24 = .ok (.istore 6, 2) := by decide +kernel
theorem dX2_boxOfFetch_26 : decode cX2_boxOfFetch 26 = .ok (.aload_n 0, 1) := by decide +kernel
theorem dX2_boxOfFetch_27 : decode cX2_boxOfFetch 27 = .ok (.getfield 29, 3) := by decide +kernel
theorem dX2_boxOfFetch_30 : decode cX2_boxOfFetch 30 = .ok (.astore 7, 2) := by decide +kernel
theorem dX2_boxOfFetch_32 : decode cX2_boxOfFetch 32 = .ok (.aload 7, 2) := by decide +kernel
theorem dX2_boxOfFetch_34 : decode cX2_boxOfFetch 34 = .ok (.arraylength, 1) := by decide +kernel
theorem dX2_boxOfFetch_35 : decode cX2_boxOfFetch 35 = .ok (.istore 8, 2) := by decide +kernel
theorem dX2_boxOfFetch_37 : decode cX2_boxOfFetch 37 = .ok (.iconst 0, 1) := by decide +kernel
theorem dX2_boxOfFetch_38 : decode cX2_boxOfFetch 38 = .ok (.istore 9, 2) := by decide +kernel
theorem dX2_boxOfFetch_40 : decode cX2_boxOfFetch 40 = .ok (.iload 9, 2) := by decide +kernel
theorem dX2_boxOfFetch_42 : decode cX2_boxOfFetch 42 = .ok (.iload 8, 2) := by decide +kernel
theorem dX2_boxOfFetch_44 : decode cX2_boxOfFetch 44 = .ok (.if_icmp .ge 48, 3) := by decide +kernel
theorem dX2_boxOfFetch_47 : decode cX2_boxOfFetch 47 = .ok (.aload 7, 2) := by decide +kernel
theorem dX2_boxOfFetch_49 : decode cX2_boxOfFetch 49 = .ok (.iload 9, 2) := by decide +kernel
theorem dX2_boxOfFetch_51 : decode cX2_boxOfFetch 51 = .ok (.aaload, 1) := by decide +kernel
theorem dX2_boxOfFetch_52 : decode cX2_boxOfFetch 52 = .ok (.astore 10, 2) := by decide +kernel
theorem dX2_boxOfFetch_54 : decode cX2_boxOfFetch 54 = .ok (.iload 6, 2) := by decide +kernel
theorem dX2_boxOfFetch_56 : decode cX2_boxOfFetch 56 = .ok (.aload 10, 2) := by decide +kernel
theorem dX2_boxOfFetch_58 : decode cX2_boxOfFetch 58 = .ok (.getfield 110, 3) := by decide +kernel
theorem dX2_boxOfFetch_61 : decode cX2_boxOfFetch 61 = .ok (.iconst 3, 1) := by decide +kernel
theorem dX2_boxOfFetch_62 : decode cX2_boxOfFetch 62 = .ok (.if_icmp .ne 20, 3) := by decide +kernel
theorem dX2_boxOfFetch_65 : decode cX2_boxOfFetch 65 = .ok (.aload 10, 2) := by decide +kernel
theorem dX2_boxOfFetch_67 : decode cX2_boxOfFetch 67 = .ok (.getfield 113, 3) := by decide +kernel
theorem dX2_boxOfFetch_70 : decode cX2_boxOfFetch 70 = .ok (.aload 5, 2) := by decide +kernel
theorem dX2_boxOfFetch_72 : decode cX2_boxOfFetch 72 = .ok (.getfield 113, 3) := by decide +kernel
theorem dX2_boxOfFetch_75 : decode cX2_boxOfFetch 75 = .ok (.if_icmp .ge 7, 3) := by decide +kernel
theorem dX2_boxOfFetch_78 : decode cX2_boxOfFetch 78 = .ok (.iconst 1, 1) := by decide +kernel
theorem dX2_boxOfFetch_79 : decode cX2_boxOfFetch 79 = .ok (.goto 4, 3) := by decide +kernel
theorem dX2_boxOfFetch_82 : decode cX2_boxOfFetch 82 = .ok (.iconst 0, 1) := by decide +kernel
theorem dX2_boxOfFetch_83 : decode cX2_boxOfFetch 83 = .ok (.iadd, 1) := by decide +kernel
theorem dX2_boxOfFetch_84 : decode cX2_boxOfFetch 84 = .ok (.istore 6, 2) := by decide +kernel
theorem dX2_boxOfFetch_86 : decode cX2_boxOfFetch 86 = .ok (.iinc 9 1, 3) := by decide +kernel
theorem dX2_boxOfFetch_89 : decode cX2_boxOfFetch 89 = .ok (.goto (-49), 3) := by decide +kernel
theorem dX2_boxOfFetch_92 : decode cX2_boxOfFetch 92 = .ok (.aload 5, 2) := by decide +kernel
theorem dX2_boxOfFetch_94 : decode cX2_boxOfFetch 94 = .ok (.getfield 110, 3) := by decide +kernel
theorem dX2_boxOfFetch_97 : decode cX2_boxOfFetch 97 = .ok (.iconst 3, 1) := by decide +kernel
theorem dX2_boxOfFetch_98 : decode cX2_boxOfFetch 98 = .ok (.if_icmp .ne 12, 3) := by decide +kernel
theorem dX2_boxOfFetch_101 : decode cX2_boxOfFetch 101 = .ok (.iload 6, 2) := by decide +kernel
theorem dX2_boxOfFetch_103 : decode cX2_boxOfFetch 103 = .ok (.iload_n 1, 1) := by decide +kernel
theorem dX2_boxOfFetch_104 : decode cX2_boxOfFetch 104 = .ok (.if_icmp .ne 6, 3) := by decide +kernel
theorem dX2_boxOfFetch_107 : decode cX2_boxOfFetch 107 = .ok (.aload 5, 2) := by decide +kernel
theorem dX2_boxOfFetch_109 : decode cX2_boxOfFetch 109 = .ok (.areturn, 1) := by decide +kernel
theorem dX2_boxOfFetch_110 : decode cX2_boxOfFetch 110 = .ok (.iinc 4 1, 3) := by decide +kernel
theorem dX2_boxOfFetch_113 : decode cX2_boxOfFetch 113 = .ok (.goto (-102), 3) := by decide +kernel
theorem dX2_boxOfFetch_116 : decode cX2_boxOfFetch 116 = .ok (.aconst_null, 1) := by decide +kernel
theorem dX2_boxOfFetch_117 : decode cX2_boxOfFetch 117 = .ok (.areturn, 1) := by decide +kernel
theorem dX3_init_0 : decode cX3_init 0 = .ok (.aload_n 0, 1) := by decide +kernel
theorem dX3_init_1 : decode cX3_init 1 = .ok (.invokespecial 3, 3) := by decide +kernel
theorem dX3_init_4 : decode cX3_init 4 = .ok (.aload_n 0, 1) := by decide +kernel
theorem dX3_init_5 : decode cX3_init 5 = .ok (.bipush 120, 2) := by decide +kernel
theorem dX3_init_7 : decode cX3_init 7 = .ok (.newarray .int, 2) := by decide +kernel
theorem dX3_init_9 : decode cX3_init 9 = .ok (.putfield 9, 3) := by decide +kernel
theorem dX3_init_12 : decode cX3_init 12 = .ok (.aload_n 0, 1) := by decide +kernel
theorem dX3_init_13 : decode cX3_init 13 = .ok (.bipush 60, 2) := by decide +kernel
theorem dX3_init_15 : decode cX3_init 15 = .ok (.newarray .int, 2) := by decide +kernel
theorem dX3_init_17 : decode cX3_init 17 = .ok (.putfield 15, 3) := by decide +kernel
theorem dX3_init_20 : decode cX3_init 20 = .ok (.aload_n 0, 1) := by decide +kernel
theorem dX3_init_21 : decode cX3_init 21 = .ok (.bipush 60, 2) := by decide +kernel
theorem dX3_init_23 : decode cX3_init 23 = .ok (.newarray .int, 2) := by decide +kernel
theorem dX3_init_25 : decode cX3_init 25 = .ok (.putfield 18, 3) := by decide +kernel
theorem dX3_init_28 : decode cX3_init 28 = .ok (.aload_n 0, 1) := by decide +kernel
theorem dX3_init_29 : decode cX3_init 29 = .ok (.bipush 60, 2) := by decide +kernel
theorem dX3_init_31 : decode cX3_init 31 = .ok (.newarray .int, 2) := by decide +kernel
theorem dX3_init_33 : decode cX3_init 33 = .ok (.putfield 21, 3) := by decide +kernel
theorem dX3_init_36 : decode cX3_init 36 = .ok (.return_, 1) := by decide +kernel
theorem dX3_readOrders_0 : decode cX3_readOrders 0 = .ok (.aload_n 0, 1) := by decide +kernel
theorem dX3_readOrders_1 : decode cX3_readOrders 1 = .ok (.iconst 0, 1) := by decide +kernel
theorem dX3_readOrders_2 : decode cX3_readOrders 2 = .ok (.putfield 24, 3) := by decide +kernel
theorem dX3_readOrders_5 : decode cX3_readOrders 5 = .ok (.aload_n 0, 1) := by decide +kernel
theorem dX3_readOrders_6 : decode cX3_readOrders 6 = .ok (.iconst 0, 1) := by decide +kernel
theorem dX3_readOrders_7 : decode cX3_readOrders 7 = .ok (.putfield 28, 3) := by decide +kernel
theorem dX3_readOrders_10 : decode cX3_readOrders 10 = .ok (.aload_n 0, 1) := by decide +kernel
theorem dX3_readOrders_11 : decode cX3_readOrders 11 = .ok (.iconst (-1), 1) := by decide +kernel
theorem dX3_readOrders_12 : decode cX3_readOrders 12 = .ok (.putfield 31, 3) := by decide +kernel
theorem dX3_readOrders_15 : decode cX3_readOrders 15 = .ok (.aload_n 0, 1) := by decide +kernel
theorem dX3_readOrders_16 : decode cX3_readOrders 16 = .ok (.invokevirtual 34, 3) := by decide +kernel
theorem dX3_readOrders_19 : decode cX3_readOrders 19 = .ok (.ifCond .ge 11, 3) := by decide +kernel
theorem dX3_readOrders_22 : decode cX3_readOrders 22 = .ok (.aload_n 0, 1) := by decide +kernel
theorem dX3_readOrders_23 : decode cX3_readOrders 23 = .ok (.aload_n 0, 1) := by decide +kernel
theorem dX3_readOrders_24 : decode cX3_readOrders 24 = .ok (.getfield 28, 3) := by decide +kernel
theorem dX3_readOrders_27 : decode cX3_readOrders 27 = .ok (.putfield 31, 3) := by decide +kernel
theorem dX3_readOrders_30 : decode cX3_readOrders 30 = .ok (.iconst 0, 1) := by decide +kernel
theorem dX3_readOrders_31 : decode cX3_readOrders 31 = .ok (.istore_n 1, 1) := by decide +kernel
theorem dX3_readOrders_32 : decode cX3_readOrders 32 = .ok (.iload_n 1, 1) := by decide +kernel
theorem dX3_readOrders_33 : decode cX3_readOrders 33 = .ok (.bipush 120, 2) := by decide +kernel
theorem dX3_readOrders_35 : decode cX3_readOrders 35 = .ok (.if_icmp .ge 28, 3) := by decide +kernel
theorem dX3_readOrders_38 : decode cX3_readOrders 38 = .ok (.aload_n 0, 1) := by decide +kernel
theorem dX3_readOrders_39 : decode cX3_readOrders 39 = .ok (.getfield 31, 3) := by decide +kernel
theorem dX3_readOrders_42 : decode cX3_readOrders 42 = .ok (.iconst (-1), 1) := by decide +kernel
theorem dX3_readOrders_43 : decode cX3_readOrders 43 = .ok (.if_icmp .ne 20, 3) := by decide +kernel
theorem dX3_readOrders_46 : decode cX3_readOrders 46 = .ok (.aload_n 0, 1) := by decide +kernel
theorem dX3_readOrders_47 : decode cX3_readOrders 47 = .ok (.invokevirtual 34, 3) := by decide +kernel
theorem dX3_readOrders_50 : decode cX3_readOrders 50 = .ok (.ifCond .lt 13, 3) := by decide +kernel
theorem dX3_readOrders_53 : decode cX3_readOrders 53 = .ok (.aload_n 0, 1) := by decide +kernel
theorem dX3_readOrders_54 : decode cX3_readOrders 54 = .ok (.invokevirtual 38, 3) := by decide +kernel
theorem dX3_readOrders_57 : decode cX3_readOrders 57 = .ok (.iinc 1 1, 3) := by decide +kernel
theorem dX3_readOrders_60 : decode cX3_readOrders 60 = .ok (.goto (-28), 3) := by decide +kernel
theorem dX3_readOrders_63 : decode cX3_readOrders 63 = .ok (.aload_n 0, 1) := by decide +kernel
theorem dX3_readOrders_64 : decode cX3_readOrders 64 = .ok (.getfield 31, 3) := by decide +kernel
theorem dX3_readOrders_67 : decode cX3_readOrders 67 = .ok (.ireturn, 1) := by decide +kernel
theorem dX3_peek_0 : decode cX3_peek 0 = .ok (.iconst 0, 1) := by decide +kernel
theorem dX3_peek_1 : decode cX3_peek 1 = .ok (.istore_n 1, 1) := by decide +kernel
theorem dX3_peek_2 : decode cX3_peek 2 = .ok (.iload_n 1, 1) := by decide +kernel
theorem dX3_peek_3 : decode cX3_peek 3 = .ok (.bipush 120, 2) := by decide +kernel
theorem dX3_peek_5 : decode cX3_peek 5 = .ok (.if_icmp .ge 32, 3) := by decide +kernel
theorem dX3_peek_8 : decode cX3_peek 8 = .ok (.aload_n 0, 1) := by decide +kernel
theorem dX3_peek_9 : decode cX3_peek 9 = .ok (.aload_n 0, 1) := by decide +kernel
theorem dX3_peek_10 : decode cX3_peek 10 = .ok (.getfield 28, 3) := by decide +kernel
theorem dX3_peek_13 : decode cX3_peek 13 = .ok (.invokevirtual 41, 3) := by decide +kernel
theorem dX3_peek_16 : decode cX3_peek 16 = .ok (.bipush 32, 2) := by decide +kernel
theorem dX3_peek_18 : decode cX3_peek 18 = .ok (.if_icmp .ne 19, 3) := by decide +kernel
theorem dX3_peek_21 : decode cX3_peek 21 = .ok (.aload_n 0, 1) := by decide +kernel
theorem dX3_peek_22 : decode cX3_peek 22 = .ok (.dup, 1) := by decide +kernel
theorem dX3_peek_23 : decode cX3_peek 23 = .ok (.getfield 28, 3) := by decide +kernel
theorem dX3_peek_26 : decode cX3_peek 26 = .ok (.iconst 1, 1) := by decide +kernel
theorem dX3_peek_27 : decode cX3_peek 27 = .ok (.iadd, 1) := by decide +kernel
theorem dX3_peek_28 : decode cX3_peek 28 = .ok (.putfield 28, 3) := by decide +kernel
theorem dX3_peek_31 : decode cX3_peek 31 = .ok (.iinc 1 1, 3) := by decide +kernel
theorem dX3_peek_34 : decode cX3_peek 34 = .ok (.goto (-32), 3) := by decide +kernel
theorem dX3_peek_37 : decode cX3_peek 37 = .ok (.aload_n 0, 1) := by decide +kernel
theorem dX3_peek_38 : decode cX3_peek 38 = .ok (.aload_n 0, 1) := by decide +kernel
theorem dX3_peek_39 : decode cX3_peek 39 = .ok (.getfield 28, 3) := by decide +kernel
theorem dX3_peek_42 : decode cX3_peek 42 = .ok (.invokevirtual 41, 3) := by decide +kernel
theorem dX3_peek_45 : decode cX3_peek 45 = .ok (.ireturn, 1) := by decide +kernel
theorem dX3_byteAt_0 : decode cX3_byteAt 0 = .ok (.iload_n 1, 1) := by decide +kernel
theorem dX3_byteAt_1 : decode cX3_byteAt 1 = .ok (.ifCond .lt 26, 3) := by decide +kernel
theorem dX3_byteAt_4 : decode cX3_byteAt 4 = .ok (.iload_n 1, 1) := by decide +kernel
theorem dX3_byteAt_5 : decode cX3_byteAt 5 = .ok (.aload_n 0, 1) := by decide +kernel
theorem dX3_byteAt_6 : decode cX3_byteAt 6 = .ok (.getfield 45, 3) := by decide +kernel
theorem dX3_byteAt_9 : decode cX3_byteAt 9 = .ok (.if_icmp .ge 18, 3) := by decide +kernel
theorem dX3_byteAt_12 : decode cX3_byteAt 12 = .ok (.iload_n 1, 1) := by decide +kernel
theorem dX3_byteAt_13 : decode cX3_byteAt 13 = .ok (.bipush 120, 2) := by decide +kernel
theorem dX3_byteAt_15 : decode cX3_byteAt 15 = .ok (.if_icmp .ge 12, 3) := by decide +kernel
theorem dX3_byteAt_18 : decode cX3_byteAt 18 = .ok (.aload_n 0, 1) := by decide +kernel
theorem dX3_byteAt_19 : decode cX3_byteAt 19 = .ok (.getfield 9, 3) := by decide +kernel
theorem dX3_byteAt_22 : decode cX3_byteAt 22 = .ok (.iload_n 1, 1) := by decide +kernel
theorem dX3_byteAt_23 : decode cX3_byteAt 23 = .ok (.iaload, 1) := by decide +kernel
theorem dX3_byteAt_24 : decode cX3_byteAt 24 = .ok (.goto 4, 3) := by decide +kernel
theorem dX3_byteAt_27 : decode cX3_byteAt 27 = .ok (.iconst (-1), 1) := by decide +kernel
theorem dX3_byteAt_28 : decode cX3_byteAt 28 = .ok (.ireturn, 1) := by decide +kernel
theorem dX3_readOrder_0 : decode cX3_readOrder 0 = .ok (.aload_n 0, 1) := by decide +kernel
theorem dX3_readOrder_1 : decode cX3_readOrder 1 = .ok (.invokevirtual 34, 3) := by decide +kernel
theorem dX3_readOrder_4 : decode cX3_readOrder 4 = .ok (.istore_n 1, 1) := by decide +kernel
theorem dX3_readOrder_5 : decode cX3_readOrder 5 = .ok (.iload_n 1, 1) := by decide +kernel
theorem dX3_readOrder_6 : decode cX3_readOrder 6 = .ok (.bipush 97, 2) := by decide +kernel
theorem dX3_readOrder_8 : decode cX3_readOrder 8 = .ok (.if_icmp .lt 30, 3) := by decide +kernel
theorem dX3_readOrder_11 : decode cX3_readOrder 11 = .ok (.iload_n 1, 1) := by decide +kernel
theorem dX3_readOrder_12 : decode cX3_readOrder 12 = .ok (.bipush 112, 2) := by decide +kernel
theorem dX3_readOrder_14 : decode cX3_readOrder 14 = .ok (.if_icmp .gt 24, 3) := by decide +kernel
theorem dX3_readOrder_17 : decode cX3_readOrder 17 = .ok (.aload_n 0, 1) := by decide +kernel
theorem dX3_readOrder_18 : decode cX3_readOrder 18 = .ok (.dup, 1) := by decide +kernel
theorem dX3_readOrder_19 : decode cX3_readOrder 19 = .ok (.getfield 28, 3) := by decide +kernel
theorem dX3_readOrder_22 : decode cX3_readOrder 22 = .ok (.iconst 1, 1) := by decide +kernel
theorem dX3_readOrder_23 : decode cX3_readOrder 23 = .ok (.iadd, 1) := by decide +kernel
theorem dX3_readOrder_24 : decode cX3_readOrder 24 = .ok (.putfield 28, 3) := by decide +kernel
theorem dX3_readOrder_27 : decode cX3_readOrder 27 = .ok (.aload_n 0, 1) := by decide +kernel
theorem dX3_readOrder_28 : decode cX3_readOrder 28 = .ok (.iload_n 1, 1) := by decide +kernel
theorem dX3_readOrder_29 : decode cX3_readOrder 29 = .ok (.bipush 97, 2) := by decide +kernel
theorem dX3_readOrder_31 : decode cX3_readOrder 31 = .ok (.isub, 1) := by decide +kernel
theorem dX3_readOrder_32 : decode cX3_readOrder 32 = .ok (.invokevirtual 48, 3) := by decide +kernel
theorem dX3_readOrder_35 : decode cX3_readOrder 35 = .ok (.goto 67, 3) := by decide +kernel
theorem dX3_readOrder_38 : decode cX3_readOrder 38 = .ok (.iload_n 1, 1) := by decide +kernel
theorem dX3_readOrder_39 : decode cX3_readOrder 39 = .ok (.bipush 33, 2) := by decide +kernel
theorem dX3_readOrder_41 : decode cX3_readOrder 41 = .ok (.if_icmp .ne 23, 3) := by decide +kernel
theorem dX3_readOrder_44 : decode cX3_readOrder 44 = .ok (.aload_n 0, 1) := by decide +kernel
theorem dX3_readOrder_45 : decode cX3_readOrder 45 = .ok (.dup, 1) := by decide +kernel
theorem dX3_readOrder_46 : decode cX3_readOrder 46 = .ok (.getfield 28, 3) := by decide +kernel
theorem dX3_readOrder_49 : decode cX3_readOrder 49 = .ok (.iconst 1, 1) := by decide +kernel
theorem dX3_readOrder_50 : decode cX3_readOrder 50 = .ok (.iadd, 1) := by decide +kernel
theorem dX3_readOrder_51 : decode cX3_readOrder 51 = .ok (.putfield 28, 3) := by decide +kernel
theorem dX3_readOrder_54 : decode cX3_readOrder 54 = .ok (.aload_n 0, 1) := by decide +kernel
theorem dX3_readOrder_55 : decode cX3_readOrder 55 = .ok (.iconst (-1), 1) := by decide +kernel
theorem dX3_readOrder_56 : decode cX3_readOrder 56 = .ok (.iconst 0, 1) := by decide +kernel
theorem dX3_readOrder_57 : decode cX3_readOrder 57 = .ok (.iconst 0, 1) := by decide +kernel
theorem dX3_readOrder_58 : decode cX3_readOrder 58 = .ok (.invokevirtual 52, 3) := by decide +kernel
theorem dX3_readOrder_61 : decode cX3_readOrder 61 = .ok (.goto 41, 3) := by decide +kernel
theorem dX3_readOrder_64 : decode cX3_readOrder 64 = .ok (.iload_n 1, 1) := by decide +kernel
theorem dX3_readOrder_65 : decode cX3_readOrder 65 = .ok (.bipush 35, 2) := by decide +kernel
theorem dX3_readOrder_67 : decode cX3_readOrder 67 = .ok (.if_icmp .ne 27, 3) := by decide +kernel
theorem dX3_readOrder_70 : decode cX3_readOrder 70 = .ok (.aload_n 0, 1) := by decide +kernel
theorem dX3_readOrder_71 : decode cX3_readOrder 71 = .ok (.dup, 1) := by decide +kernel
theorem dX3_readOrder_72 : decode cX3_readOrder 72 = .ok (.getfield 28, 3) := by decide +kernel
theorem dX3_readOrder_75 : decode cX3_readOrder 75 = .ok (.iconst 1, 1) := by decide +kernel
theorem dX3_readOrder_76 : decode cX3_readOrder 76 = .ok (.iadd, 1) := by decide +kernel
theorem dX3_readOrder_77 : decode cX3_readOrder 77 = .ok (.putfield 28, 3) := by decide +kernel
theorem dX3_readOrder_80 : decode cX3_readOrder 80 = .ok (.aload_n 0, 1) := by decide +kernel
theorem dX3_readOrder_81 : decode cX3_readOrder 81 = .ok (.bipush (-2), 2) := by decide +kernel
theorem dX3_readOrder_83 : decode cX3_readOrder 83 = .ok (.iconst 0, 1) := by decide +kernel
theorem dX3_readOrder_84 : decode cX3_readOrder 84 = .ok (.aload_n 0, 1) := by decide +kernel
theorem dX3_readOrder_85 : decode cX3_readOrder 85 = .ok (.invokevirtual 56, 3) := by decide +kernel
theorem dX3_readOrder_88 : decode cX3_readOrder 88 = .ok (.invokevirtual 52, 3) := by decide +kernel
theorem dX3_readOrder_91 : decode cX3_readOrder 91 = .ok (.goto 11, 3) := by decide +kernel
theorem dX3_readOrder_94 : decode cX3_readOrder 94 = .ok (.aload_n 0, 1) := by decide +kernel
theorem dX3_readOrder_95 : decode cX3_readOrder 95 = .ok (.aload_n 0, 1) := by decide +kernel
theorem dX3_readOrder_96 : decode cX3_readOrder 96 = .ok (.getfield 28, 3) := by decide +kernel
theorem dX3_readOrder_99 : decode cX3_readOrder 99 = .ok (.putfield 31, 3) := by decide +kernel
theorem dX3_readOrder_102 : decode cX3_readOrder 102 = .ok (.aload_n 0, 1) := by decide +kernel
theorem dX3_readOrder_103 : decode cX3_readOrder 103 = .ok (.getfield 31, 3) := by decide +kernel
theorem dX3_readOrder_106 : decode cX3_readOrder 106 = .ok (.iconst (-1), 1) := by decide +kernel
theorem dX3_readOrder_107 : decode cX3_readOrder 107 = .ok (.if_icmp .ne 20, 3) := by decide +kernel
theorem dX3_readOrder_110 : decode cX3_readOrder 110 = .ok (.aload_n 0, 1) := by decide +kernel
theorem dX3_readOrder_111 : decode cX3_readOrder 111 = .ok (.invokevirtual 34, 3) := by decide +kernel
theorem dX3_readOrder_114 : decode cX3_readOrder 114 = .ok (.bipush 59, 2) := by decide +kernel
theorem dX3_readOrder_116 : decode cX3_readOrder 116 = .ok (.if_icmp .eq 11, 3) := by decide +kernel
theorem dX3_readOrder_119 : decode cX3_readOrder 119 = .ok (.aload_n 0, 1) := by decide +kernel
theorem dX3_readOrder_120 : decode cX3_readOrder 120 = .ok (.aload_n 0, 1) := by decide +kernel
theorem dX3_readOrder_121 : decode cX3_readOrder 121 = .ok (.getfield 28, 3) := by decide +kernel
theorem dX3_readOrder_124 : decode cX3_readOrder 124 = .ok (.putfield 31, 3) := by decide +kernel
theorem dX3_readOrder_127 : decode cX3_readOrder 127 = .ok (.aload_n 0, 1) := by decide +kernel
theorem dX3_readOrder_128 : decode cX3_readOrder 128 = .ok (.dup, 1) := by decide +kernel
theorem dX3_readOrder_129 : decode cX3_readOrder 129 = .ok (.getfield 28, 3) := by decide +kernel
theorem dX3_readOrder_132 : decode cX3_readOrder 132 = .ok (.iconst 1, 1) := by decide +kernel
theorem dX3_readOrder_133 : decode cX3_readOrder 133 = .ok (.iadd, 1) := by decide +kernel
theorem dX3_readOrder_134 : decode cX3_readOrder 134 = .ok (.putfield 28, 3) := by decide +kernel
theorem dX3_readOrder_137 : decode cX3_readOrder 137 = .ok (.return_, 1) := by decide +kernel
theorem dX3_readAsking_0 : decode cX3_readAsking 0 = .ok (.aload_n 0, 1) := by decide +kernel
theorem dX3_readAsking_1 : decode cX3_readAsking 1 = .ok (.invokevirtual 34, 3) := by decide +kernel
theorem dX3_readAsking_4 : decode cX3_readAsking 4 = .ok (.bipush 48, 2) := by decide +kernel
theorem dX3_readAsking_6 : decode cX3_readAsking 6 = .ok (.isub, 1) := by decide +kernel
theorem dX3_readAsking_7 : decode cX3_readAsking 7 = .ok (.istore_n 2, 1) := by decide +kernel
theorem dX3_readAsking_8 : decode cX3_readAsking 8 = .ok (.iload_n 2, 1) := by decide +kernel
theorem dX3_readAsking_9 : decode cX3_readAsking 9 = .ok (.invokestatic 59, 3) := by decide +kernel
theorem dX3_readAsking_12 : decode cX3_readAsking 12 = .ok (.ifCond .ne 12, 3) := by decide +kernel
theorem dX3_readAsking_15 : decode cX3_readAsking 15 = .ok (.aload_n 0, 1) := by decide +kernel
theorem dX3_readAsking_16 : decode cX3_readAsking 16 = .ok (.aload_n 0, 1) := by decide +kernel
theorem dX3_readAsking_17 : decode cX3_readAsking 17 = .ok (.getfield 28, 3) := by decide +kernel
theorem dX3_readAsking_20 : decode cX3_readAsking 20 = .ok (.putfield 31, 3) := by decide +kernel
theorem dX3_readAsking_23 : decode cX3_readAsking 23 = .ok (.return_, 1) := by decide +kernel
theorem dX3_readAsking_24 : decode cX3_readAsking 24 = .ok (.aload_n 0, 1) := by decide +kernel
theorem dX3_readAsking_25 : decode cX3_readAsking 25 = .ok (.dup, 1) := by decide +kernel
theorem dX3_readAsking_26 : decode cX3_readAsking 26 = .ok (.getfield 28, 3) := by decide +kernel
theorem dX3_readAsking_29 : decode cX3_readAsking 29 = .ok (.iconst 1, 1) := by decide +kernel
theorem dX3_readAsking_30 : decode cX3_readAsking 30 = .ok (.iadd, 1) := by decide +kernel
theorem dX3_readAsking_31 : decode cX3_readAsking 31 = .ok (.putfield 28, 3) := by decide +kernel
theorem dX3_readAsking_34 : decode cX3_readAsking 34 = .ok (.iconst (-1), 1) := by decide +kernel
theorem dX3_readAsking_35 : decode cX3_readAsking 35 = .ok (.istore_n 3, 1) := by decide +kernel
theorem dX3_readAsking_36 : decode cX3_readAsking 36 = .ok (.aload_n 0, 1) := by decide +kernel
theorem dX3_readAsking_37 : decode cX3_readAsking 37 = .ok (.invokevirtual 34, 3) := by decide +kernel
theorem dX3_readAsking_40 : decode cX3_readAsking 40 = .ok (.bipush 61, 2) := by decide +kernel
theorem dX3_readAsking_42 : decode cX3_readAsking 42 = .ok (.if_icmp .ne 18, 3) := by decide +kernel
theorem dX3_readAsking_45 : decode cX3_readAsking 45 = .ok (.aload_n 0, 1) := by decide +kernel
theorem dX3_readAsking_46 : decode cX3_readAsking 46 = .ok (.dup, 1) := by decide +kernel
theorem dX3_readAsking_47 : decode cX3_readAsking 47 = .ok (.getfield 28, 3) := by decide +kernel
theorem dX3_readAsking_50 : decode cX3_readAsking 50 = .ok (.iconst 1, 1) := by decide +kernel
theorem dX3_readAsking_51 : decode cX3_readAsking 51 = .ok (.iadd, 1) := by decide +kernel
theorem dX3_readAsking_52 : decode cX3_readAsking 52 = .ok (.putfield 28, 3) := by decide +kernel
theorem dX3_readAsking_55 : decode cX3_readAsking 55 = .ok (.aload_n 0, 1) := by decide +kernel
theorem dX3_readAsking_56 : decode cX3_readAsking 56 = .ok (.invokevirtual 56, 3) := by decide +kernel
theorem dX3_readAsking_59 : decode cX3_readAsking 59 = .ok (.istore_n 3, 1) := by decide +kernel
theorem dX3_readAsking_60 : decode cX3_readAsking 60 = .ok (.aload_n 0, 1) := by decide +kernel
theorem dX3_readAsking_61 : decode cX3_readAsking 61 = .ok (.iload_n 1, 1) := by decide +kernel
theorem dX3_readAsking_62 : decode cX3_readAsking 62 = .ok (.iload_n 2, 1) := by decide +kernel
theorem dX3_readAsking_63 : decode cX3_readAsking 63 = .ok (.iload_n 3, 1) := by decide +kernel
theorem dX3_readAsking_64 : decode cX3_readAsking 64 = .ok (.invokevirtual 52, 3) := by decide +kernel
theorem dX3_readAsking_67 : decode cX3_readAsking 67 = .ok (.return_, 1) := by decide +kernel
theorem dX3_readNumber_0 : decode cX3_readNumber 0 = .ok (.aload_n 0, 1) := by decide +kernel
theorem dX3_readNumber_1 : decode cX3_readNumber 1 = .ok (.invokevirtual 34, 3) := by decide +kernel
theorem dX3_readNumber_4 : decode cX3_readNumber 4 = .ok (.pop, 1) := by decide +kernel
theorem dX3_readNumber_5 : decode cX3_readNumber 5 = .ok (.aload_n 0, 1) := by decide +kernel
theorem dX3_readNumber_6 : decode cX3_readNumber 6 = .ok (.getfield 28, 3) := by decide +kernel
theorem dX3_readNumber_9 : decode cX3_readNumber 9 = .ok (.istore_n 1, 1) := by decide +kernel
theorem dX3_readNumber_10 : decode cX3_readNumber 10 = .ok (.iconst 0, 1) := by decide +kernel
theorem dX3_readNumber_11 : decode cX3_readNumber 11 = .ok (.istore_n 2, 1) := by decide +kernel
theorem dX3_readNumber_12 : decode cX3_readNumber 12 = .ok (.iconst 0, 1) := by decide +kernel
theorem dX3_readNumber_13 : decode cX3_readNumber 13 = .ok (.istore_n 3, 1) := by decide +kernel
theorem dX3_readNumber_14 : decode cX3_readNumber 14 = .ok (.iload_n 3, 1) := by decide +kernel
theorem dX3_readNumber_15 : decode cX3_readNumber 15 = .ok (.bipush 120, 2) := by decide +kernel
theorem dX3_readNumber_17 : decode cX3_readNumber 17 = .ok (.if_icmp .ge 59, 3) := by decide +kernel
theorem dX3_readNumber_20 : decode cX3_readNumber 20 = .ok (.aload_n 0, 1) := by decide +kernel
theorem dX3_readNumber_21 : decode cX3_readNumber 21 = .ok (.aload_n 0, 1) := by decide +kernel
theorem dX3_readNumber_22 : decode cX3_readNumber 22 = .ok (.getfield 28, 3) := by decide +kernel
theorem dX3_readNumber_25 : decode cX3_readNumber 25 = .ok (.invokevirtual 41, 3) := by decide +kernel
theorem dX3_readNumber_28 : decode cX3_readNumber 28 = .ok (.invokestatic 63, 3) := by decide +kernel
theorem dX3_readNumber_31 : decode cX3_readNumber 31 = .ok (.ifCond .eq 45, 3) := by decide +kernel
theorem dX3_readNumber_34 : decode cX3_readNumber 34 = .ok (.iload_n 3, 1) := by decide +kernel
theorem dX3_readNumber_35 : decode cX3_readNumber 35 = .ok (.iconst 2, 1) := by decide +kernel
theorem dX3_readNumber_36 : decode cX3_readNumber 36 = .ok (.if_icmp .ge 22, 3) := by decide +kernel
theorem dX3_readNumber_39 : decode cX3_readNumber 39 = .ok (.bipush 10, 2) := by decide +kernel
theorem dX3_readNumber_41 : decode cX3_readNumber 41 = .ok (.iload_n 2, 1) := by decide +kernel
theorem dX3_readNumber_42 : decode cX3_readNumber 42 = .ok (.imul, 1) := by decide +kernel
theorem dX3_readNumber_43 : decode cX3_readNumber 43 = .ok (.aload_n 0, 1) := by decide +kernel
theorem dX3_readNumber_44 : decode cX3_readNumber 44 = .ok (.aload_n 0, 1) := by decide +kernel
theorem dX3_readNumber_45 : decode cX3_readNumber 45 = .ok (.getfield 28, 3) := by decide +kernel
theorem dX3_readNumber_48 : decode cX3_readNumber 48 = .ok (.invokevirtual 41, 3) := by decide +kernel
theorem dX3_readNumber_51 : decode cX3_readNumber 51 = .ok (.iadd, 1) := by decide +kernel
theorem dX3_readNumber_52 : decode cX3_readNumber 52 = .ok (.bipush 48, 2) := by decide +kernel
theorem dX3_readNumber_54 : decode cX3_readNumber 54 = .ok (.isub, 1) := by decide +kernel
theorem dX3_readNumber_55 : decode cX3_readNumber 55 = .ok (.goto 4, 3) := by decide +kernel
theorem dX3_readNumber_58 : decode cX3_readNumber 58 = .ok (.iload_n 2, 1) := by decide +kernel
theorem dX3_readNumber_59 : decode cX3_readNumber 59 = .ok (.istore_n 2, 1) := by decide +kernel
theorem dX3_readNumber_60 : decode cX3_readNumber 60 = .ok (.aload_n 0, 1) := by decide +kernel
theorem dX3_readNumber_61 : decode cX3_readNumber 61 = .ok (.dup, 1) := by decide +kernel
theorem dX3_readNumber_62 : decode cX3_readNumber 62 = .ok (.getfield 28, 3) := by decide +kernel
theorem dX3_readNumber_65 : decode cX3_readNumber 65 = .ok (.iconst 1, 1) := by decide +kernel
theorem dX3_readNumber_66 : decode cX3_readNumber 66 = .ok (.iadd, 1) := by decide +kernel
theorem dX3_readNumber_67 : decode cX3_readNumber 67 = .ok (.putfield 28, 3) := by decide +kernel
theorem dX3_readNumber_70 : decode cX3_readNumber 70 = .ok (.iinc 3 1, 3) := by decide +kernel
theorem dX3_readNumber_73 : decode cX3_readNumber 73 = .ok (.goto (-59), 3) := by decide +kernel
theorem dX3_readNumber_76 : decode cX3_readNumber 76 = .ok (.aload_n 0, 1) := by decide +kernel
theorem dX3_readNumber_77 : decode cX3_readNumber 77 = .ok (.getfield 28, 3) := by decide +kernel
theorem dX3_readNumber_80 : decode cX3_readNumber 80 = .ok (.iload_n 1, 1) := by decide +kernel
theorem dX3_readNumber_81 : decode cX3_readNumber 81 = .ok (.if_icmp .eq 13, 3) := by decide +kernel
theorem dX3_readNumber_84 : decode cX3_readNumber 84 = .ok (.aload_n 0, 1) := by decide +kernel
theorem dX3_readNumber_85 : decode cX3_readNumber 85 = .ok (.getfield 28, 3) := by decide +kernel
theorem dX3_readNumber_88 : decode cX3_readNumber 88 = .ok (.iload_n 1, 1) := by decide +kernel
theorem dX3_readNumber_89 : decode cX3_readNumber 89 = .ok (.iconst 2, 1) := by decide +kernel
theorem dX3_readNumber_90 : decode cX3_readNumber 90 = .ok (.iadd, 1) := by decide +kernel
theorem dX3_readNumber_91 : decode cX3_readNumber 91 = .ok (.if_icmp .le 8, 3) := by decide +kernel
theorem dX3_readNumber_94 : decode cX3_readNumber 94 = .ok (.aload_n 0, 1) := by decide +kernel
theorem dX3_readNumber_95 : decode cX3_readNumber 95 = .ok (.iload_n 1, 1) := by decide +kernel
theorem dX3_readNumber_96 : decode cX3_readNumber 96 = .ok (.putfield 31, 3) := by decide +kernel
theorem dX3_readNumber_99 : decode cX3_readNumber 99 = .ok (.iload_n 2, 1) := by decide +kernel
theorem dX3_readNumber_100 : decode cX3_readNumber 100 = .ok (.ireturn, 1) := by decide +kernel
theorem dX3_isFigure_0 : decode cX3_isFigure 0 = .ok (.iload_n 0, 1) := by decide +kernel
theorem dX3_isFigure_1 : decode cX3_isFigure 1 = .ok (.bipush 48, 2) := by decide +kernel
theorem dX3_isFigure_3 : decode cX3_isFigure 3 = .ok (.if_icmp .lt 13, 3) := by decide +kernel
theorem dX3_isFigure_6 : decode cX3_isFigure 6 = .ok (.iload_n 0, 1) := by decide +kernel
theorem dX3_isFigure_7 : decode cX3_isFigure 7 = .ok (.bipush 57, 2) := by decide +kernel
theorem dX3_isFigure_9 : decode cX3_isFigure 9 = .ok (.if_icmp .gt 7, 3) := by decide +kernel
theorem dX3_isFigure_12 : decode cX3_isFigure 12 = .ok (.iconst 1, 1) := by decide +kernel
theorem dX3_isFigure_13 : decode cX3_isFigure 13 = .ok (.goto 4, 3) := by decide +kernel
theorem dX3_isFigure_16 : decode cX3_isFigure 16 = .ok (.iconst 0, 1) := by decide +kernel
theorem dX3_isFigure_17 : decode cX3_isFigure 17 = .ok (.ireturn, 1) := by decide +kernel
theorem dX3_addOrder_0 : decode cX3_addOrder 0 = .ok (.aload_n 0, 1) := by decide +kernel
theorem dX3_addOrder_1 : decode cX3_addOrder 1 = .ok (.getfield 24, 3) := by decide +kernel
theorem dX3_addOrder_4 : decode cX3_addOrder 4 = .ok (.ifCond .lt 52, 3) := by decide +kernel
theorem dX3_addOrder_7 : decode cX3_addOrder 7 = .ok (.aload_n 0, 1) := by decide +kernel
theorem dX3_addOrder_8 : decode cX3_addOrder 8 = .ok (.getfield 24, 3) := by decide +kernel
theorem dX3_addOrder_11 : decode cX3_addOrder 11 = .ok (.bipush 60, 2) := by decide +kernel
theorem dX3_addOrder_13 : decode cX3_addOrder 13 = .ok (.if_icmp .ge 43, 3) := by decide +kernel
theorem dX3_addOrder_16 : decode cX3_addOrder 16 = .ok (.aload_n 0, 1) := by decide +kernel
theorem dX3_addOrder_17 : decode cX3_addOrder 17 = .ok (.getfield 15, 3) := by decide +kernel
theorem dX3_addOrder_20 : decode cX3_addOrder 20 = .ok (.aload_n 0, 1) := by decide +kernel
theorem dX3_addOrder_21 : decode cX3_addOrder 21 = .ok (.getfield 24, 3) := by decide +kernel
theorem dX3_addOrder_24 : decode cX3_addOrder 24 = .ok (.iload_n 1, 1) := by decide +kernel
theorem dX3_addOrder_25 : decode cX3_addOrder 25 = .ok (.iastore, 1) := by decide +kernel
theorem dX3_addOrder_26 : decode cX3_addOrder 26 = .ok (.aload_n 0, 1) := by decide +kernel
theorem dX3_addOrder_27 : decode cX3_addOrder 27 = .ok (.getfield 18, 3) := by decide +kernel
theorem dX3_addOrder_30 : decode cX3_addOrder 30 = .ok (.aload_n 0, 1) := by decide +kernel
theorem dX3_addOrder_31 : decode cX3_addOrder 31 = .ok (.getfield 24, 3) := by decide +kernel
theorem dX3_addOrder_34 : decode cX3_addOrder 34 = .ok (.iload_n 2, 1) := by decide +kernel
theorem dX3_addOrder_35 : decode cX3_addOrder 35 = .ok (.iastore, 1) := by decide +kernel
theorem dX3_addOrder_36 : decode cX3_addOrder 36 = .ok (.aload_n 0, 1) := by decide +kernel
theorem dX3_addOrder_37 : decode cX3_addOrder 37 = .ok (.getfield 21, 3) := by decide +kernel
theorem dX3_addOrder_40 : decode cX3_addOrder 40 = .ok (.aload_n 0, 1) := by decide +kernel
theorem dX3_addOrder_41 : decode cX3_addOrder 41 = .ok (.getfield 24, 3) := by decide +kernel
theorem dX3_addOrder_44 : decode cX3_addOrder 44 = .ok (.iload_n 3, 1) := by decide +kernel
theorem dX3_addOrder_45 : decode cX3_addOrder 45 = .ok (.iastore, 1) := by decide +kernel
theorem dX3_addOrder_46 : decode cX3_addOrder 46 = .ok (.aload_n 0, 1) := by decide +kernel
theorem dX3_addOrder_47 : decode cX3_addOrder 47 = .ok (.dup, 1) := by decide +kernel
theorem dX3_addOrder_48 : decode cX3_addOrder 48 = .ok (.getfield 24, 3) := by decide +kernel
theorem dX3_addOrder_51 : decode cX3_addOrder 51 = .ok (.iconst 1, 1) := by decide +kernel
theorem dX3_addOrder_52 : decode cX3_addOrder 52 = .ok (.iadd, 1) := by decide +kernel
theorem dX3_addOrder_53 : decode cX3_addOrder 53 = .ok (.putfield 24, 3) := by decide +kernel
theorem dX3_addOrder_56 : decode cX3_addOrder 56 = .ok (.return_, 1) := by decide +kernel
theorem dX4_init_0 : decode cX4_init 0 = .ok (.aload_n 0, 1) := by decide +kernel
theorem dX4_init_1 : decode cX4_init 1 = .ok (.invokespecial 1, 3) := by decide +kernel
theorem dX4_init_4 : decode cX4_init 4 = .ok (.aload_n 0, 1) := by decide +kernel
theorem dX4_init_5 : decode cX4_init 5 = .ok (.new 7, 3) := by decide +kernel
theorem dX4_init_8 : decode cX4_init 8 = .ok (.dup, 1) := by decide +kernel
theorem dX4_init_9 : decode cX4_init 9 = .ok (.invokespecial 9, 3) := by decide +kernel
theorem dX4_init_12 : decode cX4_init 12 = .ok (.putfield 10, 3) := by decide +kernel
theorem dX4_init_15 : decode cX4_init 15 = .ok (.aload_n 0, 1) := by decide +kernel
theorem dX4_init_16 : decode cX4_init 16 = .ok (.new 7, 3) := by decide +kernel
theorem dX4_init_19 : decode cX4_init 19 = .ok (.dup, 1) := by decide +kernel
theorem dX4_init_20 : decode cX4_init 20 = .ok (.invokespecial 9, 3) := by decide +kernel
theorem dX4_init_23 : decode cX4_init 23 = .ok (.putfield 16, 3) := by decide +kernel
theorem dX4_init_26 : decode cX4_init 26 = .ok (.aload_n 0, 1) := by decide +kernel
theorem dX4_init_27 : decode cX4_init 27 = .ok (.bipush 6, 2) := by decide +kernel
theorem dX4_init_29 : decode cX4_init 29 = .ok (.anewarray 7, 3) := by decide +kernel
theorem dX4_init_32 : decode cX4_init 32 = .ok (.putfield 19, 3) := by decide +kernel
theorem dX4_init_35 : decode cX4_init 35 = .ok (.iconst 0, 1) := by decide +kernel
theorem dX4_init_36 : decode cX4_init 36 = .ok (.istore_n 1, 1) := by decide +kernel
theorem dX4_init_37 : decode cX4_init 37 = .ok (.iload_n 1, 1) := by decide +kernel
theorem dX4_init_38 : decode cX4_init 38 = .ok (.bipush 6, 2) := by decide +kernel
theorem dX4_init_40 : decode cX4_init 40 = .ok (.if_icmp .ge 22, 3) := by decide +kernel
theorem dX4_init_43 : decode cX4_init 43 = .ok (.aload_n 0, 1) := by decide +kernel
theorem dX4_init_44 : decode cX4_init 44 = .ok (.getfield 19, 3) := by decide +kernel
theorem dX4_init_47 : decode cX4_init 47 = .ok (.iload_n 1, 1) := by decide +kernel
theorem dX4_init_48 : decode cX4_init 48 = .ok (.new 7, 3) := by decide +kernel
theorem dX4_init_51 : decode cX4_init 51 = .ok (.dup, 1) := by decide +kernel
theorem dX4_init_52 : decode cX4_init 52 = .ok (.invokespecial 9, 3) := by decide +kernel
theorem dX4_init_55 : decode cX4_init 55 = .ok (.aastore, 1) := by decide +kernel
theorem dX4_init_56 : decode cX4_init 56 = .ok (.iinc 1 1, 3) := by decide +kernel
theorem dX4_init_59 : decode cX4_init 59 = .ok (.goto (-22), 3) := by decide +kernel
theorem dX4_init_62 : decode cX4_init 62 = .ok (.aload_n 0, 1) := by decide +kernel
theorem dX4_init_63 : decode cX4_init 63 = .ok (.new 23, 3) := by decide +kernel
theorem dX4_init_66 : decode cX4_init 66 = .ok (.dup, 1) := by decide +kernel
theorem dX4_init_67 : decode cX4_init 67 = .ok (.invokespecial 25, 3) := by decide +kernel
theorem dX4_init_70 : decode cX4_init 70 = .ok (.putfield 26, 3) := by decide +kernel
theorem dX4_init_73 : decode cX4_init 73 = .ok (.aload_n 0, 1) := by decide +kernel
theorem dX4_init_74 : decode cX4_init 74 = .ok (.iconst 3, 1) := by decide +kernel
theorem dX4_init_75 : decode cX4_init 75 = .ok (.newarray .int, 2) := by decide +kernel
theorem dX4_init_77 : decode cX4_init 77 = .ok (.putfield 30, 3) := by decide +kernel
theorem dX4_init_80 : decode cX4_init 80 = .ok (.aload_n 0, 1) := by decide +kernel
theorem dX4_init_81 : decode cX4_init 81 = .ok (.iconst 0, 1) := by decide +kernel
theorem dX4_init_82 : decode cX4_init 82 = .ok (.putfield 34, 3) := by decide +kernel
theorem dX4_init_85 : decode cX4_init 85 = .ok (.aload_n 0, 1) := by decide +kernel
theorem dX4_init_86 : decode cX4_init 86 = .ok (.iconst 0, 1) := by decide +kernel
theorem dX4_init_87 : decode cX4_init 87 = .ok (.putfield 38, 3) := by decide +kernel
theorem dX4_init_90 : decode cX4_init 90 = .ok (.return_, 1) := by decide +kernel
theorem dX4_sets_0 : decode cX4_sets 0 = .ok (.iload_n 1, 1) := by decide +kernel
theorem dX4_sets_1 : decode cX4_sets 1 = .ok (.ifCond .lt 29, 3) := by decide +kernel
theorem dX4_sets_4 : decode cX4_sets 4 = .ok (.iload_n 1, 1) := by decide +kernel
theorem dX4_sets_5 : decode cX4_sets 5 = .ok (.getstatic 41, 3) := by decide +kernel
theorem dX4_sets_8 : decode cX4_sets 8 = .ok (.arraylength, 1) := by decide +kernel
theorem dX4_sets_9 : decode cX4_sets 9 = .ok (.if_icmp .ge 21, 3) := by decide +kernel
theorem dX4_sets_12 : decode cX4_sets 12 = .ok (.iload_n 2, 1) := by decide +kernel
theorem dX4_sets_13 : decode cX4_sets 13 = .ok (.getstatic 41, 3) := by decide +kernel
theorem dX4_sets_16 : decode cX4_sets 16 = .ok (.iload_n 1, 1) := by decide +kernel
theorem dX4_sets_17 : decode cX4_sets 17 = .ok (.iaload, 1) := by decide +kernel
theorem dX4_sets_18 : decode cX4_sets 18 = .ok (.if_icmp .lt 12, 3) := by decide +kernel
theorem dX4_sets_21 : decode cX4_sets 21 = .ok (.iload_n 2, 1) := by decide +kernel
theorem dX4_sets_22 : decode cX4_sets 22 = .ok (.getstatic 44, 3) := by decide +kernel
theorem dX4_sets_25 : decode cX4_sets 25 = .ok (.iload_n 1, 1) := by decide +kernel
theorem dX4_sets_26 : decode cX4_sets 26 = .ok (.iaload, 1) := by decide +kernel
theorem dX4_sets_27 : decode cX4_sets 27 = .ok (.if_icmp .le 10, 3) := by decide +kernel
theorem dX4_sets_30 : decode cX4_sets 30 = .ok (.aload_n 0, 1) := by decide +kernel
theorem dX4_sets_31 : decode cX4_sets 31 = .ok (.bipush (-2), 2) := by decide +kernel
theorem dX4_sets_33 : decode cX4_sets 33 = .ok (.invokevirtual 47, 3) := by decide +kernel
theorem dX4_sets_36 : decode cX4_sets 36 = .ok (.ireturn, 1) := by decide +kernel
theorem dX4_sets_37 : decode cX4_sets 37 = .ok (.aload_n 0, 1) := by decide +kernel
theorem dX4_sets_38 : decode cX4_sets 38 = .ok (.invokevirtual 51, 3) := by decide +kernel
theorem dX4_sets_41 : decode cX4_sets 41 = .ok (.aload_n 0, 1) := by decide +kernel
theorem dX4_sets_42 : decode cX4_sets 42 = .ok (.getfield 10, 3) := by decide +kernel
theorem dX4_sets_45 : decode cX4_sets 45 = .ok (.getfield 54, 3) := by decide +kernel
theorem dX4_sets_48 : decode cX4_sets 48 = .ok (.iload_n 1, 1) := by decide +kernel
theorem dX4_sets_49 : decode cX4_sets 49 = .ok (.iaload, 1) := by decide +kernel
theorem dX4_sets_50 : decode cX4_sets 50 = .ok (.istore_n 3, 1) := by decide +kernel
theorem dX4_sets_51 : decode cX4_sets 51 = .ok (.aload_n 0, 1) := by decide +kernel
theorem dX4_sets_52 : decode cX4_sets 52 = .ok (.getfield 10, 3) := by decide +kernel
theorem dX4_sets_55 : decode cX4_sets 55 = .ok (.getfield 54, 3) := by decide +kernel
theorem dX4_sets_58 : decode cX4_sets 58 = .ok (.iload_n 1, 1) := by decide +kernel
theorem dX4_sets_59 : decode cX4_sets 59 = .ok (.iload_n 2, 1) := by decide +kernel
theorem dX4_sets_60 : decode cX4_sets 60 = .ok (.iastore, 1) := by decide +kernel
theorem dX4_sets_61 : decode cX4_sets 61 = .ok (.aload_n 0, 1) := by decide +kernel
theorem dX4_sets_62 : decode cX4_sets 62 = .ok (.getfield 10, 3) := by decide +kernel
theorem dX4_sets_65 : decode cX4_sets 65 = .ok (.invokevirtual 57, 3) := by decide +kernel
theorem dX4_sets_68 : decode cX4_sets 68 = .ok (.iload_n 3, 1) := by decide +kernel
theorem dX4_sets_69 : decode cX4_sets 69 = .ok (.ireturn, 1) := by decide +kernel
theorem dX4_anew_0 : decode cX4_anew 0 = .ok (.aload_n 0, 1) := by decide +kernel
theorem dX4_anew_1 : decode cX4_anew 1 = .ok (.invokevirtual 51, 3) := by decide +kernel
theorem dX4_anew_4 : decode cX4_anew 4 = .ok (.aload_n 0, 1) := by decide +kernel
theorem dX4_anew_5 : decode cX4_anew 5 = .ok (.getfield 10, 3) := by decide +kernel
theorem dX4_anew_8 : decode cX4_anew 8 = .ok (.getfield 60, 3) := by decide +kernel
theorem dX4_anew_11 : decode cX4_anew 11 = .ok (.bipush 9, 2) := by decide +kernel
theorem dX4_anew_13 : decode cX4_anew 13 = .ok (.iaload, 1) := by decide +kernel
theorem dX4_anew_14 : decode cX4_anew 14 = .ok (.istore_n 1, 1) := by decide +kernel
theorem dX4_anew_15 : decode cX4_anew 15 = .ok (.aload_n 0, 1) := by decide +kernel
theorem dX4_anew_16 : decode cX4_anew 16 = .ok (.getfield 10, 3) := by decide +kernel
theorem dX4_anew_19 : decode cX4_anew 19 = .ok (.invokevirtual 57, 3) := by decide +kernel
theorem dX4_anew_22 : decode cX4_anew 22 = .ok (.iload_n 1, 1) := by decide +kernel
theorem dX4_anew_23 : decode cX4_anew 23 = .ok (.ireturn, 1) := by decide +kernel
theorem dX4_load_0 : decode cX4_load 0 = .ok (.iload_n 1, 1) := by decide +kernel
theorem dX4_load_1 : decode cX4_load 1 = .ok (.invokestatic 63, 3) := by decide +kernel
theorem dX4_load_4 : decode cX4_load 4 = .ok (.ifCond .eq 10, 3) := by decide +kernel
theorem dX4_load_7 : decode cX4_load 7 = .ok (.iload_n 2, 1) := by decide +kernel
theorem dX4_load_8 : decode cX4_load 8 = .ok (.invokestatic 67, 3) := by decide +kernel
theorem dX4_load_11 : decode cX4_load 11 = .ok (.ifCond .ne 10, 3) := by decide +kernel
theorem dX4_load_14 : decode cX4_load 14 = .ok (.aload_n 0, 1) := by decide +kernel
theorem dX4_load_15 : decode cX4_load 15 = .ok (.bipush (-2), 2) := by decide +kernel
theorem dX4_load_17 : decode cX4_load 17 = .ok (.invokevirtual 47, 3) := by decide +kernel
theorem dX4_load_20 : decode cX4_load 20 = .ok (.ireturn, 1) := by decide +kernel
theorem dX4_load_21 : decode cX4_load 21 = .ok (.aload_n 0, 1) := by decide +kernel
theorem dX4_load_22 : decode cX4_load 22 = .ok (.invokevirtual 51, 3) := by decide +kernel
theorem dX4_load_25 : decode cX4_load 25 = .ok (.aload_n 0, 1) := by decide +kernel
theorem dX4_load_26 : decode cX4_load 26 = .ok (.getfield 10, 3) := by decide +kernel
theorem dX4_load_29 : decode cX4_load 29 = .ok (.aload_n 0, 1) := by decide +kernel
theorem dX4_load_30 : decode cX4_load 30 = .ok (.getfield 10, 3) := by decide +kernel
theorem dX4_load_33 : decode cX4_load 33 = .ok (.getfield 70, 3) := by decide +kernel
theorem dX4_load_36 : decode cX4_load 36 = .ok (.iload_n 1, 1) := by decide +kernel
theorem dX4_load_37 : decode cX4_load 37 = .ok (.aaload, 1) := by decide +kernel
theorem dX4_load_38 : decode cX4_load 38 = .ok (.iload_n 2, 1) := by decide +kernel
theorem dX4_load_39 : decode cX4_load 39 = .ok (.iconst (-1), 1) := by decide +kernel
theorem dX4_load_40 : decode cX4_load 40 = .ok (.invokevirtual 74, 3) := by decide +kernel
theorem dX4_load_43 : decode cX4_load 43 = .ok (.ireturn, 1) := by decide +kernel
theorem dX4_store_0 : decode cX4_store 0 = .ok (.iload_n 1, 1) := by decide +kernel
theorem dX4_store_1 : decode cX4_store 1 = .ok (.invokestatic 63, 3) := by decide +kernel
theorem dX4_store_4 : decode cX4_store 4 = .ok (.ifCond .eq 20, 3) := by decide +kernel
theorem dX4_store_7 : decode cX4_store 7 = .ok (.iload_n 2, 1) := by decide +kernel
theorem dX4_store_8 : decode cX4_store 8 = .ok (.invokestatic 67, 3) := by decide +kernel
theorem dX4_store_11 : decode cX4_store 11 = .ok (.ifCond .eq 13, 3) := by decide +kernel
theorem dX4_store_14 : decode cX4_store 14 = .ok (.iload_n 3, 1) := by decide +kernel
theorem dX4_store_15 : decode cX4_store 15 = .ok (.ifCond .lt 9, 3) := by decide +kernel
theorem dX4_store_18 : decode cX4_store 18 = .ok (.iload_n 3, 1) := by decide +kernel
theorem dX4_store_19 : decode cX4_store 19 = .ok (.bipush 99, 2) := by decide +kernel
theorem dX4_store_21 : decode cX4_store 21 = .ok (.if_icmp .le 10, 3) := by decide +kernel
theorem dX4_store_24 : decode cX4_store 24 = .ok (.aload_n 0, 1) := by decide +kernel
theorem dX4_store_25 : decode cX4_store 25 = .ok (.bipush (-2), 2) := by decide +kernel
theorem dX4_store_27 : decode cX4_store 27 = .ok (.invokevirtual 47, 3) := by decide +kernel
theorem dX4_store_30 : decode cX4_store 30 = .ok (.ireturn, 1) := by decide +kernel
theorem dX4_store_31 : decode cX4_store 31 = .ok (.aload_n 0, 1) := by decide +kernel
theorem dX4_store_32 : decode cX4_store 32 = .ok (.invokevirtual 51, 3) := by decide +kernel
theorem dX4_store_35 : decode cX4_store 35 = .ok (.aload_n 0, 1) := by decide +kernel
theorem dX4_store_36 : decode cX4_store 36 = .ok (.getfield 10, 3) := by decide +kernel
theorem dX4_store_39 : decode cX4_store 39 = .ok (.aload_n 0, 1) := by decide +kernel
theorem dX4_store_40 : decode cX4_store 40 = .ok (.getfield 10, 3) := by decide +kernel
theorem dX4_store_43 : decode cX4_store 43 = .ok (.getfield 70, 3) := by decide +kernel
theorem dX4_store_46 : decode cX4_store 46 = .ok (.iload_n 1, 1) := by decide +kernel
theorem dX4_store_47 : decode cX4_store 47 = .ok (.aaload, 1) := by decide +kernel
theorem dX4_store_48 : decode cX4_store 48 = .ok (.iload_n 2, 1) := by decide +kernel
theorem dX4_store_49 : decode cX4_store 49 = .ok (.iload_n 3, 1) := by decide +kernel
theorem dX4_store_50 : decode cX4_store 50 = .ok (.invokevirtual 74, 3) := by decide +kernel
theorem dX4_store_53 : decode cX4_store 53 = .ok (.ireturn, 1) := by decide +kernel
theorem dX4_fence_0 : decode cX4_fence 0 = .ok (.aload_n 0, 1) := by decide +kernel
theorem dX4_fence_1 : decode cX4_fence 1 = .ok (.invokevirtual 51, 3) := by decide +kernel
theorem dX4_fence_4 : decode cX4_fence 4 = .ok (.aload_n 0, 1) := by decide +kernel
theorem dX4_fence_5 : decode cX4_fence 5 = .ok (.getfield 10, 3) := by decide +kernel
theorem dX4_fence_8 : decode cX4_fence 8 = .ok (.aconst_null, 1) := by decide +kernel
theorem dX4_fence_9 : decode cX4_fence 9 = .ok (.iconst 0, 1) := by decide +kernel
theorem dX4_fence_10 : decode cX4_fence 10 = .ok (.iconst (-1), 1) := by decide +kernel
theorem dX4_fence_11 : decode cX4_fence 11 = .ok (.invokevirtual 74, 3) := by decide +kernel
theorem dX4_fence_14 : decode cX4_fence 14 = .ok (.ireturn, 1) := by decide +kernel
theorem dX4_ticks_0 : decode cX4_ticks 0 = .ok (.iload_n 1, 1) := by decide +kernel
theorem dX4_ticks_1 : decode cX4_ticks 1 = .ok (.ifCond .lt 9, 3) := by decide +kernel
theorem dX4_ticks_4 : decode cX4_ticks 4 = .ok (.iload_n 1, 1) := by decide +kernel
theorem dX4_ticks_5 : decode cX4_ticks 5 = .ok (.bipush 99, 2) := by decide +kernel
theorem dX4_ticks_7 : decode cX4_ticks 7 = .ok (.if_icmp .le 10, 3) := by decide +kernel
theorem dX4_ticks_10 : decode cX4_ticks 10 = .ok (.aload_n 0, 1) := by decide +kernel
theorem dX4_ticks_11 : decode cX4_ticks 11 = .ok (.bipush (-2), 2) := by decide +kernel
theorem dX4_ticks_13 : decode cX4_ticks 13 = .ok (.invokevirtual 47, 3) := by decide +kernel
theorem dX4_ticks_16 : decode cX4_ticks 16 = .ok (.ireturn, 1) := by decide +kernel
theorem dX4_ticks_17 : decode cX4_ticks 17 = .ok (.aload_n 0, 1) := by decide +kernel
theorem dX4_ticks_18 : decode cX4_ticks 18 = .ok (.invokevirtual 51, 3) := by decide +kernel
theorem dX4_ticks_21 : decode cX4_ticks 21 = .ok (.aload_n 0, 1) := by decide +kernel
theorem dX4_ticks_22 : decode cX4_ticks 22 = .ok (.getfield 10, 3) := by decide +kernel
theorem dX4_ticks_25 : decode cX4_ticks 25 = .ok (.getfield 60, 3) := by decide +kernel
theorem dX4_ticks_28 : decode cX4_ticks 28 = .ok (.bipush 8, 2) := by decide +kernel
theorem dX4_ticks_30 : decode cX4_ticks 30 = .ok (.iaload, 1) := by decide +kernel
theorem dX4_ticks_31 : decode cX4_ticks 31 = .ok (.istore_n 2, 1) := by decide +kernel
theorem dX4_ticks_32 : decode cX4_ticks 32 = .ok (.aload_n 0, 1) := by decide +kernel
theorem dX4_ticks_33 : decode cX4_ticks 33 = .ok (.getfield 10, 3) := by decide +kernel
theorem dX4_ticks_36 : decode cX4_ticks 36 = .ok (.iload_n 1, 1) := by decide +kernel
theorem dX4_ticks_37 : decode cX4_ticks 37 = .ok (.invokevirtual 78, 3) := by decide +kernel
theorem dX4_ticks_40 : decode cX4_ticks 40 = .ok (.aload_n 0, 1) := by decide +kernel
theorem dX4_ticks_41 : decode cX4_ticks 41 = .ok (.getfield 10, 3) := by decide +kernel
theorem dX4_ticks_44 : decode cX4_ticks 44 = .ok (.getfield 60, 3) := by decide +kernel
theorem dX4_ticks_47 : decode cX4_ticks 47 = .ok (.bipush 8, 2) := by decide +kernel
theorem dX4_ticks_49 : decode cX4_ticks 49 = .ok (.iaload, 1) := by decide +kernel
theorem dX4_ticks_50 : decode cX4_ticks 50 = .ok (.iload_n 2, 1) := by decide +kernel
theorem dX4_ticks_51 : decode cX4_ticks 51 = .ok (.isub, 1) := by decide +kernel
theorem dX4_ticks_52 : decode cX4_ticks 52 = .ok (.ireturn, 1) := by decide +kernel
theorem dX4_got_0 : decode cX4_got 0 = .ok (.iload_n 1, 1) := by decide +kernel
theorem dX4_got_1 : decode cX4_got 1 = .ok (.ifCond .lt 12, 3) := by decide +kernel
theorem dX4_got_4 : decode cX4_got 4 = .ok (.iload_n 2, 1) := by decide +kernel
theorem dX4_got_5 : decode cX4_got 5 = .ok (.ifCond .lt 8, 3) := by decide +kernel
theorem dX4_got_8 : decode cX4_got 8 = .ok (.iload_n 2, 1) := by decide +kernel
theorem dX4_got_9 : decode cX4_got 9 = .ok (.iconst 2, 1) := by decide +kernel
theorem dX4_got_10 : decode cX4_got 10 = .ok (.if_icmp .le 10, 3) := by decide +kernel
theorem dX4_got_13 : decode cX4_got 13 = .ok (.aload_n 0, 1) := by decide +kernel
theorem dX4_got_14 : decode cX4_got 14 = .ok (.bipush (-2), 2) := by decide +kernel
theorem dX4_got_16 : decode cX4_got 16 = .ok (.invokevirtual 47, 3) := by decide +kernel
theorem dX4_got_19 : decode cX4_got 19 = .ok (.ireturn, 1) := by decide +kernel
theorem dX4_got_20 : decode cX4_got 20 = .ok (.aload_n 0, 1) := by decide +kernel
theorem dX4_got_21 : decode cX4_got 21 = .ok (.getfield 10, 3) := by decide +kernel
theorem dX4_got_24 : decode cX4_got 24 = .ok (.getfield 105, 3) := by decide +kernel
theorem dX4_got_27 : decode cX4_got 27 = .ok (.astore_n 3, 1) := by decide +kernel
theorem dX4_got_28 : decode cX4_got 28 = .ok (.iload_n 1, 1) := by decide +kernel
theorem dX4_got_29 : decode cX4_got 29 = .ok (.aload_n 3, 1) := by decide +kernel
theorem dX4_got_30 : decode cX4_got 30 = .ok (.getfield 109, 3) := by decide +kernel
theorem dX4_got_33 : decode cX4_got 33 = .ok (.if_icmp .ge 10, 3) := by decide +kernel
theorem dX4_got_36 : decode cX4_got 36 = .ok (.iload_n 1, 1) := by decide +kernel
theorem dX4_got_37 : decode cX4_got 37 = .ok (.sipush 200, 3) := by decide +kernel
theorem dX4_got_40 : decode cX4_got 40 = .ok (.if_icmp .lt 5, 3) := by decide +kernel
theorem dX4_got_43 : decode cX4_got 43 = .ok (.iconst (-1), 1) := by decide +kernel
theorem dX4_got_44 : decode cX4_got 44 = .ok (.ireturn, 1) := by decide +kernel
theorem dX4_got_45 : decode cX4_got 45 = .ok (.iload_n 2, 1) := by decide +kernel
theorem dX4_got_46 : decode cX4_got 46 = .ok (.ifCond .ne 12, 3) := by decide +kernel
theorem dX4_got_49 : decode cX4_got 49 = .ok (.aload_n 3, 1) := by decide +kernel
theorem dX4_got_50 : decode cX4_got 50 = .ok (.getfield 114, 3) := by decide +kernel
theorem dX4_got_53 : decode cX4_got 53 = .ok (.iload_n 1, 1) := by decide +kernel
theorem dX4_got_54 : decode cX4_got 54 = .ok (.iaload, 1) := by decide +kernel
theorem dX4_got_55 : decode cX4_got 55 = .ok (.goto 23, 3) := by decide +kernel
theorem dX4_got_58 : decode cX4_got 58 = .ok (.iload_n 2, 1) := by decide +kernel
theorem dX4_got_59 : decode cX4_got 59 = .ok (.iconst 1, 1) := by decide +kernel
theorem dX4_got_60 : decode cX4_got 60 = .ok (.if_icmp .ne 12, 3) := by decide +kernel
theorem dX4_got_63 : decode cX4_got 63 = .ok (.aload_n 3, 1) := by decide +kernel
theorem dX4_got_64 : decode cX4_got 64 = .ok (.getfield 117, 3) := by decide +kernel
theorem dX4_got_67 : decode cX4_got 67 = .ok (.iload_n 1, 1) := by decide +kernel
theorem dX4_got_68 : decode cX4_got 68 = .ok (.iaload, 1) := by decide +kernel
theorem dX4_got_69 : decode cX4_got 69 = .ok (.goto 9, 3) := by decide +kernel
theorem dX4_got_72 : decode cX4_got 72 = .ok (.aload_n 3, 1) := by decide +kernel
theorem dX4_got_73 : decode cX4_got 73 = .ok (.getfield 120, 3) := by decide +kernel
theorem dX4_got_76 : decode cX4_got 76 = .ok (.iload_n 1, 1) := by decide +kernel
theorem dX4_got_77 : decode cX4_got 77 = .ok (.iaload, 1) := by decide +kernel
theorem dX4_got_78 : decode cX4_got 78 = .ok (.ireturn, 1) := by decide +kernel
theorem dX4_often_0 : decode cX4_often 0 = .ok (.iload_n 1, 1) := by decide +kernel
theorem dX4_often_1 : decode cX4_often 1 = .ok (.ifCond .lt 9, 3) := by decide +kernel
theorem dX4_often_4 : decode cX4_often 4 = .ok (.iload_n 1, 1) := by decide +kernel
theorem dX4_often_5 : decode cX4_often 5 = .ok (.bipush 10, 2) := by decide +kernel
theorem dX4_often_7 : decode cX4_often 7 = .ok (.if_icmp .lt 10, 3) := by decide +kernel
theorem dX4_often_10 : decode cX4_often 10 = .ok (.aload_n 0, 1) := by decide +kernel
theorem dX4_often_11 : decode cX4_often 11 = .ok (.bipush (-2), 2) := by decide +kernel
theorem dX4_often_13 : decode cX4_often 13 = .ok (.invokevirtual 47, 3) := by decide +kernel
theorem dX4_often_16 : decode cX4_often 16 = .ok (.ireturn, 1) := by decide +kernel
theorem dX4_often_17 : decode cX4_often 17 = .ok (.aload_n 0, 1) := by decide +kernel
theorem dX4_often_18 : decode cX4_often 18 = .ok (.getfield 10, 3) := by decide +kernel
theorem dX4_often_21 : decode cX4_often 21 = .ok (.getfield 60, 3) := by decide +kernel
theorem dX4_often_24 : decode cX4_often 24 = .ok (.iload_n 1, 1) := by decide +kernel
theorem dX4_often_25 : decode cX4_often 25 = .ok (.iaload, 1) := by decide +kernel
theorem dX4_often_26 : decode cX4_often 26 = .ok (.ireturn, 1) := by decide +kernel
theorem dX4_where_0 : decode cX4_where 0 = .ok (.iload_n 1, 1) := by decide +kernel
theorem dX4_where_1 : decode cX4_where 1 = .ok (.invokestatic 63, 3) := by decide +kernel
theorem dX4_where_4 : decode cX4_where 4 = .ok (.ifCond .ne 10, 3) := by decide +kernel
theorem dX4_where_7 : decode cX4_where 7 = .ok (.aload_n 0, 1) := by decide +kernel
theorem dX4_where_8 : decode cX4_where 8 = .ok (.bipush (-2), 2) := by decide +kernel
theorem dX4_where_10 : decode cX4_where 10 = .ok (.invokevirtual 47, 3) := by decide +kernel
theorem dX4_where_13 : decode cX4_where 13 = .ok (.ireturn, 1) := by decide +kernel
theorem dX4_where_14 : decode cX4_where 14 = .ok (.aload_n 0, 1) := by decide +kernel
theorem dX4_where_15 : decode cX4_where 15 = .ok (.getfield 10, 3) := by decide +kernel
theorem dX4_where_18 : decode cX4_where 18 = .ok (.getfield 70, 3) := by decide +kernel
theorem dX4_where_21 : decode cX4_where 21 = .ok (.iload_n 1, 1) := by decide +kernel
theorem dX4_where_22 : decode cX4_where 22 = .ok (.aaload, 1) := by decide +kernel
theorem dX4_where_23 : decode cX4_where 23 = .ok (.getfield 123, 3) := by decide +kernel
theorem dX4_where_26 : decode cX4_where 26 = .ok (.ireturn, 1) := by decide +kernel
theorem dX4_item_0 : decode cX4_item 0 = .ok (.iload_n 1, 1) := by decide +kernel
theorem dX4_item_1 : decode cX4_item 1 = .ok (.invokestatic 63, 3) := by decide +kernel
theorem dX4_item_4 : decode cX4_item 4 = .ok (.ifCond .eq 19, 3) := by decide +kernel
theorem dX4_item_7 : decode cX4_item 7 = .ok (.iload_n 2, 1) := by decide +kernel
theorem dX4_item_8 : decode cX4_item 8 = .ok (.invokestatic 67, 3) := by decide +kernel
theorem dX4_item_11 : decode cX4_item 11 = .ok (.ifCond .eq 12, 3) := by decide +kernel
theorem dX4_item_14 : decode cX4_item 14 = .ok (.iload_n 3, 1) := by decide +kernel
theorem dX4_item_15 : decode cX4_item 15 = .ok (.ifCond .lt 8, 3) := by decide +kernel
theorem dX4_item_18 : decode cX4_item 18 = .ok (.iload_n 3, 1) := by decide +kernel
theorem dX4_item_19 : decode cX4_item 19 = .ok (.iconst 2, 1) := by decide +kernel
theorem dX4_item_20 : decode cX4_item 20 = .ok (.if_icmp .le 10, 3) := by decide +kernel
theorem dX4_item_23 : decode cX4_item 23 = .ok (.aload_n 0, 1) := by decide +kernel
theorem dX4_item_24 : decode cX4_item 24 = .ok (.bipush (-2), 2) := by decide +kernel
theorem dX4_item_26 : decode cX4_item 26 = .ok (.invokevirtual 47, 3) := by decide +kernel
theorem dX4_item_29 : decode cX4_item 29 = .ok (.ireturn, 1) := by decide +kernel
theorem dX4_item_30 : decode cX4_item 30 = .ok (.aload_n 0, 1) := by decide +kernel
theorem dX4_item_31 : decode cX4_item 31 = .ok (.getfield 10, 3) := by decide +kernel
theorem dX4_item_34 : decode cX4_item 34 = .ok (.getfield 70, 3) := by decide +kernel
theorem dX4_item_37 : decode cX4_item 37 = .ok (.iload_n 1, 1) := by decide +kernel
theorem dX4_item_38 : decode cX4_item 38 = .ok (.aaload, 1) := by decide +kernel
theorem dX4_item_39 : decode cX4_item 39 = .ok (.astore 4, 2) := by decide +kernel
theorem dX4_item_41 : decode cX4_item 41 = .ok (.iload_n 3, 1) := by decide +kernel
theorem dX4_item_42 : decode cX4_item 42 = .ok (.ifCond .ne 11, 3) := by decide +kernel
theorem dX4_item_45 : decode cX4_item 45 = .ok (.aload 4, 2) := by decide +kernel
theorem dX4_item_47 : decode cX4_item 47 = .ok (.getfield 128, 3) := by decide +kernel
theorem dX4_item_50 : decode cX4_item 50 = .ok (.iload_n 2, 1) := by decide +kernel
theorem dX4_item_51 : decode cX4_item 51 = .ok (.iaload, 1) := by decide +kernel
theorem dX4_item_52 : decode cX4_item 52 = .ok (.ireturn, 1) := by decide +kernel
theorem dX4_item_53 : decode cX4_item 53 = .ok (.iload_n 3, 1) := by decide +kernel
theorem dX4_item_54 : decode cX4_item 54 = .ok (.iconst 1, 1) := by decide +kernel
theorem dX4_item_55 : decode cX4_item 55 = .ok (.if_icmp .ne 12, 3) := by decide +kernel
theorem dX4_item_58 : decode cX4_item 58 = .ok (.aload 4, 2) := by decide +kernel
theorem dX4_item_60 : decode cX4_item 60 = .ok (.iload_n 2, 1) := by decide +kernel
theorem dX4_item_61 : decode cX4_item 61 = .ok (.invokevirtual 131, 3) := by decide +kernel

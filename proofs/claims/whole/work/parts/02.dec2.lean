theorem dX7_coast_18 : decode cX7_coast 18 = .ok (.iload_n 3, 1) := by decide +kernel
theorem dX7_coast_19 : decode cX7_coast 19 = .ok (.iconst 0, 1) := by decide +kernel
theorem dX7_coast_20 : decode cX7_coast 20 = .ok (.bipush 99, 2) := by decide +kernel
theorem dX7_coast_22 : decode cX7_coast 22 = .ok (.invokestatic 137, 3) := by decide +kernel
theorem dX7_coast_25 : decode cX7_coast 25 = .ok (.ifCond .ne 6, 3) := by decide +kernel
theorem dX7_coast_28 : decode cX7_coast 28 = .ok (.bipush (-102), 2) := by decide +kernel
theorem dX7_coast_30 : decode cX7_coast 30 = .ok (.ireturn, 1) := by decide +kernel
theorem dX7_coast_31 : decode cX7_coast 31 = .ok (.aload_n 0, 1) := by decide +kernel
theorem dX7_coast_32 : decode cX7_coast 32 = .ok (.getfield 33, 3) := by decide +kernel
theorem dX7_coast_35 : decode cX7_coast 35 = .ok (.getfield 229, 3) := by decide +kernel
theorem dX7_coast_38 : decode cX7_coast 38 = .ok (.bipush 8, 2) := by decide +kernel
theorem dX7_coast_40 : decode cX7_coast 40 = .ok (.if_icmp .lt 6, 3) := by decide +kernel
theorem dX7_coast_43 : decode cX7_coast 43 = .ok (.bipush (-104), 2) := by decide +kernel
theorem dX7_coast_45 : decode cX7_coast 45 = .ok (.ireturn, 1) := by decide +kernel
theorem dX7_coast_46 : decode cX7_coast 46 = .ok (.aload_n 0, 1) := by decide +kernel
theorem dX7_coast_47 : decode cX7_coast 47 = .ok (.getfield 33, 3) := by decide +kernel
theorem dX7_coast_50 : decode cX7_coast 50 = .ok (.iload_n 1, 1) := by decide +kernel
theorem dX7_coast_51 : decode cX7_coast 51 = .ok (.iload_n 2, 1) := by decide +kernel
theorem dX7_coast_52 : decode cX7_coast 52 = .ok (.iload_n 3, 1) := by decide +kernel
theorem dX7_coast_53 : decode cX7_coast 53 = .ok (.invokevirtual 230, 3) := by decide +kernel
theorem dX7_coast_56 : decode cX7_coast 56 = .ok (.aload_n 0, 1) := by decide +kernel
theorem dX7_coast_57 : decode cX7_coast 57 = .ok (.getfield 33, 3) := by decide +kernel
theorem dX7_coast_60 : decode cX7_coast 60 = .ok (.getfield 229, 3) := by decide +kernel
theorem dX7_coast_63 : decode cX7_coast 63 = .ok (.ireturn, 1) := by decide +kernel
theorem dX7_rubs_0 : decode cX7_rubs 0 = .ok (.iconst 0, 1) := by decide +kernel
theorem dX7_rubs_1 : decode cX7_rubs 1 = .ok (.istore_n 1, 1) := by decide +kernel
theorem dX7_rubs_2 : decode cX7_rubs 2 = .ok (.iconst 0, 1) := by decide +kernel
theorem dX7_rubs_3 : decode cX7_rubs 3 = .ok (.istore_n 2, 1) := by decide +kernel
theorem dX7_rubs_4 : decode cX7_rubs 4 = .ok (.iload_n 2, 1) := by decide +kernel
theorem dX7_rubs_5 : decode cX7_rubs 5 = .ok (.bipush 9, 2) := by decide +kernel
theorem dX7_rubs_7 : decode cX7_rubs 7 = .ok (.if_icmp .gt 23, 3) := by decide +kernel
theorem dX7_rubs_10 : decode cX7_rubs 10 = .ok (.aload_n 0, 1) := by decide +kernel
theorem dX7_rubs_11 : decode cX7_rubs 11 = .ok (.iload_n 2, 1) := by decide +kernel
theorem dX7_rubs_12 : decode cX7_rubs 12 = .ok (.invokevirtual 233, 3) := by decide +kernel
theorem dX7_rubs_15 : decode cX7_rubs 15 = .ok (.ifCond .eq 9, 3) := by decide +kernel
theorem dX7_rubs_18 : decode cX7_rubs 18 = .ok (.iload_n 1, 1) := by decide +kernel
theorem dX7_rubs_19 : decode cX7_rubs 19 = .ok (.iconst 1, 1) := by decide +kernel
theorem dX7_rubs_20 : decode cX7_rubs 20 = .ok (.iload_n 2, 1) := by decide +kernel
theorem dX7_rubs_21 : decode cX7_rubs 21 = .ok (.ishl, 1) := by decide +kernel
theorem dX7_rubs_22 : decode cX7_rubs 22 = .ok (.ior, 1) := by decide +kernel
theorem dX7_rubs_23 : decode cX7_rubs 23 = .ok (.istore_n 1, 1) := by decide +kernel
theorem dX7_rubs_24 : decode cX7_rubs 24 = .ok (.iinc 2 1, 3) := by decide +kernel
theorem dX7_rubs_27 : decode cX7_rubs 27 = .ok (.goto (-23), 3) := by decide +kernel
theorem dX7_rubs_30 : decode cX7_rubs 30 = .ok (.iload_n 1, 1) := by decide +kernel
theorem dX7_rubs_31 : decode cX7_rubs 31 = .ok (.ireturn, 1) := by decide +kernel
theorem dX7_chance_0 : decode cX7_chance 0 = .ok (.aload_n 0, 1) := by decide +kernel
theorem dX7_chance_1 : decode cX7_chance 1 = .ok (.iload_n 1, 1) := by decide +kernel
theorem dX7_chance_2 : decode cX7_chance 2 = .ok (.invokevirtual 121, 3) := by decide +kernel
theorem dX7_chance_5 : decode cX7_chance 5 = .ok (.ifCond .eq 11, 3) := by decide +kernel
theorem dX7_chance_8 : decode cX7_chance 8 = .ok (.aload_n 0, 1) := by decide +kernel
theorem dX7_chance_9 : decode cX7_chance 9 = .ok (.iload_n 2, 1) := by decide +kernel
theorem dX7_chance_10 : decode cX7_chance 10 = .ok (.invokevirtual 121, 3) := by decide +kernel
theorem dX7_chance_13 : decode cX7_chance 13 = .ok (.ifCond .ne 6, 3) := by decide +kernel
theorem dX7_chance_16 : decode cX7_chance 16 = .ok (.bipush (-101), 2) := by decide +kernel
theorem dX7_chance_18 : decode cX7_chance 18 = .ok (.ireturn, 1) := by decide +kernel
theorem dX7_chance_19 : decode cX7_chance 19 = .ok (.aload_n 0, 1) := by decide +kernel
theorem dX7_chance_20 : decode cX7_chance 20 = .ok (.iload_n 1, 1) := by decide +kernel
theorem dX7_chance_21 : decode cX7_chance 21 = .ok (.iload_n 3, 1) := by decide +kernel
theorem dX7_chance_22 : decode cX7_chance 22 = .ok (.iload 4, 2) := by decide +kernel
theorem dX7_chance_24 : decode cX7_chance 24 = .ok (.iconst 1, 1) := by decide +kernel
theorem dX7_chance_25 : decode cX7_chance 25 = .ok (.bipush 99, 2) := by decide +kernel
theorem dX7_chance_27 : decode cX7_chance 27 = .ok (.invokestatic 137, 3) := by decide +kernel
theorem dX7_chance_30 : decode cX7_chance 30 = .ok (.invokevirtual 144, 3) := by decide +kernel
theorem dX7_chance_33 : decode cX7_chance 33 = .ok (.istore 5, 2) := by decide +kernel
theorem dX7_chance_35 : decode cX7_chance 35 = .ok (.iload 5, 2) := by decide +kernel
theorem dX7_chance_37 : decode cX7_chance 37 = .ok (.ifCond .eq 6, 3) := by decide +kernel
theorem dX7_chance_40 : decode cX7_chance 40 = .ok (.iload 5, 2) := by decide +kernel
theorem dX7_chance_42 : decode cX7_chance 42 = .ok (.ireturn, 1) := by decide +kernel
theorem dX7_chance_43 : decode cX7_chance 43 = .ok (.aload_n 0, 1) := by decide +kernel
theorem dX7_chance_44 : decode cX7_chance 44 = .ok (.iload_n 1, 1) := by decide +kernel
theorem dX7_chance_45 : decode cX7_chance 45 = .ok (.iload_n 3, 1) := by decide +kernel
theorem dX7_chance_46 : decode cX7_chance 46 = .ok (.invokevirtual 236, 3) := by decide +kernel
theorem dX7_chance_49 : decode cX7_chance 49 = .ok (.aload_n 0, 1) := by decide +kernel
theorem dX7_chance_50 : decode cX7_chance 50 = .ok (.iload_n 2, 1) := by decide +kernel
theorem dX7_chance_51 : decode cX7_chance 51 = .ok (.iload_n 3, 1) := by decide +kernel
theorem dX7_chance_52 : decode cX7_chance 52 = .ok (.invokevirtual 236, 3) := by decide +kernel
theorem dX7_chance_55 : decode cX7_chance 55 = .ok (.iload 4, 2) := by decide +kernel
theorem dX7_chance_57 : decode cX7_chance 57 = .ok (.invokestatic 239, 3) := by decide +kernel
theorem dX7_chance_60 : decode cX7_chance 60 = .ok (.ireturn, 1) := by decide +kernel
theorem dX7_wins_0 : decode cX7_wins 0 = .ok (.aload_n 0, 1) := by decide +kernel
theorem dX7_wins_1 : decode cX7_wins 1 = .ok (.iload_n 1, 1) := by decide +kernel
theorem dX7_wins_2 : decode cX7_wins 2 = .ok (.iload_n 2, 1) := by decide +kernel
theorem dX7_wins_3 : decode cX7_wins 3 = .ok (.iload_n 3, 1) := by decide +kernel
theorem dX7_wins_4 : decode cX7_wins 4 = .ok (.iload 4, 2) := by decide +kernel
theorem dX7_wins_6 : decode cX7_wins 6 = .ok (.invokevirtual 242, 3) := by decide +kernel
theorem dX7_wins_9 : decode cX7_wins 9 = .ok (.istore 9, 2) := by decide +kernel
theorem dX7_wins_11 : decode cX7_wins 11 = .ok (.iload 9, 2) := by decide +kernel
theorem dX7_wins_13 : decode cX7_wins 13 = .ok (.ifCond .eq 6, 3) := by decide +kernel
theorem dX7_wins_16 : decode cX7_wins 16 = .ok (.iload 9, 2) := by decide +kernel
theorem dX7_wins_18 : decode cX7_wins 18 = .ok (.ireturn, 1) := by decide +kernel
theorem dX7_wins_19 : decode cX7_wins 19 = .ok (.iload 5, 2) := by decide +kernel
theorem dX7_wins_21 : decode cX7_wins 21 = .ok (.invokestatic 156, 3) := by decide +kernel
theorem dX7_wins_24 : decode cX7_wins 24 = .ok (.ifCond .eq 34, 3) := by decide +kernel
theorem dX7_wins_27 : decode cX7_wins 27 = .ok (.iload 6, 2) := by decide +kernel
theorem dX7_wins_29 : decode cX7_wins 29 = .ok (.iconst 1, 1) := by decide +kernel
theorem dX7_wins_30 : decode cX7_wins 30 = .ok (.bipush 99, 2) := by decide +kernel
theorem dX7_wins_32 : decode cX7_wins 32 = .ok (.invokestatic 137, 3) := by decide +kernel
theorem dX7_wins_35 : decode cX7_wins 35 = .ok (.ifCond .eq 23, 3) := by decide +kernel
theorem dX7_wins_38 : decode cX7_wins 38 = .ok (.iload 7, 2) := by decide +kernel
theorem dX7_wins_40 : decode cX7_wins 40 = .ok (.iconst 0, 1) := by decide +kernel
theorem dX7_wins_41 : decode cX7_wins 41 = .ok (.iconst 3, 1) := by decide +kernel
theorem dX7_wins_42 : decode cX7_wins 42 = .ok (.invokestatic 137, 3) := by decide +kernel
theorem dX7_wins_45 : decode cX7_wins 45 = .ok (.ifCond .eq 13, 3) := by decide +kernel
theorem dX7_wins_48 : decode cX7_wins 48 = .ok (.iload 8, 2) := by decide +kernel
theorem dX7_wins_50 : decode cX7_wins 50 = .ok (.iconst 0, 1) := by decide +kernel
theorem dX7_wins_51 : decode cX7_wins 51 = .ok (.iconst 1, 1) := by decide +kernel
theorem dX7_wins_52 : decode cX7_wins 52 = .ok (.invokestatic 137, 3) := by decide +kernel
theorem dX7_wins_55 : decode cX7_wins 55 = .ok (.ifCond .ne 6, 3) := by decide +kernel
theorem dX7_wins_58 : decode cX7_wins 58 = .ok (.bipush (-102), 2) := by decide +kernel
theorem dX7_wins_60 : decode cX7_wins 60 = .ok (.ireturn, 1) := by decide +kernel
theorem dX7_wins_61 : decode cX7_wins 61 = .ok (.aload_n 0, 1) := by decide +kernel
theorem dX7_wins_62 : decode cX7_wins 62 = .ok (.iload_n 1, 1) := by decide +kernel
theorem dX7_wins_63 : decode cX7_wins 63 = .ok (.iload_n 2, 1) := by decide +kernel
theorem dX7_wins_64 : decode cX7_wins 64 = .ok (.iload_n 3, 1) := by decide +kernel
theorem dX7_wins_65 : decode cX7_wins 65 = .ok (.iload 4, 2) := by decide +kernel
theorem dX7_wins_67 : decode cX7_wins 67 = .ok (.iload 5, 2) := by decide +kernel
theorem dX7_wins_69 : decode cX7_wins 69 = .ok (.invokevirtual 246, 3) := by decide +kernel
theorem dX7_wins_72 : decode cX7_wins 72 = .ok (.aload_n 0, 1) := by decide +kernel
theorem dX7_wins_73 : decode cX7_wins 73 = .ok (.iload 7, 2) := by decide +kernel
theorem dX7_wins_75 : decode cX7_wins 75 = .ok (.iconst 1, 1) := by decide +kernel
theorem dX7_wins_76 : decode cX7_wins 76 = .ok (.iload 6, 2) := by decide +kernel
theorem dX7_wins_78 : decode cX7_wins 78 = .ok (.invokevirtual 250, 3) := by decide +kernel
theorem dX7_wins_81 : decode cX7_wins 81 = .ok (.i2l, 1) := by decide +kernel
theorem dX7_wins_82 : decode cX7_wins 82 = .ok (.ldc2_w 253, 3) := by decide +kernel
theorem dX7_wins_85 : decode cX7_wins 85 = .ok (.iload 8, 2) := by decide +kernel
theorem dX7_wins_87 : decode cX7_wins 87 = .ok (.invokestatic 255, 3) := by decide +kernel
theorem dX7_wins_90 : decode cX7_wins 90 = .ok (.l2i, 1) := by decide +kernel
theorem dX7_wins_91 : decode cX7_wins 91 = .ok (.ireturn, 1) := by decide +kernel
theorem dX7_plan_0 : decode cX7_plan 0 = .ok (.aload_n 0, 1) := by decide +kernel
theorem dX7_plan_1 : decode cX7_plan 1 = .ok (.iload_n 1, 1) := by decide +kernel
theorem dX7_plan_2 : decode cX7_plan 2 = .ok (.iload_n 2, 1) := by decide +kernel
theorem dX7_plan_3 : decode cX7_plan 3 = .ok (.iload_n 3, 1) := by decide +kernel
theorem dX7_plan_4 : decode cX7_plan 4 = .ok (.iload 4, 2) := by decide +kernel
theorem dX7_plan_6 : decode cX7_plan 6 = .ok (.invokevirtual 242, 3) := by decide +kernel
theorem dX7_plan_9 : decode cX7_plan 9 = .ok (.istore 7, 2) := by decide +kernel
theorem dX7_plan_11 : decode cX7_plan 11 = .ok (.iload 7, 2) := by decide +kernel
theorem dX7_plan_13 : decode cX7_plan 13 = .ok (.ifCond .eq 6, 3) := by decide +kernel
theorem dX7_plan_16 : decode cX7_plan 16 = .ok (.iload 7, 2) := by decide +kernel
theorem dX7_plan_18 : decode cX7_plan 18 = .ok (.ireturn, 1) := by decide +kernel
theorem dX7_plan_19 : decode cX7_plan 19 = .ok (.iload 5, 2) := by decide +kernel
theorem dX7_plan_21 : decode cX7_plan 21 = .ok (.invokestatic 156, 3) := by decide +kernel
theorem dX7_plan_24 : decode cX7_plan 24 = .ok (.ifCond .eq 14, 3) := by decide +kernel
theorem dX7_plan_27 : decode cX7_plan 27 = .ok (.iload 6, 2) := by decide +kernel
theorem dX7_plan_29 : decode cX7_plan 29 = .ok (.iconst 1, 1) := by decide +kernel
theorem dX7_plan_30 : decode cX7_plan 30 = .ok (.bipush 99, 2) := by decide +kernel
theorem dX7_plan_32 : decode cX7_plan 32 = .ok (.invokestatic 137, 3) := by decide +kernel
theorem dX7_plan_35 : decode cX7_plan 35 = .ok (.ifCond .ne 6, 3) := by decide +kernel
theorem dX7_plan_38 : decode cX7_plan 38 = .ok (.bipush (-102), 2) := by decide +kernel
theorem dX7_plan_40 : decode cX7_plan 40 = .ok (.ireturn, 1) := by decide +kernel
theorem dX7_plan_41 : decode cX7_plan 41 = .ok (.aload_n 0, 1) := by decide +kernel
theorem dX7_plan_42 : decode cX7_plan 42 = .ok (.iload_n 1, 1) := by decide +kernel
theorem dX7_plan_43 : decode cX7_plan 43 = .ok (.iload_n 2, 1) := by decide +kernel
theorem dX7_plan_44 : decode cX7_plan 44 = .ok (.iload_n 3, 1) := by decide +kernel
theorem dX7_plan_45 : decode cX7_plan 45 = .ok (.iload 4, 2) := by decide +kernel
theorem dX7_plan_47 : decode cX7_plan 47 = .ok (.iload 5, 2) := by decide +kernel
theorem dX7_plan_49 : decode cX7_plan 49 = .ok (.invokevirtual 246, 3) := by decide +kernel
theorem dX7_plan_52 : decode cX7_plan 52 = .ok (.aload_n 0, 1) := by decide +kernel
theorem dX7_plan_53 : decode cX7_plan 53 = .ok (.invokevirtual 259, 3) := by decide +kernel
theorem dX7_plan_56 : decode cX7_plan 56 = .ok (.istore 8, 2) := by decide +kernel
theorem dX7_plan_58 : decode cX7_plan 58 = .ok (.iconst (-1), 1) := by decide +kernel
theorem dX7_plan_59 : decode cX7_plan 59 = .ok (.istore 9, 2) := by decide +kernel
theorem dX7_plan_61 : decode cX7_plan 61 = .ok (.iconst 0, 1) := by decide +kernel
theorem dX7_plan_62 : decode cX7_plan 62 = .ok (.istore 10, 2) := by decide +kernel
theorem dX7_plan_64 : decode cX7_plan 64 = .ok (.iconst 0, 1) := by decide +kernel
theorem dX7_plan_65 : decode cX7_plan 65 = .ok (.istore 11, 2) := by decide +kernel
theorem dX7_plan_67 : decode cX7_plan 67 = .ok (.iload 11, 2) := by decide +kernel
theorem dX7_plan_69 : decode cX7_plan 69 = .ok (.iconst 3, 1) := by decide +kernel
theorem dX7_plan_70 : decode cX7_plan 70 = .ok (.if_icmp .ge 38, 3) := by decide +kernel
theorem dX7_plan_73 : decode cX7_plan 73 = .ok (.aload_n 0, 1) := by decide +kernel
theorem dX7_plan_74 : decode cX7_plan 74 = .ok (.iload 8, 2) := by decide +kernel
theorem dX7_plan_76 : decode cX7_plan 76 = .ok (.iload 11, 2) := by decide +kernel
theorem dX7_plan_78 : decode cX7_plan 78 = .ok (.iconst 1, 1) := by decide +kernel
theorem dX7_plan_79 : decode cX7_plan 79 = .ok (.iadd, 1) := by decide +kernel
theorem dX7_plan_80 : decode cX7_plan 80 = .ok (.iload 6, 2) := by decide +kernel
theorem dX7_plan_82 : decode cX7_plan 82 = .ok (.invokevirtual 250, 3) := by decide +kernel
theorem dX7_plan_85 : decode cX7_plan 85 = .ok (.istore 12, 2) := by decide +kernel
theorem dX7_plan_87 : decode cX7_plan 87 = .ok (.iload 12, 2) := by decide +kernel
theorem dX7_plan_89 : decode cX7_plan 89 = .ok (.iload 9, 2) := by decide +kernel
theorem dX7_plan_91 : decode cX7_plan 91 = .ok (.if_icmp .le 11, 3) := by decide +kernel
theorem dX7_plan_94 : decode cX7_plan 94 = .ok (.iload 12, 2) := by decide +kernel
theorem dX7_plan_96 : decode cX7_plan 96 = .ok (.istore 9, 2) := by decide +kernel
theorem dX7_plan_98 : decode cX7_plan 98 = .ok (.iload 11, 2) := by decide +kernel
theorem dX7_plan_100 : decode cX7_plan 100 = .ok (.istore 10, 2) := by decide +kernel
theorem dX7_plan_102 : decode cX7_plan 102 = .ok (.iinc 11 1, 3) := by decide +kernel
theorem dX7_plan_105 : decode cX7_plan 105 = .ok (.goto (-38), 3) := by decide +kernel
theorem dX7_plan_108 : decode cX7_plan 108 = .ok (.iload 10, 2) := by decide +kernel
theorem dX7_plan_110 : decode cX7_plan 110 = .ok (.ireturn, 1) := by decide +kernel
theorem dX7_stays_0 : decode cX7_stays 0 = .ok (.iload_n 3, 1) := by decide +kernel
theorem dX7_stays_1 : decode cX7_stays 1 = .ok (.iconst 0, 1) := by decide +kernel
theorem dX7_stays_2 : decode cX7_stays 2 = .ok (.bipush 9, 2) := by decide +kernel
theorem dX7_stays_4 : decode cX7_stays 4 = .ok (.invokestatic 137, 3) := by decide +kernel
theorem dX7_stays_7 : decode cX7_stays 7 = .ok (.ifCond .eq 28, 3) := by decide +kernel
theorem dX7_stays_10 : decode cX7_stays 10 = .ok (.iload 4, 2) := by decide +kernel
theorem dX7_stays_12 : decode cX7_stays 12 = .ok (.iconst 0, 1) := by decide +kernel
theorem dX7_stays_13 : decode cX7_stays 13 = .ok (.bipush 15, 2) := by decide +kernel
theorem dX7_stays_15 : decode cX7_stays 15 = .ok (.invokestatic 137, 3) := by decide +kernel
theorem dX7_stays_18 : decode cX7_stays 18 = .ok (.ifCond .eq 17, 3) := by decide +kernel
theorem dX7_stays_21 : decode cX7_stays 21 = .ok (.iload 5, 2) := by decide +kernel
theorem dX7_stays_23 : decode cX7_stays 23 = .ok (.iconst 0, 1) := by decide +kernel
theorem dX7_stays_24 : decode cX7_stays 24 = .ok (.iconst 1, 1) := by decide +kernel
theorem dX7_stays_25 : decode cX7_stays 25 = .ok (.invokestatic 137, 3) := by decide +kernel
theorem dX7_stays_28 : decode cX7_stays 28 = .ok (.ifCond .eq 7, 3) := by decide +kernel
theorem dX7_stays_31 : decode cX7_stays 31 = .ok (.iconst 1, 1) := by decide +kernel
theorem dX7_stays_32 : decode cX7_stays 32 = .ok (.goto 4, 3) := by decide +kernel
theorem dX7_stays_35 : decode cX7_stays 35 = .ok (.iconst 0, 1) := by decide +kernel
theorem dX7_stays_36 : decode cX7_stays 36 = .ok (.istore 6, 2) := by decide +kernel
theorem dX7_stays_38 : decode cX7_stays 38 = .ok (.aload_n 0, 1) := by decide +kernel
theorem dX7_stays_39 : decode cX7_stays 39 = .ok (.iload_n 1, 1) := by decide +kernel
theorem dX7_stays_40 : decode cX7_stays 40 = .ok (.iload_n 2, 1) := by decide +kernel
theorem dX7_stays_41 : decode cX7_stays 41 = .ok (.iload 6, 2) := by decide +kernel
theorem dX7_stays_43 : decode cX7_stays 43 = .ok (.invokevirtual 144, 3) := by decide +kernel
theorem dX7_stays_46 : decode cX7_stays 46 = .ok (.istore 7, 2) := by decide +kernel
theorem dX7_stays_48 : decode cX7_stays 48 = .ok (.iload 7, 2) := by decide +kernel
theorem dX7_stays_50 : decode cX7_stays 50 = .ok (.ifCond .eq 7, 3) := by decide +kernel
theorem dX7_stays_53 : decode cX7_stays 53 = .ok (.iload 7, 2) := by decide +kernel
theorem dX7_stays_55 : decode cX7_stays 55 = .ok (.i2l, 1) := by decide +kernel
theorem dX7_stays_56 : decode cX7_stays 56 = .ok (.lreturn, 1) := by decide +kernel
theorem dX7_stays_57 : decode cX7_stays 57 = .ok (.aload_n 0, 1) := by decide +kernel
theorem dX7_stays_58 : decode cX7_stays 58 = .ok (.iload_n 1, 1) := by decide +kernel
theorem dX7_stays_59 : decode cX7_stays 59 = .ok (.iload_n 2, 1) := by decide +kernel
theorem dX7_stays_60 : decode cX7_stays 60 = .ok (.invokevirtual 148, 3) := by decide +kernel
theorem dX7_stays_63 : decode cX7_stays 63 = .ok (.aload_n 0, 1) := by decide +kernel
theorem dX7_stays_64 : decode cX7_stays 64 = .ok (.iload_n 3, 1) := by decide +kernel
theorem dX7_stays_65 : decode cX7_stays 65 = .ok (.invokevirtual 262, 3) := by decide +kernel
theorem dX7_stays_68 : decode cX7_stays 68 = .ok (.aload_n 0, 1) := by decide +kernel
theorem dX7_stays_69 : decode cX7_stays 69 = .ok (.iload 4, 2) := by decide +kernel
theorem dX7_stays_71 : decode cX7_stays 71 = .ok (.invokevirtual 265, 3) := by decide +kernel
theorem dX7_stays_74 : decode cX7_stays 74 = .ok (.ldc2_w 269, 3) := by decide +kernel
theorem dX7_stays_77 : decode cX7_stays 77 = .ok (.iload 5, 2) := by decide +kernel
theorem dX7_stays_79 : decode cX7_stays 79 = .ok (.invokestatic 255, 3) := by decide +kernel
theorem dX7_stays_82 : decode cX7_stays 82 = .ok (.lreturn, 1) := by decide +kernel
theorem dX7_straw_0 : decode cX7_straw 0 = .ok (.aload_n 0, 1) := by decide +kernel
theorem dX7_straw_1 : decode cX7_straw 1 = .ok (.iload_n 1, 1) := by decide +kernel
theorem dX7_straw_2 : decode cX7_straw 2 = .ok (.iload_n 2, 1) := by decide +kernel
theorem dX7_straw_3 : decode cX7_straw 3 = .ok (.iload_n 3, 1) := by decide +kernel
theorem dX7_straw_4 : decode cX7_straw 4 = .ok (.iconst 0, 1) := by decide +kernel
theorem dX7_straw_5 : decode cX7_straw 5 = .ok (.bipush 9, 2) := by decide +kernel
theorem dX7_straw_7 : decode cX7_straw 7 = .ok (.invokestatic 137, 3) := by decide +kernel
theorem dX7_straw_10 : decode cX7_straw 10 = .ok (.ifCond .eq 17, 3) := by decide +kernel
theorem dX7_straw_13 : decode cX7_straw 13 = .ok (.iload 4, 2) := by decide +kernel
theorem dX7_straw_15 : decode cX7_straw 15 = .ok (.iconst 1, 1) := by decide +kernel
theorem dX7_straw_16 : decode cX7_straw 16 = .ok (.iconst 4, 1) := by decide +kernel
theorem dX7_straw_17 : decode cX7_straw 17 = .ok (.invokestatic 137, 3) := by decide +kernel
theorem dX7_straw_20 : decode cX7_straw 20 = .ok (.ifCond .eq 7, 3) := by decide +kernel
theorem dX7_straw_23 : decode cX7_straw 23 = .ok (.iconst 1, 1) := by decide +kernel
theorem dX7_straw_24 : decode cX7_straw 24 = .ok (.goto 4, 3) := by decide +kernel
theorem dX7_straw_27 : decode cX7_straw 27 = .ok (.iconst 0, 1) := by decide +kernel
theorem dX7_straw_28 : decode cX7_straw 28 = .ok (.invokevirtual 144, 3) := by decide +kernel
theorem dX7_straw_31 : decode cX7_straw 31 = .ok (.istore 5, 2) := by decide +kernel
theorem dX7_straw_33 : decode cX7_straw 33 = .ok (.iload 5, 2) := by decide +kernel
theorem dX7_straw_35 : decode cX7_straw 35 = .ok (.ifCond .eq 6, 3) := by decide +kernel
theorem dX7_straw_38 : decode cX7_straw 38 = .ok (.iload 5, 2) := by decide +kernel
theorem dX7_straw_40 : decode cX7_straw 40 = .ok (.ireturn, 1) := by decide +kernel
theorem dX7_straw_41 : decode cX7_straw 41 = .ok (.aload_n 0, 1) := by decide +kernel
theorem dX7_straw_42 : decode cX7_straw 42 = .ok (.getfield 19, 3) := by decide +kernel
theorem dX7_straw_45 : decode cX7_straw 45 = .ok (.invokevirtual 271, 3) := by decide +kernel
theorem dX7_straw_48 : decode cX7_straw 48 = .ok (.istore 6, 2) := by decide +kernel
theorem dX7_straw_50 : decode cX7_straw 50 = .ok (.iload 6, 2) := by decide +kernel
theorem dX7_straw_52 : decode cX7_straw 52 = .ok (.iload 4, 2) := by decide +kernel
theorem dX7_straw_54 : decode cX7_straw 54 = .ok (.if_icmp .ge 6, 3) := by decide +kernel
theorem dX7_straw_57 : decode cX7_straw 57 = .ok (.bipush (-103), 2) := by decide +kernel
theorem dX7_straw_59 : decode cX7_straw 59 = .ok (.ireturn, 1) := by decide +kernel
theorem dX7_straw_60 : decode cX7_straw 60 = .ok (.aload_n 0, 1) := by decide +kernel
theorem dX7_straw_61 : decode cX7_straw 61 = .ok (.iload_n 1, 1) := by decide +kernel
theorem dX7_straw_62 : decode cX7_straw 62 = .ok (.iload_n 2, 1) := by decide +kernel
theorem dX7_straw_63 : decode cX7_straw 63 = .ok (.invokevirtual 148, 3) := by decide +kernel
theorem dX7_straw_66 : decode cX7_straw 66 = .ok (.aload_n 0, 1) := by decide +kernel
theorem dX7_straw_67 : decode cX7_straw 67 = .ok (.iload_n 3, 1) := by decide +kernel
theorem dX7_straw_68 : decode cX7_straw 68 = .ok (.invokevirtual 262, 3) := by decide +kernel
theorem dX7_straw_71 : decode cX7_straw 71 = .ok (.ldc2_w 274, 3) := by decide +kernel
theorem dX7_straw_74 : decode cX7_straw 74 = .ok (.lstore 7, 2) := by decide +kernel
theorem dX7_straw_76 : decode cX7_straw 76 = .ok (.iconst 0, 1) := by decide +kernel
theorem dX7_straw_77 : decode cX7_straw 77 = .ok (.istore 9, 2) := by decide +kernel
theorem dX7_straw_79 : decode cX7_straw 79 = .ok (.iconst 1, 1) := by decide +kernel
theorem dX7_straw_80 : decode cX7_straw 80 = .ok (.istore 10, 2) := by decide +kernel
theorem dX7_straw_82 : decode cX7_straw 82 = .ok (.iload 10, 2) := by decide +kernel
theorem dX7_straw_84 : decode cX7_straw 84 = .ok (.iconst 1, 1) := by decide +kernel
theorem dX7_straw_85 : decode cX7_straw 85 = .ok (.iload 6, 2) := by decide +kernel
theorem dX7_straw_87 : decode cX7_straw 87 = .ok (.iconst 4, 1) := by decide +kernel
theorem dX7_straw_88 : decode cX7_straw 88 = .ok (.invokestatic 276, 3) := by decide +kernel
theorem dX7_straw_91 : decode cX7_straw 91 = .ok (.ishl, 1) := by decide +kernel
theorem dX7_straw_92 : decode cX7_straw 92 = .ok (.if_icmp .ge 43, 3) := by decide +kernel
theorem dX7_straw_95 : decode cX7_straw 95 = .ok (.iload 10, 2) := by decide +kernel
theorem dX7_straw_97 : decode cX7_straw 97 = .ok (.invokestatic 281, 3) := by decide +kernel
theorem dX7_straw_100 : decode cX7_straw 100 = .ok (.iload 4, 2) := by decide +kernel
theorem dX7_straw_102 : decode cX7_straw 102 = .ok (.if_icmp .ne 27, 3) := by decide +kernel
theorem dX7_straw_105 : decode cX7_straw 105 = .ok (.aload_n 0, 1) := by decide +kernel
theorem dX7_straw_106 : decode cX7_straw 106 = .ok (.iload 10, 2) := by decide +kernel
theorem dX7_straw_108 : decode cX7_straw 108 = .ok (.invokevirtual 265, 3) := by decide +kernel
theorem dX7_straw_111 : decode cX7_straw 111 = .ok (.lload 7, 2) := by decide +kernel
theorem dX7_straw_113 : decode cX7_straw 113 = .ok (.lcmp, 1) := by decide +kernel
theorem dX7_straw_114 : decode cX7_straw 114 = .ok (.ifCond .le 15, 3) := by decide +kernel
theorem dX7_straw_117 : decode cX7_straw 117 = .ok (.aload_n 0, 1) := by decide +kernel
theorem dX7_straw_118 : decode cX7_straw 118 = .ok (.iload 10, 2) := by decide +kernel
theorem dX7_straw_120 : decode cX7_straw 120 = .ok (.invokevirtual 265, 3) := by decide +kernel
theorem dX7_straw_123 : decode cX7_straw 123 = .ok (.lstore 7, 2) := by decide +kernel
theorem dX7_straw_125 : decode cX7_straw 125 = .ok (.iload 10, 2) := by decide +kernel
theorem dX7_straw_127 : decode cX7_straw 127 = .ok (.istore 9, 2) := by decide +kernel
theorem dX7_straw_129 : decode cX7_straw 129 = .ok (.iinc 10 1, 3) := by decide +kernel
theorem dX7_straw_132 : decode cX7_straw 132 = .ok (.goto (-50), 3) := by decide +kernel
theorem dX7_straw_135 : decode cX7_straw 135 = .ok (.iload 9, 2) := by decide +kernel
theorem dX7_straw_137 : decode cX7_straw 137 = .ok (.ireturn, 1) := by decide +kernel
theorem dX7_image_0 : decode cX7_image 0 = .ok (.aload_n 0, 1) := by decide +kernel
theorem dX7_image_1 : decode cX7_image 1 = .ok (.getfield 19, 3) := by decide +kernel
theorem dX7_image_4 : decode cX7_image 4 = .ok (.getfield 100, 3) := by decide +kernel
theorem dX7_image_7 : decode cX7_image 7 = .ok (.ifCond .ne 6, 3) := by decide +kernel
theorem dX7_image_10 : decode cX7_image 10 = .ok (.bipush (-103), 2) := by decide +kernel
theorem dX7_image_12 : decode cX7_image 12 = .ok (.ireturn, 1) := by decide +kernel
theorem dX7_image_13 : decode cX7_image 13 = .ok (.aload_n 0, 1) := by decide +kernel
theorem dX7_image_14 : decode cX7_image 14 = .ok (.getfield 40, 3) := by decide +kernel
theorem dX7_image_17 : decode cX7_image 17 = .ok (.aload_n 0, 1) := by decide +kernel
theorem dX7_image_18 : decode cX7_image 18 = .ok (.getfield 19, 3) := by decide +kernel
theorem dX7_image_21 : decode cX7_image 21 = .ok (.getfield 286, 3) := by decide +kernel
theorem dX7_image_24 : decode cX7_image 24 = .ok (.putfield 289, 3) := by decide +kernel
theorem dX7_image_27 : decode cX7_image 27 = .ok (.aload_n 0, 1) := by decide +kernel
theorem dX7_image_28 : decode cX7_image 28 = .ok (.getfield 40, 3) := by decide +kernel
theorem dX7_image_31 : decode cX7_image 31 = .ok (.aload_n 0, 1) := by decide +kernel
theorem dX7_image_32 : decode cX7_image 32 = .ok (.getfield 71, 3) := by decide +kernel
theorem dX7_image_35 : decode cX7_image 35 = .ok (.putfield 292, 3) := by decide +kernel
theorem dX7_image_38 : decode cX7_image 38 = .ok (.aload_n 0, 1) := by decide +kernel
theorem dX7_image_39 : decode cX7_image 39 = .ok (.getfield 40, 3) := by decide +kernel
theorem dX7_image_42 : decode cX7_image 42 = .ok (.aload_n 0, 1) := by decide +kernel
theorem dX7_image_43 : decode cX7_image 43 = .ok (.getfield 67, 3) := by decide +kernel
theorem dX7_image_46 : decode cX7_image 46 = .ok (.putfield 293, 3) := by decide +kernel
theorem dX7_image_49 : decode cX7_image 49 = .ok (.iconst 0, 1) := by decide +kernel
theorem dX7_image_50 : decode cX7_image 50 = .ok (.istore_n 1, 1) := by decide +kernel
theorem dX7_image_51 : decode cX7_image 51 = .ok (.iload_n 1, 1) := by decide +kernel
theorem dX7_image_52 : decode cX7_image 52 = .ok (.aload_n 0, 1) := by decide +kernel
theorem dX7_image_53 : decode cX7_image 53 = .ok (.getfield 67, 3) := by decide +kernel
theorem dX7_image_56 : decode cX7_image 56 = .ok (.if_icmp .ge 27, 3) := by decide +kernel
theorem dX7_image_59 : decode cX7_image 59 = .ok (.aload_n 0, 1) := by decide +kernel
theorem dX7_image_60 : decode cX7_image 60 = .ok (.getfield 40, 3) := by decide +kernel
theorem dX7_image_63 : decode cX7_image 63 = .ok (.getfield 294, 3) := by decide +kernel
theorem dX7_image_66 : decode cX7_image 66 = .ok (.iload_n 1, 1) := by decide +kernel
theorem dX7_image_67 : decode cX7_image 67 = .ok (.aload_n 0, 1) := by decide +kernel
theorem dX7_image_68 : decode cX7_image 68 = .ok (.getfield 25, 3) := by decide +kernel
theorem dX7_image_71 : decode cX7_image 71 = .ok (.iload_n 1, 1) := by decide +kernel
theorem dX7_image_72 : decode cX7_image 72 = .ok (.aaload, 1) := by decide +kernel
theorem dX7_image_73 : decode cX7_image 73 = .ok (.getfield 123, 3) := by decide +kernel
theorem dX7_image_76 : decode cX7_image 76 = .ok (.iastore, 1) := by decide +kernel
theorem dX7_image_77 : decode cX7_image 77 = .ok (.iinc 1 1, 3) := by decide +kernel
theorem dX7_image_80 : decode cX7_image 80 = .ok (.goto (-29), 3) := by decide +kernel
theorem dX7_image_83 : decode cX7_image 83 = .ok (.aload_n 0, 1) := by decide +kernel
theorem dX7_image_84 : decode cX7_image 84 = .ok (.getfield 19, 3) := by decide +kernel
theorem dX7_image_87 : decode cX7_image 87 = .ok (.getfield 118, 3) := by decide +kernel
theorem dX7_image_90 : decode cX7_image 90 = .ok (.iconst 0, 1) := by decide +kernel
theorem dX7_image_91 : decode cX7_image 91 = .ok (.aload_n 0, 1) := by decide +kernel
theorem dX7_image_92 : decode cX7_image 92 = .ok (.getfield 40, 3) := by decide +kernel
theorem dX7_image_95 : decode cX7_image 95 = .ok (.getfield 297, 3) := by decide +kernel
theorem dX7_image_98 : decode cX7_image 98 = .ok (.iconst 0, 1) := by decide +kernel
theorem dX7_image_99 : decode cX7_image 99 = .ok (.bipush 12, 2) := by decide +kernel
theorem dX7_image_101 : decode cX7_image 101 = .ok (.invokestatic 298, 3) := by decide +kernel
theorem dX7_image_104 : decode cX7_image 104 = .ok (.aload_n 0, 1) := by decide +kernel
theorem dX7_image_105 : decode cX7_image 105 = .ok (.getfield 40, 3) := by decide +kernel
theorem dX7_image_108 : decode cX7_image 108 = .ok (.getfield 304, 3) := by decide +kernel
theorem dX7_image_111 : decode cX7_image 111 = .ok (.aload_n 0, 1) := by decide +kernel
theorem dX7_image_112 : decode cX7_image 112 = .ok (.getfield 33, 3) := by decide +kernel
theorem dX7_image_115 : decode cX7_image 115 = .ok (.invokevirtual 305, 3) := by decide +kernel
theorem dX7_image_118 : decode cX7_image 118 = .ok (.aload_n 0, 1) := by decide +kernel
theorem dX7_image_119 : decode cX7_image 119 = .ok (.getfield 67, 3) := by decide +kernel
theorem dX7_image_122 : decode cX7_image 122 = .ok (.ireturn, 1) := by decide +kernel
theorem dX7_restore_0 : decode cX7_restore 0 = .ok (.aload_n 0, 1) := by decide +kernel
theorem dX7_restore_1 : decode cX7_restore 1 = .ok (.getfield 40, 3) := by decide +kernel
theorem dX7_restore_4 : decode cX7_restore 4 = .ok (.getfield 289, 3) := by decide +kernel
theorem dX7_restore_7 : decode cX7_restore 7 = .ok (.ifCond .eq 20, 3) := by decide +kernel
theorem dX7_restore_10 : decode cX7_restore 10 = .ok (.aload_n 0, 1) := by decide +kernel
theorem dX7_restore_11 : decode cX7_restore 11 = .ok (.getfield 40, 3) := by decide +kernel
theorem dX7_restore_14 : decode cX7_restore 14 = .ok (.getfield 289, 3) := by decide +kernel
theorem dX7_restore_17 : decode cX7_restore 17 = .ok (.aload_n 0, 1) := by decide +kernel
theorem dX7_restore_18 : decode cX7_restore 18 = .ok (.getfield 19, 3) := by decide +kernel
theorem dX7_restore_21 : decode cX7_restore 21 = .ok (.getfield 286, 3) := by decide +kernel
theorem dX7_restore_24 : decode cX7_restore 24 = .ok (.if_icmp .eq 6, 3) := by decide +kernel
theorem dX7_restore_27 : decode cX7_restore 27 = .ok (.bipush (-103), 2) := by decide +kernel
theorem dX7_restore_29 : decode cX7_restore 29 = .ok (.ireturn, 1) := by decide +kernel
theorem dX7_restore_30 : decode cX7_restore 30 = .ok (.aload_n 0, 1) := by decide +kernel
theorem dX7_restore_31 : decode cX7_restore 31 = .ok (.aload_n 0, 1) := by decide +kernel
theorem dX7_restore_32 : decode cX7_restore 32 = .ok (.getfield 40, 3) := by decide +kernel
theorem dX7_restore_35 : decode cX7_restore 35 = .ok (.getfield 292, 3) := by decide +kernel
theorem dX7_restore_38 : decode cX7_restore 38 = .ok (.putfield 71, 3) := by decide +kernel
theorem dX7_restore_41 : decode cX7_restore 41 = .ok (.iconst 0, 1) := by decide +kernel
theorem dX7_restore_42 : decode cX7_restore 42 = .ok (.istore_n 1, 1) := by decide +kernel
theorem dX7_restore_43 : decode cX7_restore 43 = .ok (.iload_n 1, 1) := by decide +kernel
theorem dX7_restore_44 : decode cX7_restore 44 = .ok (.aload_n 0, 1) := by decide +kernel
theorem dX7_restore_45 : decode cX7_restore 45 = .ok (.getfield 40, 3) := by decide +kernel
theorem dX7_restore_48 : decode cX7_restore 48 = .ok (.getfield 293, 3) := by decide +kernel
theorem dX7_restore_51 : decode cX7_restore 51 = .ok (.if_icmp .ge 27, 3) := by decide +kernel
theorem dX7_restore_54 : decode cX7_restore 54 = .ok (.aload_n 0, 1) := by decide +kernel
theorem dX7_restore_55 : decode cX7_restore 55 = .ok (.getfield 25, 3) := by decide +kernel
theorem dX7_restore_58 : decode cX7_restore 58 = .ok (.iload_n 1, 1) := by decide +kernel
theorem dX7_restore_59 : decode cX7_restore 59 = .ok (.aaload, 1) := by decide +kernel
theorem dX7_restore_60 : decode cX7_restore 60 = .ok (.aload_n 0, 1) := by decide +kernel
theorem dX7_restore_61 : decode cX7_restore 61 = .ok (.getfield 40, 3) := by decide +kernel
theorem dX7_restore_64 : decode cX7_restore 64 = .ok (.getfield 294, 3) := by decide +kernel
theorem dX7_restore_67 : decode cX7_restore 67 = .ok (.iload_n 1, 1) := by decide +kernel
theorem dX7_restore_68 : decode cX7_restore 68 = .ok (.iaload, 1) := by decide +kernel
theorem dX7_restore_69 : decode cX7_restore 69 = .ok (.putfield 123, 3) := by decide +kernel
theorem dX7_restore_72 : decode cX7_restore 72 = .ok (.iinc 1 1, 3) := by decide +kernel
theorem dX7_restore_75 : decode cX7_restore 75 = .ok (.goto (-32), 3) := by decide +kernel
theorem dX7_restore_78 : decode cX7_restore 78 = .ok (.aload_n 0, 1) := by decide +kernel
theorem dX7_restore_79 : decode cX7_restore 79 = .ok (.getfield 40, 3) := by decide +kernel
theorem dX7_restore_82 : decode cX7_restore 82 = .ok (.getfield 297, 3) := by decide +kernel
theorem dX7_restore_85 : decode cX7_restore 85 = .ok (.iconst 0, 1) := by decide +kernel
theorem dX7_restore_86 : decode cX7_restore 86 = .ok (.aload_n 0, 1) := by decide +kernel
theorem dX7_restore_87 : decode cX7_restore 87 = .ok (.getfield 19, 3) := by decide +kernel
theorem dX7_restore_90 : decode cX7_restore 90 = .ok (.getfield 118, 3) := by decide +kernel
theorem dX7_restore_93 : decode cX7_restore 93 = .ok (.iconst 0, 1) := by decide +kernel
theorem dX7_restore_94 : decode cX7_restore 94 = .ok (.bipush 12, 2) := by decide +kernel
theorem dX7_restore_96 : decode cX7_restore 96 = .ok (.invokestatic 298, 3) := by decide +kernel
theorem dX7_restore_99 : decode cX7_restore 99 = .ok (.aload_n 0, 1) := by decide +kernel
theorem dX7_restore_100 : decode cX7_restore 100 = .ok (.getfield 33, 3) := by decide +kernel
theorem dX7_restore_103 : decode cX7_restore 103 = .ok (.aload_n 0, 1) := by decide +kernel
theorem dX7_restore_104 : decode cX7_restore 104 = .ok (.getfield 40, 3) := by decide +kernel
theorem dX7_restore_107 : decode cX7_restore 107 = .ok (.getfield 304, 3) := by decide +kernel
theorem dX7_restore_110 : decode cX7_restore 110 = .ok (.invokevirtual 305, 3) := by decide +kernel
theorem dX7_restore_113 : decode cX7_restore 113 = .ok (.aload_n 0, 1) := by decide +kernel
theorem dX7_restore_114 : decode cX7_restore 114 = .ok (.getfield 67, 3) := by decide +kernel
theorem dX7_restore_117 : decode cX7_restore 117 = .ok (.ireturn, 1) := by decide +kernel
theorem dX7_count_0 : decode cX7_count 0 = .ok (.iload_n 1, 1) := by decide +kernel
theorem dX7_count_1 : decode cX7_count 1 = .ok (.tableswitch 93 0 6 #[43, 51, 59, 64, 72, 80, 88], 43) := by decide +kernel
theorem dX7_count_44 : decode cX7_count 44 = .ok (.aload_n 0, 1) := by decide +kernel
theorem dX7_count_45 : decode cX7_count 45 = .ok (.getfield 19, 3) := by decide +kernel
theorem dX7_count_48 : decode cX7_count 48 = .ok (.getfield 100, 3) := by decide +kernel
theorem dX7_count_51 : decode cX7_count 51 = .ok (.ireturn, 1) := by decide +kernel
theorem dX7_count_52 : decode cX7_count 52 = .ok (.aload_n 0, 1) := by decide +kernel
theorem dX7_count_53 : decode cX7_count 53 = .ok (.getfield 19, 3) := by decide +kernel
theorem dX7_count_56 : decode cX7_count 56 = .ok (.invokevirtual 271, 3) := by decide +kernel
theorem dX7_count_59 : decode cX7_count 59 = .ok (.ireturn, 1) := by decide +kernel
theorem dX7_count_60 : decode cX7_count 60 = .ok (.aload_n 0, 1) := by decide +kernel
theorem dX7_count_61 : decode cX7_count 61 = .ok (.getfield 67, 3) := by decide +kernel
theorem dX7_count_64 : decode cX7_count 64 = .ok (.ireturn, 1) := by decide +kernel
theorem dX7_count_65 : decode cX7_count 65 = .ok (.aload_n 0, 1) := by decide +kernel
theorem dX7_count_66 : decode cX7_count 66 = .ok (.getfield 33, 3) := by decide +kernel
theorem dX7_count_69 : decode cX7_count 69 = .ok (.getfield 229, 3) := by decide +kernel
theorem dX7_count_72 : decode cX7_count 72 = .ok (.ireturn, 1) := by decide +kernel
theorem dX7_count_73 : decode cX7_count 73 = .ok (.aload_n 0, 1) := by decide +kernel
theorem dX7_count_74 : decode cX7_count 74 = .ok (.getfield 12, 3) := by decide +kernel
theorem dX7_count_77 : decode cX7_count 77 = .ok (.getfield 78, 3) := by decide +kernel
theorem dX7_count_80 : decode cX7_count 80 = .ok (.ireturn, 1) := by decide +kernel
theorem dX7_count_81 : decode cX7_count 81 = .ok (.aload_n 0, 1) := by decide +kernel
theorem dX7_count_82 : decode cX7_count 82 = .ok (.getfield 19, 3) := by decide +kernel
theorem dX7_count_85 : decode cX7_count 85 = .ok (.getfield 286, 3) := by decide +kernel
theorem dX7_count_88 : decode cX7_count 88 = .ok (.ireturn, 1) := by decide +kernel
theorem dX7_count_89 : decode cX7_count 89 = .ok (.aload_n 0, 1) := by decide +kernel
theorem dX7_count_90 : decode cX7_count 90 = .ok (.getfield 71, 3) := by decide +kernel
theorem dX7_count_93 : decode cX7_count 93 = .ok (.ireturn, 1) := by decide +kernel
theorem dX7_count_94 : decode cX7_count 94 = .ok (.bipush (-102), 2) := by decide +kernel
theorem dX7_count_96 : decode cX7_count 96 = .ok (.ireturn, 1) := by decide +kernel
theorem dX7_digest_0 : decode cX7_digest 0 = .ok (.ldc2_w 309, 3) := by decide +kernel
theorem dX7_digest_3 : decode cX7_digest 3 = .ok (.lstore_n 1, 1) := by decide +kernel
theorem dX7_digest_4 : decode cX7_digest 4 = .ok (.iconst 0, 1) := by decide +kernel
theorem dX7_digest_5 : decode cX7_digest 5 = .ok (.istore_n 3, 1) := by decide +kernel
theorem dX7_digest_6 : decode cX7_digest 6 = .ok (.iload_n 3, 1) := by decide +kernel
theorem dX7_digest_7 : decode cX7_digest 7 = .ok (.aload_n 0, 1) := by decide +kernel
theorem dX7_digest_8 : decode cX7_digest 8 = .ok (.getfield 19, 3) := by decide +kernel
theorem dX7_digest_11 : decode cX7_digest 11 = .ok (.getfield 100, 3) := by decide +kernel
theorem dX7_digest_14 : decode cX7_digest 14 = .ok (.if_icmp .ge 36, 3) := by decide +kernel
theorem dX7_digest_17 : decode cX7_digest 17 = .ok (.iconst 0, 1) := by decide +kernel
theorem dX7_digest_18 : decode cX7_digest 18 = .ok (.istore 4, 2) := by decide +kernel
theorem dX7_digest_20 : decode cX7_digest 20 = .ok (.iload 4, 2) := by decide +kernel
theorem dX7_digest_22 : decode cX7_digest 22 = .ok (.iconst 3, 1) := by decide +kernel
theorem dX7_digest_23 : decode cX7_digest 23 = .ok (.if_icmp .gt 21, 3) := by decide +kernel
theorem dX7_digest_26 : decode cX7_digest 26 = .ok (.lload_n 1, 1) := by decide +kernel
theorem dX7_digest_27 : decode cX7_digest 27 = .ok (.aload_n 0, 1) := by decide +kernel
theorem dX7_digest_28 : decode cX7_digest 28 = .ok (.iload_n 3, 1) := by decide +kernel
theorem dX7_digest_29 : decode cX7_digest 29 = .ok (.iload 4, 2) := by decide +kernel
theorem dX7_digest_31 : decode cX7_digest 31 = .ok (.invokevirtual 311, 3) := by decide +kernel
theorem dX7_digest_34 : decode cX7_digest 34 = .ok (.invokestatic 314, 3) := by decide +kernel
theorem dX7_digest_37 : decode cX7_digest 37 = .ok (.lstore_n 1, 1) := by decide +kernel
theorem dX7_digest_38 : decode cX7_digest 38 = .ok (.iinc 4 1, 3) := by decide +kernel
theorem dX7_digest_41 : decode cX7_digest 41 = .ok (.goto (-21), 3) := by decide +kernel
theorem dX7_digest_44 : decode cX7_digest 44 = .ok (.iinc 3 1, 3) := by decide +kernel
theorem dX7_digest_47 : decode cX7_digest 47 = .ok (.goto (-41), 3) := by decide +kernel
theorem dX7_digest_50 : decode cX7_digest 50 = .ok (.iconst 0, 1) := by decide +kernel
theorem dX7_digest_51 : decode cX7_digest 51 = .ok (.istore_n 3, 1) := by decide +kernel
theorem dX7_digest_52 : decode cX7_digest 52 = .ok (.iload_n 3, 1) := by decide +kernel
theorem dX7_digest_53 : decode cX7_digest 53 = .ok (.aload_n 0, 1) := by decide +kernel
theorem dX7_digest_54 : decode cX7_digest 54 = .ok (.getfield 67, 3) := by decide +kernel
theorem dX7_digest_57 : decode cX7_digest 57 = .ok (.if_icmp .ge 16, 3) := by decide +kernel
theorem dX7_digest_60 : decode cX7_digest 60 = .ok (.aload_n 0, 1) := by decide +kernel
theorem dX7_digest_61 : decode cX7_digest 61 = .ok (.lload_n 1, 1) := by decide +kernel
theorem dX7_digest_62 : decode cX7_digest 62 = .ok (.iload_n 3, 1) := by decide +kernel
theorem dX7_digest_63 : decode cX7_digest 63 = .ok (.invokevirtual 318, 3) := by decide +kernel
theorem dX7_digest_66 : decode cX7_digest 66 = .ok (.lstore_n 1, 1) := by decide +kernel
theorem dX7_digest_67 : decode cX7_digest 67 = .ok (.iinc 3 1, 3) := by decide +kernel
theorem dX7_digest_70 : decode cX7_digest 70 = .ok (.goto (-18), 3) := by decide +kernel
theorem dX7_digest_73 : decode cX7_digest 73 = .ok (.iconst 0, 1) := by decide +kernel
theorem dX7_digest_74 : decode cX7_digest 74 = .ok (.istore_n 3, 1) := by decide +kernel
theorem dX7_digest_75 : decode cX7_digest 75 = .ok (.iload_n 3, 1) := by decide +kernel
theorem dX7_digest_76 : decode cX7_digest 76 = .ok (.aload_n 0, 1) := by decide +kernel
theorem dX7_digest_77 : decode cX7_digest 77 = .ok (.getfield 33, 3) := by decide +kernel
theorem dX7_digest_80 : decode cX7_digest 80 = .ok (.getfield 229, 3) := by decide +kernel
theorem dX7_digest_83 : decode cX7_digest 83 = .ok (.if_icmp .ge 51, 3) := by decide +kernel
theorem dX7_digest_86 : decode cX7_digest 86 = .ok (.lload_n 1, 1) := by decide +kernel
theorem dX7_digest_87 : decode cX7_digest 87 = .ok (.aload_n 0, 1) := by decide +kernel
theorem dX7_digest_88 : decode cX7_digest 88 = .ok (.getfield 33, 3) := by decide +kernel
theorem dX7_digest_91 : decode cX7_digest 91 = .ok (.getfield 321, 3) := by decide +kernel
theorem dX7_digest_94 : decode cX7_digest 94 = .ok (.iload_n 3, 1) := by decide +kernel
theorem dX7_digest_95 : decode cX7_digest 95 = .ok (.iaload, 1) := by decide +kernel
theorem dX7_digest_96 : decode cX7_digest 96 = .ok (.invokestatic 314, 3) := by decide +kernel
theorem dX7_digest_99 : decode cX7_digest 99 = .ok (.lstore_n 1, 1) := by decide +kernel
theorem dX7_digest_100 : decode cX7_digest 100 = .ok (.lload_n 1, 1) := by decide +kernel
theorem dX7_digest_101 : decode cX7_digest 101 = .ok (.aload_n 0, 1) := by decide +kernel
theorem dX7_digest_102 : decode cX7_digest 102 = .ok (.getfield 33, 3) := by decide +kernel
theorem dX7_digest_105 : decode cX7_digest 105 = .ok (.getfield 324, 3) := by decide +kernel
theorem dX7_digest_108 : decode cX7_digest 108 = .ok (.iload_n 3, 1) := by decide +kernel
theorem dX7_digest_109 : decode cX7_digest 109 = .ok (.iaload, 1) := by decide +kernel
theorem dX7_digest_110 : decode cX7_digest 110 = .ok (.invokestatic 314, 3) := by decide +kernel
theorem dX7_digest_113 : decode cX7_digest 113 = .ok (.lstore_n 1, 1) := by decide +kernel
theorem dX7_digest_114 : decode cX7_digest 114 = .ok (.lload_n 1, 1) := by decide +kernel
theorem dX7_digest_115 : decode cX7_digest 115 = .ok (.aload_n 0, 1) := by decide +kernel
theorem dX7_digest_116 : decode cX7_digest 116 = .ok (.getfield 33, 3) := by decide +kernel
theorem dX7_digest_119 : decode cX7_digest 119 = .ok (.getfield 327, 3) := by decide +kernel
theorem dX7_digest_122 : decode cX7_digest 122 = .ok (.iload_n 3, 1) := by decide +kernel
theorem dX7_digest_123 : decode cX7_digest 123 = .ok (.iaload, 1) := by decide +kernel
theorem dX7_digest_124 : decode cX7_digest 124 = .ok (.invokestatic 314, 3) := by decide +kernel
theorem dX7_digest_127 : decode cX7_digest 127 = .ok (.lstore_n 1, 1) := by decide +kernel
theorem dX7_digest_128 : decode cX7_digest 128 = .ok (.iinc 3 1, 3) := by decide +kernel
theorem dX7_digest_131 : decode cX7_digest 131 = .ok (.goto (-56), 3) := by decide +kernel
theorem dX7_digest_134 : decode cX7_digest 134 = .ok (.lload_n 1, 1) := by decide +kernel
theorem dX7_digest_135 : decode cX7_digest 135 = .ok (.aload_n 0, 1) := by decide +kernel
theorem dX7_digest_136 : decode cX7_digest 136 = .ok (.invokevirtual 330, 3) := by decide +kernel
theorem dX7_digest_139 : decode cX7_digest 139 = .ok (.invokestatic 314, 3) := by decide +kernel
theorem dX7_digest_142 : decode cX7_digest 142 = .ok (.lstore_n 1, 1) := by decide +kernel
theorem dX7_digest_143 : decode cX7_digest 143 = .ok (.iconst 0, 1) := by decide +kernel
theorem dX7_digest_144 : decode cX7_digest 144 = .ok (.istore_n 3, 1) := by decide +kernel
theorem dX7_digest_145 : decode cX7_digest 145 = .ok (.iload_n 3, 1) := by decide +kernel
theorem dX7_digest_146 : decode cX7_digest 146 = .ok (.aload_n 0, 1) := by decide +kernel
theorem dX7_digest_147 : decode cX7_digest 147 = .ok (.getfield 12, 3) := by decide +kernel
theorem dX7_digest_150 : decode cX7_digest 150 = .ok (.getfield 78, 3) := by decide +kernel
theorem dX7_digest_153 : decode cX7_digest 153 = .ok (.if_icmp .ge 23, 3) := by decide +kernel
theorem dX7_digest_156 : decode cX7_digest 156 = .ok (.lload_n 1, 1) := by decide +kernel
theorem dX7_digest_157 : decode cX7_digest 157 = .ok (.aload_n 0, 1) := by decide +kernel
theorem dX7_digest_158 : decode cX7_digest 158 = .ok (.getfield 12, 3) := by decide +kernel
theorem dX7_digest_161 : decode cX7_digest 161 = .ok (.getfield 333, 3) := by decide +kernel
theorem dX7_digest_164 : decode cX7_digest 164 = .ok (.iload_n 3, 1) := by decide +kernel
theorem dX7_digest_165 : decode cX7_digest 165 = .ok (.iaload, 1) := by decide +kernel
theorem dX7_digest_166 : decode cX7_digest 166 = .ok (.invokestatic 314, 3) := by decide +kernel
theorem dX7_digest_169 : decode cX7_digest 169 = .ok (.lstore_n 1, 1) := by decide +kernel
theorem dX7_digest_170 : decode cX7_digest 170 = .ok (.iinc 3 1, 3) := by decide +kernel
theorem dX7_digest_173 : decode cX7_digest 173 = .ok (.goto (-28), 3) := by decide +kernel
theorem dX7_digest_176 : decode cX7_digest 176 = .ok (.iconst 0, 1) := by decide +kernel
theorem dX7_digest_177 : decode cX7_digest 177 = .ok (.istore_n 3, 1) := by decide +kernel
theorem dX7_digest_178 : decode cX7_digest 178 = .ok (.iload_n 3, 1) := by decide +kernel
theorem dX7_digest_179 : decode cX7_digest 179 = .ok (.bipush 6, 2) := by decide +kernel
theorem dX7_digest_181 : decode cX7_digest 181 = .ok (.if_icmp .gt 19, 3) := by decide +kernel
theorem dX7_digest_184 : decode cX7_digest 184 = .ok (.lload_n 1, 1) := by decide +kernel
theorem dX7_digest_185 : decode cX7_digest 185 = .ok (.aload_n 0, 1) := by decide +kernel
theorem dX7_digest_186 : decode cX7_digest 186 = .ok (.iload_n 3, 1) := by decide +kernel
theorem dX7_digest_187 : decode cX7_digest 187 = .ok (.invokevirtual 336, 3) := by decide +kernel
theorem dX7_digest_190 : decode cX7_digest 190 = .ok (.invokestatic 314, 3) := by decide +kernel
theorem dX7_digest_193 : decode cX7_digest 193 = .ok (.lstore_n 1, 1) := by decide +kernel
theorem dX7_digest_194 : decode cX7_digest 194 = .ok (.iinc 3 1, 3) := by decide +kernel
theorem dX7_digest_197 : decode cX7_digest 197 = .ok (.goto (-19), 3) := by decide +kernel
theorem dX7_digest_200 : decode cX7_digest 200 = .ok (.lload_n 1, 1) := by decide +kernel
theorem dX7_digest_201 : decode cX7_digest 201 = .ok (.lreturn, 1) := by decide +kernel
theorem dX7_isCart_0 : decode cX7_isCart 0 = .ok (.iload_n 1, 1) := by decide +kernel
theorem dX7_isCart_1 : decode cX7_isCart 1 = .ok (.ifCond .lt 15, 3) := by decide +kernel
theorem dX7_isCart_4 : decode cX7_isCart 4 = .ok (.iload_n 1, 1) := by decide +kernel
theorem dX7_isCart_5 : decode cX7_isCart 5 = .ok (.aload_n 0, 1) := by decide +kernel
theorem dX7_isCart_6 : decode cX7_isCart 6 = .ok (.getfield 67, 3) := by decide +kernel
theorem dX7_isCart_9 : decode cX7_isCart 9 = .ok (.if_icmp .ge 7, 3) := by decide +kernel
theorem dX7_isCart_12 : decode cX7_isCart 12 = .ok (.iconst 1, 1) := by decide +kernel
theorem dX7_isCart_13 : decode cX7_isCart 13 = .ok (.goto 4, 3) := by decide +kernel
theorem dX7_isCart_16 : decode cX7_isCart 16 = .ok (.iconst 0, 1) := by decide +kernel
theorem dX7_isCart_17 : decode cX7_isCart 17 = .ok (.ireturn, 1) := by decide +kernel
theorem dX7_isLoss_0 : decode cX7_isLoss 0 = .ok (.aload_n 0, 1) := by decide +kernel
theorem dX7_isLoss_1 : decode cX7_isLoss 1 = .ok (.iload_n 1, 1) := by decide +kernel
theorem dX7_isLoss_2 : decode cX7_isLoss 2 = .ok (.invokevirtual 121, 3) := by decide +kernel
theorem dX7_isLoss_5 : decode cX7_isLoss 5 = .ok (.ifCond .eq 24, 3) := by decide +kernel
theorem dX7_isLoss_8 : decode cX7_isLoss 8 = .ok (.iload_n 2, 1) := by decide +kernel
theorem dX7_isLoss_9 : decode cX7_isLoss 9 = .ok (.ifCond .lt 20, 3) := by decide +kernel
theorem dX7_isLoss_12 : decode cX7_isLoss 12 = .ok (.iload_n 2, 1) := by decide +kernel
theorem dX7_isLoss_13 : decode cX7_isLoss 13 = .ok (.aload_n 0, 1) := by decide +kernel
theorem dX7_isLoss_14 : decode cX7_isLoss 14 = .ok (.getfield 25, 3) := by decide +kernel
theorem dX7_isLoss_17 : decode cX7_isLoss 17 = .ok (.iload_n 1, 1) := by decide +kernel
theorem dX7_isLoss_18 : decode cX7_isLoss 18 = .ok (.aaload, 1) := by decide +kernel
theorem dX7_isLoss_19 : decode cX7_isLoss 19 = .ok (.getfield 126, 3) := by decide +kernel
theorem dX7_isLoss_22 : decode cX7_isLoss 22 = .ok (.if_icmp .ge 7, 3) := by decide +kernel
theorem dX7_isLoss_25 : decode cX7_isLoss 25 = .ok (.iconst 1, 1) := by decide +kernel
theorem dX7_isLoss_26 : decode cX7_isLoss 26 = .ok (.goto 4, 3) := by decide +kernel
theorem dX7_isLoss_29 : decode cX7_isLoss 29 = .ok (.iconst 0, 1) := by decide +kernel
theorem dX7_isLoss_30 : decode cX7_isLoss 30 = .ok (.ireturn, 1) := by decide +kernel
theorem dX7_isCell_0 : decode cX7_isCell 0 = .ok (.iload_n 1, 1) := by decide +kernel
theorem dX7_isCell_1 : decode cX7_isCell 1 = .ok (.ifCond .lt 18, 3) := by decide +kernel
theorem dX7_isCell_4 : decode cX7_isCell 4 = .ok (.iload_n 1, 1) := by decide +kernel
theorem dX7_isCell_5 : decode cX7_isCell 5 = .ok (.aload_n 0, 1) := by decide +kernel
theorem dX7_isCell_6 : decode cX7_isCell 6 = .ok (.getfield 19, 3) := by decide +kernel
theorem dX7_isCell_9 : decode cX7_isCell 9 = .ok (.getfield 100, 3) := by decide +kernel
theorem dX7_isCell_12 : decode cX7_isCell 12 = .ok (.if_icmp .ge 7, 3) := by decide +kernel
theorem dX7_isCell_15 : decode cX7_isCell 15 = .ok (.iconst 1, 1) := by decide +kernel
theorem dX7_isCell_16 : decode cX7_isCell 16 = .ok (.goto 4, 3) := by decide +kernel
theorem dX7_isCell_19 : decode cX7_isCell 19 = .ok (.iconst 0, 1) := by decide +kernel
theorem dX7_isCell_20 : decode cX7_isCell 20 = .ok (.ireturn, 1) := by decide +kernel
theorem dX7_isWithin_0 : decode cX7_isWithin 0 = .ok (.iload_n 0, 1) := by decide +kernel
theorem dX7_isWithin_1 : decode cX7_isWithin 1 = .ok (.iload_n 1, 1) := by decide +kernel
theorem dX7_isWithin_2 : decode cX7_isWithin 2 = .ok (.if_icmp .lt 12, 3) := by decide +kernel
theorem dX7_isWithin_5 : decode cX7_isWithin 5 = .ok (.iload_n 0, 1) := by decide +kernel
theorem dX7_isWithin_6 : decode cX7_isWithin 6 = .ok (.iload_n 2, 1) := by decide +kernel
theorem dX7_isWithin_7 : decode cX7_isWithin 7 = .ok (.if_icmp .gt 7, 3) := by decide +kernel
theorem dX7_isWithin_10 : decode cX7_isWithin 10 = .ok (.iconst 1, 1) := by decide +kernel
theorem dX7_isWithin_11 : decode cX7_isWithin 11 = .ok (.goto 4, 3) := by decide +kernel
theorem dX7_isWithin_14 : decode cX7_isWithin 14 = .ok (.iconst 0, 1) := by decide +kernel
theorem dX7_isWithin_15 : decode cX7_isWithin 15 = .ok (.ireturn, 1) := by decide +kernel
theorem dX7_isSwing_0 : decode cX7_isSwing 0 = .ok (.iload_n 0, 1) := by decide +kernel
theorem dX7_isSwing_1 : decode cX7_isSwing 1 = .ok (.iconst 0, 1) := by decide +kernel
theorem dX7_isSwing_2 : decode cX7_isSwing 2 = .ok (.sipush 9999, 3) := by decide +kernel
theorem dX7_isSwing_5 : decode cX7_isSwing 5 = .ok (.invokestatic 137, 3) := by decide +kernel
theorem dX7_isSwing_8 : decode cX7_isSwing 8 = .ok (.ireturn, 1) := by decide +kernel
theorem dX7_isOfKind_0 : decode cX7_isOfKind 0 = .ok (.iload_n 1, 1) := by decide +kernel
theorem dX7_isOfKind_1 : decode cX7_isOfKind 1 = .ok (.ifCond .eq 18, 3) := by decide +kernel
theorem dX7_isOfKind_4 : decode cX7_isOfKind 4 = .ok (.iload_n 1, 1) := by decide +kernel
theorem dX7_isOfKind_5 : decode cX7_isOfKind 5 = .ok (.iload_n 0, 1) := by decide +kernel
theorem dX7_isOfKind_6 : decode cX7_isOfKind 6 = .ok (.if_icmp .eq 13, 3) := by decide +kernel
theorem dX7_isOfKind_9 : decode cX7_isOfKind 9 = .ok (.iload_n 1, 1) := by decide +kernel
theorem dX7_isOfKind_10 : decode cX7_isOfKind 10 = .ok (.iconst 1, 1) := by decide +kernel
theorem dX7_isOfKind_11 : decode cX7_isOfKind 11 = .ok (.if_icmp .ne 12, 3) := by decide +kernel
theorem dX7_isOfKind_14 : decode cX7_isOfKind 14 = .ok (.iload_n 0, 1) := by decide +kernel
theorem dX7_isOfKind_15 : decode cX7_isOfKind 15 = .ok (.iconst 2, 1) := by decide +kernel
theorem dX7_isOfKind_16 : decode cX7_isOfKind 16 = .ok (.if_icmp .ne 7, 3) := by decide +kernel
theorem dX7_isOfKind_19 : decode cX7_isOfKind 19 = .ok (.iconst 1, 1) := by decide +kernel
theorem dX7_isOfKind_20 : decode cX7_isOfKind 20 = .ok (.goto 4, 3) := by decide +kernel
theorem dX7_isOfKind_23 : decode cX7_isOfKind 23 = .ok (.iconst 0, 1) := by decide +kernel
theorem dX7_isOfKind_24 : decode cX7_isOfKind 24 = .ok (.ireturn, 1) := by decide +kernel
theorem dX7_codeAt_0 : decode cX7_codeAt 0 = .ok (.lload_n 0, 1) := by decide +kernel
theorem dX7_codeAt_1 : decode cX7_codeAt 1 = .ok (.bipush 8, 2) := by decide +kernel
theorem dX7_codeAt_3 : decode cX7_codeAt 3 = .ok (.iload_n 2, 1) := by decide +kernel
theorem dX7_codeAt_4 : decode cX7_codeAt 4 = .ok (.imul, 1) := by decide +kernel
theorem dX7_codeAt_5 : decode cX7_codeAt 5 = .ok (.lushr, 1) := by decide +kernel
theorem dX7_codeAt_6 : decode cX7_codeAt 6 = .ok (.l2i, 1) := by decide +kernel
theorem dX7_codeAt_7 : decode cX7_codeAt 7 = .ok (.sipush 255, 3) := by decide +kernel
theorem dX7_codeAt_10 : decode cX7_codeAt 10 = .ok (.iand, 1) := by decide +kernel
theorem dX7_codeAt_11 : decode cX7_codeAt 11 = .ok (.ireturn, 1) := by decide +kernel
theorem dX7_by_0 : decode cX7_by 0 = .ok (.iload_n 1, 1) := by decide +kernel
theorem dX7_by_1 : decode cX7_by 1 = .ok (.ifCond .le 9, 3) := by decide +kernel
theorem dX7_by_4 : decode cX7_by 4 = .ok (.iload_n 0, 1) := by decide +kernel
theorem dX7_by_5 : decode cX7_by 5 = .ok (.iload_n 1, 1) := by decide +kernel
theorem dX7_by_6 : decode cX7_by 6 = .ok (.idiv, 1) := by decide +kernel
theorem dX7_by_7 : decode cX7_by 7 = .ok (.goto 4, 3) := by decide +kernel
theorem dX7_by_10 : decode cX7_by 10 = .ok (.iconst 0, 1) := by decide +kernel
theorem dX7_by_11 : decode cX7_by 11 = .ok (.ireturn, 1) := by decide +kernel
theorem dX7_refusalOfRun_0 : decode cX7_refusalOfRun 0 = .ok (.aload_n 0, 1) := by decide +kernel
theorem dX7_refusalOfRun_1 : decode cX7_refusalOfRun 1 = .ok (.iload_n 1, 1) := by decide +kernel
theorem dX7_refusalOfRun_2 : decode cX7_refusalOfRun 2 = .ok (.invokevirtual 121, 3) := by decide +kernel
theorem dX7_refusalOfRun_5 : decode cX7_refusalOfRun 5 = .ok (.ifCond .ne 6, 3) := by decide +kernel
theorem dX7_refusalOfRun_8 : decode cX7_refusalOfRun 8 = .ok (.bipush (-101), 2) := by decide +kernel
theorem dX7_refusalOfRun_10 : decode cX7_refusalOfRun 10 = .ok (.ireturn, 1) := by decide +kernel
theorem dX7_refusalOfRun_11 : decode cX7_refusalOfRun 11 = .ok (.aload_n 0, 1) := by decide +kernel
theorem dX7_refusalOfRun_12 : decode cX7_refusalOfRun 12 = .ok (.getfield 19, 3) := by decide +kernel
theorem dX7_refusalOfRun_15 : decode cX7_refusalOfRun 15 = .ok (.getfield 100, 3) := by decide +kernel
theorem dX7_refusalOfRun_18 : decode cX7_refusalOfRun 18 = .ok (.ifCond .ne 6, 3) := by decide +kernel
theorem dX7_refusalOfRun_21 : decode cX7_refusalOfRun 21 = .ok (.bipush (-103), 2) := by decide +kernel
theorem dX7_refusalOfRun_23 : decode cX7_refusalOfRun 23 = .ok (.ireturn, 1) := by decide +kernel
theorem dX7_refusalOfRun_24 : decode cX7_refusalOfRun 24 = .ok (.iload_n 2, 1) := by decide +kernel
theorem dX7_refusalOfRun_25 : decode cX7_refusalOfRun 25 = .ok (.invokestatic 156, 3) := by decide +kernel
theorem dX7_refusalOfRun_28 : decode cX7_refusalOfRun 28 = .ok (.ifCond .eq 11, 3) := by decide +kernel
theorem dX7_refusalOfRun_31 : decode cX7_refusalOfRun 31 = .ok (.iload_n 3, 1) := by decide +kernel
theorem dX7_refusalOfRun_32 : decode cX7_refusalOfRun 32 = .ok (.ifCond .eq 7, 3) := by decide +kernel
theorem dX7_refusalOfRun_35 : decode cX7_refusalOfRun 35 = .ok (.iconst 0, 1) := by decide +kernel
theorem dX7_refusalOfRun_36 : decode cX7_refusalOfRun 36 = .ok (.goto 5, 3) := by decide +kernel
theorem dX7_refusalOfRun_39 : decode cX7_refusalOfRun 39 = .ok (.bipush (-102), 2) := by decide +kernel
theorem dX7_refusalOfRun_41 : decode cX7_refusalOfRun 41 = .ok (.ireturn, 1) := by decide +kernel
theorem dX7_refusalOfFour_0 : decode cX7_refusalOfFour 0 = .ok (.aload_n 0, 1) := by decide +kernel
theorem dX7_refusalOfFour_1 : decode cX7_refusalOfFour 1 = .ok (.iload_n 1, 1) := by decide +kernel
theorem dX7_refusalOfFour_2 : decode cX7_refusalOfFour 2 = .ok (.invokevirtual 121, 3) := by decide +kernel
theorem dX7_refusalOfFour_5 : decode cX7_refusalOfFour 5 = .ok (.ifCond .eq 28, 3) := by decide +kernel
theorem dX7_refusalOfFour_8 : decode cX7_refusalOfFour 8 = .ok (.aload_n 0, 1) := by decide +kernel
theorem dX7_refusalOfFour_9 : decode cX7_refusalOfFour 9 = .ok (.iload_n 2, 1) := by decide +kernel
theorem dX7_refusalOfFour_10 : decode cX7_refusalOfFour 10 = .ok (.invokevirtual 121, 3) := by decide +kernel
theorem dX7_refusalOfFour_13 : decode cX7_refusalOfFour 13 = .ok (.ifCond .eq 20, 3) := by decide +kernel
theorem dX7_refusalOfFour_16 : decode cX7_refusalOfFour 16 = .ok (.aload_n 0, 1) := by decide +kernel
theorem dX7_refusalOfFour_17 : decode cX7_refusalOfFour 17 = .ok (.iload_n 3, 1) := by decide +kernel
theorem dX7_refusalOfFour_18 : decode cX7_refusalOfFour 18 = .ok (.invokevirtual 121, 3) := by decide +kernel
theorem dX7_refusalOfFour_21 : decode cX7_refusalOfFour 21 = .ok (.ifCond .eq 12, 3) := by decide +kernel
theorem dX7_refusalOfFour_24 : decode cX7_refusalOfFour 24 = .ok (.aload_n 0, 1) := by decide +kernel
theorem dX7_refusalOfFour_25 : decode cX7_refusalOfFour 25 = .ok (.iload 4, 2) := by decide +kernel
theorem dX7_refusalOfFour_27 : decode cX7_refusalOfFour 27 = .ok (.invokevirtual 121, 3) := by decide +kernel
theorem dX7_refusalOfFour_30 : decode cX7_refusalOfFour 30 = .ok (.ifCond .ne 6, 3) := by decide +kernel
theorem dX7_refusalOfFour_33 : decode cX7_refusalOfFour 33 = .ok (.bipush (-101), 2) := by decide +kernel
theorem dX7_refusalOfFour_35 : decode cX7_refusalOfFour 35 = .ok (.ireturn, 1) := by decide +kernel
theorem dX7_refusalOfFour_36 : decode cX7_refusalOfFour 36 = .ok (.iload_n 1, 1) := by decide +kernel
theorem dX7_refusalOfFour_37 : decode cX7_refusalOfFour 37 = .ok (.iload_n 2, 1) := by decide +kernel
theorem dX7_refusalOfFour_38 : decode cX7_refusalOfFour 38 = .ok (.if_icmp .eq 31, 3) := by decide +kernel
theorem dX7_refusalOfFour_41 : decode cX7_refusalOfFour 41 = .ok (.iload_n 1, 1) := by decide +kernel
theorem dX7_refusalOfFour_42 : decode cX7_refusalOfFour 42 = .ok (.iload_n 3, 1) := by decide +kernel
theorem dX7_refusalOfFour_43 : decode cX7_refusalOfFour 43 = .ok (.if_icmp .eq 26, 3) := by decide +kernel
theorem dX7_refusalOfFour_46 : decode cX7_refusalOfFour 46 = .ok (.iload_n 1, 1) := by decide +kernel
theorem dX7_refusalOfFour_47 : decode cX7_refusalOfFour 47 = .ok (.iload 4, 2) := by decide +kernel
theorem dX7_refusalOfFour_49 : decode cX7_refusalOfFour 49 = .ok (.if_icmp .eq 20, 3) := by decide +kernel
theorem dX7_refusalOfFour_52 : decode cX7_refusalOfFour 52 = .ok (.iload_n 2, 1) := by decide +kernel
theorem dX7_refusalOfFour_53 : decode cX7_refusalOfFour 53 = .ok (.iload_n 3, 1) := by decide +kernel
theorem dX7_refusalOfFour_54 : decode cX7_refusalOfFour 54 = .ok (.if_icmp .eq 15, 3) := by decide +kernel
theorem dX7_refusalOfFour_57 : decode cX7_refusalOfFour 57 = .ok (.iload_n 2, 1) := by decide +kernel
theorem dX7_refusalOfFour_58 : decode cX7_refusalOfFour 58 = .ok (.iload 4, 2) := by decide +kernel
theorem dX7_refusalOfFour_60 : decode cX7_refusalOfFour 60 = .ok (.if_icmp .eq 9, 3) := by decide +kernel
theorem dX7_refusalOfFour_63 : decode cX7_refusalOfFour 63 = .ok (.iload_n 3, 1) := by decide +kernel
theorem dX7_refusalOfFour_64 : decode cX7_refusalOfFour 64 = .ok (.iload 4, 2) := by decide +kernel
theorem dX7_refusalOfFour_66 : decode cX7_refusalOfFour 66 = .ok (.if_icmp .ne 7, 3) := by decide +kernel
theorem dX7_refusalOfFour_69 : decode cX7_refusalOfFour 69 = .ok (.iconst 1, 1) := by decide +kernel
theorem dX7_refusalOfFour_70 : decode cX7_refusalOfFour 70 = .ok (.goto 4, 3) := by decide +kernel
theorem dX7_refusalOfFour_73 : decode cX7_refusalOfFour 73 = .ok (.iconst 0, 1) := by decide +kernel
theorem dX7_refusalOfFour_74 : decode cX7_refusalOfFour 74 = .ok (.istore 5, 2) := by decide +kernel
theorem dX7_refusalOfFour_76 : decode cX7_refusalOfFour 76 = .ok (.aload_n 0, 1) := by decide +kernel
theorem dX7_refusalOfFour_77 : decode cX7_refusalOfFour 77 = .ok (.getfield 19, 3) := by decide +kernel
theorem dX7_refusalOfFour_80 : decode cX7_refusalOfFour 80 = .ok (.getfield 100, 3) := by decide +kernel
theorem dX7_refusalOfFour_83 : decode cX7_refusalOfFour 83 = .ok (.ifCond .eq 8, 3) := by decide +kernel
theorem dX7_refusalOfFour_86 : decode cX7_refusalOfFour 86 = .ok (.iload 5, 2) := by decide +kernel
theorem dX7_refusalOfFour_88 : decode cX7_refusalOfFour 88 = .ok (.ifCond .eq 8, 3) := by decide +kernel
theorem dX7_refusalOfFour_91 : decode cX7_refusalOfFour 91 = .ok (.bipush (-103), 2) := by decide +kernel
theorem dX7_refusalOfFour_93 : decode cX7_refusalOfFour 93 = .ok (.goto 4, 3) := by decide +kernel
theorem dX7_refusalOfFour_96 : decode cX7_refusalOfFour 96 = .ok (.iconst 0, 1) := by decide +kernel
theorem dX7_refusalOfFour_97 : decode cX7_refusalOfFour 97 = .ok (.ireturn, 1) := by decide +kernel
theorem dX7_goDown_0 : decode cX7_goDown 0 = .ok (.aload_n 0, 1) := by decide +kernel
theorem dX7_goDown_1 : decode cX7_goDown 1 = .ok (.getfield 49, 3) := by decide +kernel
theorem dX7_goDown_4 : decode cX7_goDown 4 = .ok (.aload_n 0, 1) := by decide +kernel
theorem dX7_goDown_5 : decode cX7_goDown 5 = .ok (.getfield 25, 3) := by decide +kernel
theorem dX7_goDown_8 : decode cX7_goDown 8 = .ok (.iload_n 1, 1) := by decide +kernel
theorem dX7_goDown_9 : decode cX7_goDown 9 = .ok (.aaload, 1) := by decide +kernel
theorem dX7_goDown_10 : decode cX7_goDown 10 = .ok (.aload_n 0, 1) := by decide +kernel
theorem dX7_goDown_11 : decode cX7_goDown 11 = .ok (.getfield 71, 3) := by decide +kernel
theorem dX7_goDown_14 : decode cX7_goDown 14 = .ok (.invokevirtual 168, 3) := by decide +kernel
theorem dX7_goDown_17 : decode cX7_goDown 17 = .ok (.aload_n 0, 1) := by decide +kernel
theorem dX7_goDown_18 : decode cX7_goDown 18 = .ok (.getfield 49, 3) := by decide +kernel
theorem dX7_goDown_21 : decode cX7_goDown 21 = .ok (.iload_n 2, 1) := by decide +kernel
theorem dX7_goDown_22 : decode cX7_goDown 22 = .ok (.invokevirtual 195, 3) := by decide +kernel
theorem dX7_goDown_25 : decode cX7_goDown 25 = .ok (.return_, 1) := by decide +kernel
theorem dX7_timeOf_0 : decode cX7_timeOf 0 = .ok (.aload_n 0, 1) := by decide +kernel
theorem dX7_timeOf_1 : decode cX7_timeOf 1 = .ok (.getfield 49, 3) := by decide +kernel
theorem dX7_timeOf_4 : decode cX7_timeOf 4 = .ok (.aload_n 0, 1) := by decide +kernel
theorem dX7_timeOf_5 : decode cX7_timeOf 5 = .ok (.getfield 25, 3) := by decide +kernel
theorem dX7_timeOf_8 : decode cX7_timeOf 8 = .ok (.iload_n 1, 1) := by decide +kernel
theorem dX7_timeOf_9 : decode cX7_timeOf 9 = .ok (.aaload, 1) := by decide +kernel
theorem dX7_timeOf_10 : decode cX7_timeOf 10 = .ok (.aload_n 0, 1) := by decide +kernel
theorem dX7_timeOf_11 : decode cX7_timeOf 11 = .ok (.getfield 71, 3) := by decide +kernel
theorem dX7_timeOf_14 : decode cX7_timeOf 14 = .ok (.invokevirtual 168, 3) := by decide +kernel
theorem dX7_timeOf_17 : decode cX7_timeOf 17 = .ok (.aload_n 0, 1) := by decide +kernel
theorem dX7_timeOf_18 : decode cX7_timeOf 18 = .ok (.getfield 49, 3) := by decide +kernel
theorem dX7_timeOf_21 : decode cX7_timeOf 21 = .ok (.iload_n 2, 1) := by decide +kernel
theorem dX7_timeOf_22 : decode cX7_timeOf 22 = .ok (.invokevirtual 195, 3) := by decide +kernel
theorem dX7_timeOf_25 : decode cX7_timeOf 25 = .ok (.aload_n 0, 1) := by decide +kernel
theorem dX7_timeOf_26 : decode cX7_timeOf 26 = .ok (.getfield 49, 3) := by decide +kernel
theorem dX7_timeOf_29 : decode cX7_timeOf 29 = .ok (.invokevirtual 339, 3) := by decide +kernel
theorem dX7_timeOf_32 : decode cX7_timeOf 32 = .ok (.ireturn, 1) := by decide +kernel
theorem dX7_timeAt_0 : decode cX7_timeAt 0 = .ok (.aload_n 0, 1) := by decide +kernel
theorem dX7_timeAt_1 : decode cX7_timeAt 1 = .ok (.getfield 49, 3) := by decide +kernel
theorem dX7_timeAt_4 : decode cX7_timeAt 4 = .ok (.aload_n 0, 1) := by decide +kernel
theorem dX7_timeAt_5 : decode cX7_timeAt 5 = .ok (.getfield 25, 3) := by decide +kernel
theorem dX7_timeAt_8 : decode cX7_timeAt 8 = .ok (.iload_n 1, 1) := by decide +kernel
theorem dX7_timeAt_9 : decode cX7_timeAt 9 = .ok (.aaload, 1) := by decide +kernel
theorem dX7_timeAt_10 : decode cX7_timeAt 10 = .ok (.aload_n 0, 1) := by decide +kernel
theorem dX7_timeAt_11 : decode cX7_timeAt 11 = .ok (.getfield 71, 3) := by decide +kernel
theorem dX7_timeAt_14 : decode cX7_timeAt 14 = .ok (.invokevirtual 168, 3) := by decide +kernel
theorem dX7_timeAt_17 : decode cX7_timeAt 17 = .ok (.aload_n 0, 1) := by decide +kernel
theorem dX7_timeAt_18 : decode cX7_timeAt 18 = .ok (.getfield 49, 3) := by decide +kernel
theorem dX7_timeAt_21 : decode cX7_timeAt 21 = .ok (.iload_n 3, 1) := by decide +kernel
theorem dX7_timeAt_22 : decode cX7_timeAt 22 = .ok (.putfield 191, 3) := by decide +kernel
theorem dX7_timeAt_25 : decode cX7_timeAt 25 = .ok (.aload_n 0, 1) := by decide +kernel
theorem dX7_timeAt_26 : decode cX7_timeAt 26 = .ok (.getfield 49, 3) := by decide +kernel
theorem dX7_timeAt_29 : decode cX7_timeAt 29 = .ok (.iload_n 2, 1) := by decide +kernel
theorem dX7_timeAt_30 : decode cX7_timeAt 30 = .ok (.invokevirtual 195, 3) := by decide +kernel
theorem dX7_timeAt_33 : decode cX7_timeAt 33 = .ok (.aload_n 0, 1) := by decide +kernel
theorem dX7_timeAt_34 : decode cX7_timeAt 34 = .ok (.getfield 49, 3) := by decide +kernel
theorem dX7_timeAt_37 : decode cX7_timeAt 37 = .ok (.invokevirtual 339, 3) := by decide +kernel
theorem dX7_timeAt_40 : decode cX7_timeAt 40 = .ok (.ireturn, 1) := by decide +kernel
theorem dX7_choice_0 : decode cX7_choice 0 = .ok (.iload_n 0, 1) := by decide +kernel
theorem dX7_choice_1 : decode cX7_choice 1 = .ok (.bipush 6, 2) := by decide +kernel
theorem dX7_choice_3 : decode cX7_choice 3 = .ok (.iconst 2, 1) := by decide +kernel
theorem dX7_choice_4 : decode cX7_choice 4 = .ok (.iload_n 1, 1) := by decide +kernel
theorem dX7_choice_5 : decode cX7_choice 5 = .ok (.imul, 1) := by decide +kernel
theorem dX7_choice_6 : decode cX7_choice 6 = .ok (.isub, 1) := by decide +kernel
theorem dX7_choice_7 : decode cX7_choice 7 = .ok (.ishr, 1) := by decide +kernel
theorem dX7_choice_8 : decode cX7_choice 8 = .ok (.iconst 3, 1) := by decide +kernel
theorem dX7_choice_9 : decode cX7_choice 9 = .ok (.iand, 1) := by decide +kernel
theorem dX7_choice_10 : decode cX7_choice 10 = .ok (.ireturn, 1) := by decide +kernel
theorem dX7_isBraked_0 : decode cX7_isBraked 0 = .ok (.aload_n 0, 1) := by decide +kernel
theorem dX7_isBraked_1 : decode cX7_isBraked 1 = .ok (.getfield 19, 3) := by decide +kernel
theorem dX7_isBraked_4 : decode cX7_isBraked 4 = .ok (.iload_n 1, 1) := by decide +kernel
theorem dX7_isBraked_5 : decode cX7_isBraked 5 = .ok (.invokevirtual 342, 3) := by decide +kernel
theorem dX7_isBraked_8 : decode cX7_isBraked 8 = .ok (.ifCond .le 7, 3) := by decide +kernel
theorem dX7_isBraked_11 : decode cX7_isBraked 11 = .ok (.iconst 1, 1) := by decide +kernel
theorem dX7_isBraked_12 : decode cX7_isBraked 12 = .ok (.goto 4, 3) := by decide +kernel
theorem dX7_isBraked_15 : decode cX7_isBraked 15 = .ok (.iconst 0, 1) := by decide +kernel
theorem dX7_isBraked_16 : decode cX7_isBraked 16 = .ok (.ireturn, 1) := by decide +kernel
theorem dX7_tryBrakes_0 : decode cX7_tryBrakes 0 = .ok (.aload_n 0, 1) := by decide +kernel
theorem dX7_tryBrakes_1 : decode cX7_tryBrakes 1 = .ok (.getfield 49, 3) := by decide +kernel
theorem dX7_tryBrakes_4 : decode cX7_tryBrakes 4 = .ok (.getfield 345, 3) := by decide +kernel
theorem dX7_tryBrakes_7 : decode cX7_tryBrakes 7 = .ok (.iconst 0, 1) := by decide +kernel
theorem dX7_tryBrakes_8 : decode cX7_tryBrakes 8 = .ok (.invokestatic 346, 3) := by decide +kernel
theorem dX7_tryBrakes_11 : decode cX7_tryBrakes 11 = .ok (.iconst 0, 1) := by decide +kernel
theorem dX7_tryBrakes_12 : decode cX7_tryBrakes 12 = .ok (.istore_n 3, 1) := by decide +kernel
theorem dX7_tryBrakes_13 : decode cX7_tryBrakes 13 = .ok (.iload_n 3, 1) := by decide +kernel
theorem dX7_tryBrakes_14 : decode cX7_tryBrakes 14 = .ok (.iconst 4, 1) := by decide +kernel
theorem dX7_tryBrakes_15 : decode cX7_tryBrakes 15 = .ok (.if_icmp .ge 56, 3) := by decide +kernel
theorem dX7_tryBrakes_18 : decode cX7_tryBrakes 18 = .ok (.iconst 3, 1) := by decide +kernel
theorem dX7_tryBrakes_19 : decode cX7_tryBrakes 19 = .ok (.iload_n 1, 1) := by decide +kernel
theorem dX7_tryBrakes_20 : decode cX7_tryBrakes 20 = .ok (.iload_n 3, 1) := by decide +kernel
theorem dX7_tryBrakes_21 : decode cX7_tryBrakes 21 = .ok (.invokestatic 187, 3) := by decide +kernel
theorem dX7_tryBrakes_24 : decode cX7_tryBrakes 24 = .ok (.imul, 1) := by decide +kernel
theorem dX7_tryBrakes_25 : decode cX7_tryBrakes 25 = .ok (.istore 4, 2) := by decide +kernel
theorem dX7_tryBrakes_27 : decode cX7_tryBrakes 27 = .ok (.aload_n 0, 1) := by decide +kernel
theorem dX7_tryBrakes_28 : decode cX7_tryBrakes 28 = .ok (.getfield 19, 3) := by decide +kernel
theorem dX7_tryBrakes_31 : decode cX7_tryBrakes 31 = .ok (.iload_n 3, 1) := by decide +kernel
theorem dX7_tryBrakes_32 : decode cX7_tryBrakes 32 = .ok (.invokevirtual 342, 3) := by decide +kernel
theorem dX7_tryBrakes_35 : decode cX7_tryBrakes 35 = .ok (.iconst 1, 1) := by decide +kernel
theorem dX7_tryBrakes_36 : decode cX7_tryBrakes 36 = .ok (.isub, 1) := by decide +kernel
theorem dX7_tryBrakes_37 : decode cX7_tryBrakes 37 = .ok (.istore 5, 2) := by decide +kernel
theorem dX7_tryBrakes_39 : decode cX7_tryBrakes 39 = .ok (.iload 5, 2) := by decide +kernel
theorem dX7_tryBrakes_41 : decode cX7_tryBrakes 41 = .ok (.ifCond .lt 18, 3) := by decide +kernel
theorem dX7_tryBrakes_44 : decode cX7_tryBrakes 44 = .ok (.aload_n 0, 1) := by decide +kernel
theorem dX7_tryBrakes_45 : decode cX7_tryBrakes 45 = .ok (.getfield 49, 3) := by decide +kernel
theorem dX7_tryBrakes_48 : decode cX7_tryBrakes 48 = .ok (.getfield 345, 3) := by decide +kernel
theorem dX7_tryBrakes_51 : decode cX7_tryBrakes 51 = .ok (.iload 5, 2) := by decide +kernel
theorem dX7_tryBrakes_53 : decode cX7_tryBrakes 53 = .ok (.iload 4, 2) := by decide +kernel
theorem dX7_tryBrakes_55 : decode cX7_tryBrakes 55 = .ok (.iastore, 1) := by decide +kernel
theorem dX7_tryBrakes_56 : decode cX7_tryBrakes 56 = .ok (.goto 9, 3) := by decide +kernel
theorem dX7_tryBrakes_59 : decode cX7_tryBrakes 59 = .ok (.iload 4, 2) := by decide +kernel
theorem dX7_tryBrakes_61 : decode cX7_tryBrakes 61 = .ok (.ifCond .le 4, 3) := by decide +kernel
theorem dX7_tryBrakes_64 : decode cX7_tryBrakes 64 = .ok (.return_, 1) := by decide +kernel
theorem dX7_tryBrakes_65 : decode cX7_tryBrakes 65 = .ok (.iinc 3 1, 3) := by decide +kernel
theorem dX7_tryBrakes_68 : decode cX7_tryBrakes 68 = .ok (.goto (-55), 3) := by decide +kernel
theorem dX7_tryBrakes_71 : decode cX7_tryBrakes 71 = .ok (.aload_n 0, 1) := by decide +kernel
theorem dX7_tryBrakes_72 : decode cX7_tryBrakes 72 = .ok (.getfield 49, 3) := by decide +kernel
theorem dX7_tryBrakes_75 : decode cX7_tryBrakes 75 = .ok (.iload_n 2, 1) := by decide +kernel
theorem dX7_tryBrakes_76 : decode cX7_tryBrakes 76 = .ok (.invokevirtual 195, 3) := by decide +kernel
theorem dX7_tryBrakes_79 : decode cX7_tryBrakes 79 = .ok (.aload_n 0, 1) := by decide +kernel
theorem dX7_tryBrakes_80 : decode cX7_tryBrakes 80 = .ok (.getfield 49, 3) := by decide +kernel
theorem dX7_tryBrakes_83 : decode cX7_tryBrakes 83 = .ok (.getfield 198, 3) := by decide +kernel
theorem dX7_tryBrakes_86 : decode cX7_tryBrakes 86 = .ok (.ifCond .ne 19, 3) := by decide +kernel
theorem dX7_tryBrakes_89 : decode cX7_tryBrakes 89 = .ok (.aload_n 0, 1) := by decide +kernel
theorem dX7_tryBrakes_90 : decode cX7_tryBrakes 90 = .ok (.getfield 56, 3) := by decide +kernel
theorem dX7_tryBrakes_93 : decode cX7_tryBrakes 93 = .ok (.aload_n 0, 1) := by decide +kernel
theorem dX7_tryBrakes_94 : decode cX7_tryBrakes 94 = .ok (.getfield 49, 3) := by decide +kernel
theorem dX7_tryBrakes_97 : decode cX7_tryBrakes 97 = .ok (.getfield 201, 3) := by decide +kernel
theorem dX7_tryBrakes_100 : decode cX7_tryBrakes 100 = .ok (.iload_n 1, 1) := by decide +kernel
theorem dX7_tryBrakes_101 : decode cX7_tryBrakes 101 = .ok (.invokevirtual 202, 3) := by decide +kernel
theorem dX7_tryBrakes_104 : decode cX7_tryBrakes 104 = .ok (.pop, 1) := by decide +kernel
theorem dX7_tryBrakes_105 : decode cX7_tryBrakes 105 = .ok (.return_, 1) := by decide +kernel
theorem dX7_apartBy_0 : decode cX7_apartBy 0 = .ok (.sipush 12000, 3) := by decide +kernel
theorem dX7_apartBy_3 : decode cX7_apartBy 3 = .ok (.istore_n 3, 1) := by decide +kernel
theorem dX7_apartBy_4 : decode cX7_apartBy 4 = .ok (.iconst 0, 1) := by decide +kernel
theorem dX7_apartBy_5 : decode cX7_apartBy 5 = .ok (.istore 4, 2) := by decide +kernel
theorem dX7_apartBy_7 : decode cX7_apartBy 7 = .ok (.iconst 0, 1) := by decide +kernel
theorem dX7_apartBy_8 : decode cX7_apartBy 8 = .ok (.istore 5, 2) := by decide +kernel
theorem dX7_apartBy_10 : decode cX7_apartBy 10 = .ok (.iload 5, 2) := by decide +kernel
theorem dX7_apartBy_12 : decode cX7_apartBy 12 = .ok (.aload_n 0, 1) := by decide +kernel
theorem dX7_apartBy_13 : decode cX7_apartBy 13 = .ok (.getfield 67, 3) := by decide +kernel
theorem dX7_apartBy_16 : decode cX7_apartBy 16 = .ok (.if_icmp .ge 56, 3) := by decide +kernel
theorem dX7_apartBy_19 : decode cX7_apartBy 19 = .ok (.aload_n 0, 1) := by decide +kernel
theorem dX7_apartBy_20 : decode cX7_apartBy 20 = .ok (.iload 5, 2) := by decide +kernel
theorem dX7_apartBy_22 : decode cX7_apartBy 22 = .ok (.iload_n 2, 1) := by decide +kernel
theorem dX7_apartBy_23 : decode cX7_apartBy 23 = .ok (.iload_n 1, 1) := by decide +kernel
theorem dX7_apartBy_24 : decode cX7_apartBy 24 = .ok (.aload_n 0, 1) := by decide +kernel
theorem dX7_apartBy_25 : decode cX7_apartBy 25 = .ok (.getfield 25, 3) := by decide +kernel
theorem dX7_apartBy_28 : decode cX7_apartBy 28 = .ok (.iload 5, 2) := by decide +kernel
theorem dX7_apartBy_30 : decode cX7_apartBy 30 = .ok (.aaload, 1) := by decide +kernel
theorem dX7_apartBy_31 : decode cX7_apartBy 31 = .ok (.getfield 123, 3) := by decide +kernel
theorem dX7_apartBy_34 : decode cX7_apartBy 34 = .ok (.invokestatic 276, 3) := by decide +kernel
theorem dX7_apartBy_37 : decode cX7_apartBy 37 = .ok (.invokevirtual 219, 3) := by decide +kernel
theorem dX7_apartBy_40 : decode cX7_apartBy 40 = .ok (.istore 6, 2) := by decide +kernel
theorem dX7_apartBy_42 : decode cX7_apartBy 42 = .ok (.iload 6, 2) := by decide +kernel
theorem dX7_apartBy_44 : decode cX7_apartBy 44 = .ok (.iconst (-1), 1) := by decide +kernel
theorem dX7_apartBy_45 : decode cX7_apartBy 45 = .ok (.if_icmp .ne 5, 3) := by decide +kernel
theorem dX7_apartBy_48 : decode cX7_apartBy 48 = .ok (.iconst (-1), 1) := by decide +kernel
theorem dX7_apartBy_49 : decode cX7_apartBy 49 = .ok (.ireturn, 1) := by decide +kernel
theorem dX7_apartBy_50 : decode cX7_apartBy 50 = .ok (.iload_n 3, 1) := by decide +kernel
theorem dX7_apartBy_51 : decode cX7_apartBy 51 = .ok (.iload 6, 2) := by decide +kernel
theorem dX7_apartBy_53 : decode cX7_apartBy 53 = .ok (.invokestatic 276, 3) := by decide +kernel
theorem dX7_apartBy_56 : decode cX7_apartBy 56 = .ok (.istore_n 3, 1) := by decide +kernel
theorem dX7_apartBy_57 : decode cX7_apartBy 57 = .ok (.iload 4, 2) := by decide +kernel
theorem dX7_apartBy_59 : decode cX7_apartBy 59 = .ok (.iload 6, 2) := by decide +kernel
theorem dX7_apartBy_61 : decode cX7_apartBy 61 = .ok (.invokestatic 352, 3) := by decide +kernel
theorem dX7_apartBy_64 : decode cX7_apartBy 64 = .ok (.istore 4, 2) := by decide +kernel
theorem dX7_apartBy_66 : decode cX7_apartBy 66 = .ok (.iinc 5 1, 3) := by decide +kernel
theorem dX7_apartBy_69 : decode cX7_apartBy 69 = .ok (.goto (-59), 3) := by decide +kernel
theorem dX7_apartBy_72 : decode cX7_apartBy 72 = .ok (.iload 4, 2) := by decide +kernel
theorem dX7_apartBy_74 : decode cX7_apartBy 74 = .ok (.iload_n 3, 1) := by decide +kernel
theorem dX7_apartBy_75 : decode cX7_apartBy 75 = .ok (.isub, 1) := by decide +kernel
theorem dX7_apartBy_76 : decode cX7_apartBy 76 = .ok (.ireturn, 1) := by decide +kernel
theorem dX7_flatCells_0 : decode cX7_flatCells 0 = .ok (.aload_n 0, 1) := by decide +kernel
theorem dX7_flatCells_1 : decode cX7_flatCells 1 = .ok (.getfield 49, 3) := by decide +kernel
theorem dX7_flatCells_4 : decode cX7_flatCells 4 = .ok (.aload_n 0, 1) := by decide +kernel
theorem dX7_flatCells_5 : decode cX7_flatCells 5 = .ok (.getfield 25, 3) := by decide +kernel
theorem dX7_flatCells_8 : decode cX7_flatCells 8 = .ok (.iload_n 1, 1) := by decide +kernel
theorem dX7_flatCells_9 : decode cX7_flatCells 9 = .ok (.aaload, 1) := by decide +kernel
theorem dX7_flatCells_10 : decode cX7_flatCells 10 = .ok (.aload_n 0, 1) := by decide +kernel
theorem dX7_flatCells_11 : decode cX7_flatCells 11 = .ok (.getfield 71, 3) := by decide +kernel
theorem dX7_flatCells_14 : decode cX7_flatCells 14 = .ok (.invokevirtual 168, 3) := by decide +kernel
theorem dX7_flatCells_17 : decode cX7_flatCells 17 = .ok (.aload_n 0, 1) := by decide +kernel
theorem dX7_flatCells_18 : decode cX7_flatCells 18 = .ok (.getfield 49, 3) := by decide +kernel
theorem dX7_flatCells_21 : decode cX7_flatCells 21 = .ok (.iload_n 2, 1) := by decide +kernel
theorem dX7_flatCells_22 : decode cX7_flatCells 22 = .ok (.iconst 0, 1) := by decide +kernel
theorem dX7_flatCells_23 : decode cX7_flatCells 23 = .ok (.sipush 999, 3) := by decide +kernel
theorem dX7_flatCells_26 : decode cX7_flatCells 26 = .ok (.invokevirtual 355, 3) := by decide +kernel
theorem dX7_flatCells_29 : decode cX7_flatCells 29 = .ok (.ireturn, 1) := by decide +kernel
theorem dX7_allCoastsAreSo_0 : decode cX7_allCoastsAreSo 0 = .ok (.iconst 0, 1) := by decide +kernel
theorem dX7_allCoastsAreSo_1 : decode cX7_allCoastsAreSo 1 = .ok (.istore_n 2, 1) := by decide +kernel
theorem dX7_allCoastsAreSo_2 : decode cX7_allCoastsAreSo 2 = .ok (.iload_n 2, 1) := by decide +kernel
theorem dX7_allCoastsAreSo_3 : decode cX7_allCoastsAreSo 3 = .ok (.aload_n 0, 1) := by decide +kernel
theorem dX7_allCoastsAreSo_4 : decode cX7_allCoastsAreSo 4 = .ok (.getfield 33, 3) := by decide +kernel
theorem dX7_allCoastsAreSo_7 : decode cX7_allCoastsAreSo 7 = .ok (.getfield 229, 3) := by decide +kernel
theorem dX7_allCoastsAreSo_10 : decode cX7_allCoastsAreSo 10 = .ok (.if_icmp .ge 70, 3) := by decide +kernel
theorem dX7_allCoastsAreSo_13 : decode cX7_allCoastsAreSo 13 = .ok (.aload_n 0, 1) := by decide +kernel
theorem dX7_allCoastsAreSo_14 : decode cX7_allCoastsAreSo 14 = .ok (.getfield 49, 3) := by decide +kernel
theorem dX7_allCoastsAreSo_17 : decode cX7_allCoastsAreSo 17 = .ok (.aload_n 0, 1) := by decide +kernel
theorem dX7_allCoastsAreSo_18 : decode cX7_allCoastsAreSo 18 = .ok (.getfield 25, 3) := by decide +kernel
theorem dX7_allCoastsAreSo_21 : decode cX7_allCoastsAreSo 21 = .ok (.aload_n 0, 1) := by decide +kernel
theorem dX7_allCoastsAreSo_22 : decode cX7_allCoastsAreSo 22 = .ok (.getfield 33, 3) := by decide +kernel
theorem dX7_allCoastsAreSo_25 : decode cX7_allCoastsAreSo 25 = .ok (.getfield 321, 3) := by decide +kernel
theorem dX7_allCoastsAreSo_28 : decode cX7_allCoastsAreSo 28 = .ok (.iload_n 2, 1) := by decide +kernel
theorem dX7_allCoastsAreSo_29 : decode cX7_allCoastsAreSo 29 = .ok (.iaload, 1) := by decide +kernel
theorem dX7_allCoastsAreSo_30 : decode cX7_allCoastsAreSo 30 = .ok (.aaload, 1) := by decide +kernel
theorem dX7_allCoastsAreSo_31 : decode cX7_allCoastsAreSo 31 = .ok (.aload_n 0, 1) := by decide +kernel
theorem dX7_allCoastsAreSo_32 : decode cX7_allCoastsAreSo 32 = .ok (.getfield 71, 3) := by decide +kernel
theorem dX7_allCoastsAreSo_35 : decode cX7_allCoastsAreSo 35 = .ok (.invokevirtual 168, 3) := by decide +kernel
theorem dX7_allCoastsAreSo_38 : decode cX7_allCoastsAreSo 38 = .ok (.aload_n 0, 1) := by decide +kernel
theorem dX7_allCoastsAreSo_39 : decode cX7_allCoastsAreSo 39 = .ok (.getfield 33, 3) := by decide +kernel
theorem dX7_allCoastsAreSo_42 : decode cX7_allCoastsAreSo 42 = .ok (.getfield 327, 3) := by decide +kernel
theorem dX7_allCoastsAreSo_45 : decode cX7_allCoastsAreSo 45 = .ok (.iload_n 2, 1) := by decide +kernel
theorem dX7_allCoastsAreSo_46 : decode cX7_allCoastsAreSo 46 = .ok (.iaload, 1) := by decide +kernel
theorem dX7_allCoastsAreSo_47 : decode cX7_allCoastsAreSo 47 = .ok (.istore_n 3, 1) := by decide +kernel
theorem dX7_allCoastsAreSo_48 : decode cX7_allCoastsAreSo 48 = .ok (.aload_n 0, 1) := by decide +kernel
theorem dX7_allCoastsAreSo_49 : decode cX7_allCoastsAreSo 49 = .ok (.getfield 49, 3) := by decide +kernel
theorem dX7_allCoastsAreSo_52 : decode cX7_allCoastsAreSo 52 = .ok (.aload_n 0, 1) := by decide +kernel
theorem dX7_allCoastsAreSo_53 : decode cX7_allCoastsAreSo 53 = .ok (.getfield 33, 3) := by decide +kernel
theorem dX7_allCoastsAreSo_56 : decode cX7_allCoastsAreSo 56 = .ok (.getfield 324, 3) := by decide +kernel
theorem dX7_allCoastsAreSo_59 : decode cX7_allCoastsAreSo 59 = .ok (.iload_n 2, 1) := by decide +kernel
theorem dX7_allCoastsAreSo_60 : decode cX7_allCoastsAreSo 60 = .ok (.iaload, 1) := by decide +kernel
theorem dX7_allCoastsAreSo_61 : decode cX7_allCoastsAreSo 61 = .ok (.iload_n 1, 1) := by decide +kernel
theorem dX7_allCoastsAreSo_62 : decode cX7_allCoastsAreSo 62 = .ok (.iload_n 3, 1) := by decide +kernel
theorem dX7_allCoastsAreSo_63 : decode cX7_allCoastsAreSo 63 = .ok (.iconst 1, 1) := by decide +kernel
theorem dX7_allCoastsAreSo_64 : decode cX7_allCoastsAreSo 64 = .ok (.iadd, 1) := by decide +kernel
theorem dX7_allCoastsAreSo_65 : decode cX7_allCoastsAreSo 65 = .ok (.invokevirtual 355, 3) := by decide +kernel
theorem dX7_allCoastsAreSo_68 : decode cX7_allCoastsAreSo 68 = .ok (.iload_n 3, 1) := by decide +kernel
theorem dX7_allCoastsAreSo_69 : decode cX7_allCoastsAreSo 69 = .ok (.if_icmp .eq 5, 3) := by decide +kernel
theorem dX7_allCoastsAreSo_72 : decode cX7_allCoastsAreSo 72 = .ok (.iconst 0, 1) := by decide +kernel
theorem dX7_allCoastsAreSo_73 : decode cX7_allCoastsAreSo 73 = .ok (.ireturn, 1) := by decide +kernel
theorem dX7_allCoastsAreSo_74 : decode cX7_allCoastsAreSo 74 = .ok (.iinc 2 1, 3) := by decide +kernel
theorem dX7_allCoastsAreSo_77 : decode cX7_allCoastsAreSo 77 = .ok (.goto (-75), 3) := by decide +kernel
theorem dX7_allCoastsAreSo_80 : decode cX7_allCoastsAreSo 80 = .ok (.iconst 1, 1) := by decide +kernel
theorem dX7_allCoastsAreSo_81 : decode cX7_allCoastsAreSo 81 = .ok (.ireturn, 1) := by decide +kernel
theorem dX7_tenths_0 : decode cX7_tenths 0 = .ok (.iload_n 0, 1) := by decide +kernel
theorem dX7_tenths_1 : decode cX7_tenths 1 = .ok (.iload_n 1, 1) := by decide +kernel
theorem dX7_tenths_2 : decode cX7_tenths 2 = .ok (.if_icmp .ne 5, 3) := by decide +kernel
theorem dX7_tenths_5 : decode cX7_tenths 5 = .ok (.iconst 5, 1) := by decide +kernel
theorem dX7_tenths_6 : decode cX7_tenths 6 = .ok (.ireturn, 1) := by decide +kernel
theorem dX7_tenths_7 : decode cX7_tenths 7 = .ok (.iload_n 0, 1) := by decide +kernel
theorem dX7_tenths_8 : decode cX7_tenths 8 = .ok (.iconst (-1), 1) := by decide +kernel
theorem dX7_tenths_9 : decode cX7_tenths 9 = .ok (.if_icmp .ne 5, 3) := by decide +kernel
theorem dX7_tenths_12 : decode cX7_tenths 12 = .ok (.iconst 0, 1) := by decide +kernel
theorem dX7_tenths_13 : decode cX7_tenths 13 = .ok (.ireturn, 1) := by decide +kernel
theorem dX7_tenths_14 : decode cX7_tenths 14 = .ok (.iload_n 1, 1) := by decide +kernel
theorem dX7_tenths_15 : decode cX7_tenths 15 = .ok (.iconst (-1), 1) := by decide +kernel
theorem dX7_tenths_16 : decode cX7_tenths 16 = .ok (.if_icmp .ne 6, 3) := by decide +kernel
theorem dX7_tenths_19 : decode cX7_tenths 19 = .ok (.bipush 10, 2) := by decide +kernel
theorem dX7_tenths_21 : decode cX7_tenths 21 = .ok (.ireturn, 1) := by decide +kernel
theorem dX7_tenths_22 : decode cX7_tenths 22 = .ok (.iconst 5, 1) := by decide +kernel
theorem dX7_tenths_23 : decode cX7_tenths 23 = .ok (.iload_n 1, 1) := by decide +kernel
theorem dX7_tenths_24 : decode cX7_tenths 24 = .ok (.iload_n 0, 1) := by decide +kernel
theorem dX7_tenths_25 : decode cX7_tenths 25 = .ok (.isub, 1) := by decide +kernel
theorem dX7_tenths_26 : decode cX7_tenths 26 = .ok (.invokestatic 358, 3) := by decide +kernel
theorem dX7_tenths_29 : decode cX7_tenths 29 = .ok (.bipush 100, 2) := by decide +kernel
theorem dX7_tenths_31 : decode cX7_tenths 31 = .ok (.iload_n 2, 1) := by decide +kernel
theorem dX7_tenths_32 : decode cX7_tenths 32 = .ok (.imul, 1) := by decide +kernel
theorem dX7_tenths_33 : decode cX7_tenths 33 = .ok (.invokestatic 192, 3) := by decide +kernel
theorem dX7_tenths_36 : decode cX7_tenths 36 = .ok (.invokestatic 276, 3) := by decide +kernel
theorem dX7_tenths_39 : decode cX7_tenths 39 = .ok (.istore_n 3, 1) := by decide +kernel
theorem dX7_tenths_40 : decode cX7_tenths 40 = .ok (.iload_n 0, 1) := by decide +kernel
theorem dX7_tenths_41 : decode cX7_tenths 41 = .ok (.iload_n 1, 1) := by decide +kernel
theorem dX7_tenths_42 : decode cX7_tenths 42 = .ok (.if_icmp .ge 9, 3) := by decide +kernel
theorem dX7_tenths_45 : decode cX7_tenths 45 = .ok (.iconst 5, 1) := by decide +kernel
theorem dX7_tenths_46 : decode cX7_tenths 46 = .ok (.iload_n 3, 1) := by decide +kernel
theorem dX7_tenths_47 : decode cX7_tenths 47 = .ok (.iadd, 1) := by decide +kernel
theorem dX7_tenths_48 : decode cX7_tenths 48 = .ok (.goto 6, 3) := by decide +kernel
theorem dX7_tenths_51 : decode cX7_tenths 51 = .ok (.iconst 5, 1) := by decide +kernel
theorem dX7_tenths_52 : decode cX7_tenths 52 = .ok (.iload_n 3, 1) := by decide +kernel
theorem dX7_tenths_53 : decode cX7_tenths 53 = .ok (.isub, 1) := by decide +kernel
theorem dX7_tenths_54 : decode cX7_tenths 54 = .ok (.ireturn, 1) := by decide +kernel
theorem dX7_takeTimes_0 : decode cX7_takeTimes 0 = .ok (.aload_n 0, 1) := by decide +kernel
theorem dX7_takeTimes_1 : decode cX7_takeTimes 1 = .ok (.getfield 60, 3) := by decide +kernel
theorem dX7_takeTimes_4 : decode cX7_takeTimes 4 = .ok (.iconst 0, 1) := by decide +kernel
theorem dX7_takeTimes_5 : decode cX7_takeTimes 5 = .ok (.aload_n 0, 1) := by decide +kernel
theorem dX7_takeTimes_6 : decode cX7_takeTimes 6 = .ok (.iload_n 1, 1) := by decide +kernel
theorem dX7_takeTimes_7 : decode cX7_takeTimes 7 = .ok (.iload 5, 2) := by decide +kernel
theorem dX7_takeTimes_9 : decode cX7_takeTimes 9 = .ok (.invokevirtual 236, 3) := by decide +kernel
theorem dX7_takeTimes_12 : decode cX7_takeTimes 12 = .ok (.iastore, 1) := by decide +kernel
theorem dX7_takeTimes_13 : decode cX7_takeTimes 13 = .ok (.aload_n 0, 1) := by decide +kernel
theorem dX7_takeTimes_14 : decode cX7_takeTimes 14 = .ok (.getfield 60, 3) := by decide +kernel
theorem dX7_takeTimes_17 : decode cX7_takeTimes 17 = .ok (.iconst 1, 1) := by decide +kernel
theorem dX7_takeTimes_18 : decode cX7_takeTimes 18 = .ok (.aload_n 0, 1) := by decide +kernel
theorem dX7_takeTimes_19 : decode cX7_takeTimes 19 = .ok (.iload_n 2, 1) := by decide +kernel
theorem dX7_takeTimes_20 : decode cX7_takeTimes 20 = .ok (.iload 5, 2) := by decide +kernel
theorem dX7_takeTimes_22 : decode cX7_takeTimes 22 = .ok (.invokevirtual 236, 3) := by decide +kernel
theorem dX7_takeTimes_25 : decode cX7_takeTimes 25 = .ok (.iastore, 1) := by decide +kernel
theorem dX7_takeTimes_26 : decode cX7_takeTimes 26 = .ok (.aload_n 0, 1) := by decide +kernel
theorem dX7_takeTimes_27 : decode cX7_takeTimes 27 = .ok (.getfield 60, 3) := by decide +kernel
theorem dX7_takeTimes_30 : decode cX7_takeTimes 30 = .ok (.iconst 2, 1) := by decide +kernel
theorem dX7_takeTimes_31 : decode cX7_takeTimes 31 = .ok (.aload_n 0, 1) := by decide +kernel
theorem dX7_takeTimes_32 : decode cX7_takeTimes 32 = .ok (.iload_n 3, 1) := by decide +kernel
theorem dX7_takeTimes_33 : decode cX7_takeTimes 33 = .ok (.iload 5, 2) := by decide +kernel
theorem dX7_takeTimes_35 : decode cX7_takeTimes 35 = .ok (.invokevirtual 236, 3) := by decide +kernel
theorem dX7_takeTimes_38 : decode cX7_takeTimes 38 = .ok (.iastore, 1) := by decide +kernel
theorem dX7_takeTimes_39 : decode cX7_takeTimes 39 = .ok (.aload_n 0, 1) := by decide +kernel
theorem dX7_takeTimes_40 : decode cX7_takeTimes 40 = .ok (.getfield 60, 3) := by decide +kernel
theorem dX7_takeTimes_43 : decode cX7_takeTimes 43 = .ok (.iconst 3, 1) := by decide +kernel
theorem dX7_takeTimes_44 : decode cX7_takeTimes 44 = .ok (.aload_n 0, 1) := by decide +kernel
theorem dX7_takeTimes_45 : decode cX7_takeTimes 45 = .ok (.iload 4, 2) := by decide +kernel
theorem dX7_takeTimes_47 : decode cX7_takeTimes 47 = .ok (.iload 5, 2) := by decide +kernel
theorem dX7_takeTimes_49 : decode cX7_takeTimes 49 = .ok (.invokevirtual 236, 3) := by decide +kernel
theorem dX7_takeTimes_52 : decode cX7_takeTimes 52 = .ok (.iastore, 1) := by decide +kernel
theorem dX7_takeTimes_53 : decode cX7_takeTimes 53 = .ok (.return_, 1) := by decide +kernel
theorem dX7_quickestOfFour_0 : decode cX7_quickestOfFour 0 = .ok (.iconst 0, 1) := by decide +kernel
theorem dX7_quickestOfFour_1 : decode cX7_quickestOfFour 1 = .ok (.istore_n 1, 1) := by decide +kernel
theorem dX7_quickestOfFour_2 : decode cX7_quickestOfFour 2 = .ok (.iconst 1, 1) := by decide +kernel
theorem dX7_quickestOfFour_3 : decode cX7_quickestOfFour 3 = .ok (.istore_n 2, 1) := by decide +kernel
theorem dX7_quickestOfFour_4 : decode cX7_quickestOfFour 4 = .ok (.iload_n 2, 1) := by decide +kernel
theorem dX7_quickestOfFour_5 : decode cX7_quickestOfFour 5 = .ok (.iconst 4, 1) := by decide +kernel
theorem dX7_quickestOfFour_6 : decode cX7_quickestOfFour 6 = .ok (.if_icmp .ge 56, 3) := by decide +kernel
theorem dX7_quickestOfFour_9 : decode cX7_quickestOfFour 9 = .ok (.aload_n 0, 1) := by decide +kernel
theorem dX7_quickestOfFour_10 : decode cX7_quickestOfFour 10 = .ok (.getfield 60, 3) := by decide +kernel
theorem dX7_quickestOfFour_13 : decode cX7_quickestOfFour 13 = .ok (.iload_n 1, 1) := by decide +kernel
theorem dX7_quickestOfFour_14 : decode cX7_quickestOfFour 14 = .ok (.iaload, 1) := by decide +kernel
theorem dX7_quickestOfFour_15 : decode cX7_quickestOfFour 15 = .ok (.iconst (-1), 1) := by decide +kernel
theorem dX7_quickestOfFour_16 : decode cX7_quickestOfFour 16 = .ok (.if_icmp .eq 18, 3) := by decide +kernel
theorem dX7_quickestOfFour_19 : decode cX7_quickestOfFour 19 = .ok (.aload_n 0, 1) := by decide +kernel
theorem dX7_quickestOfFour_20 : decode cX7_quickestOfFour 20 = .ok (.getfield 60, 3) := by decide +kernel
theorem dX7_quickestOfFour_23 : decode cX7_quickestOfFour 23 = .ok (.iload_n 2, 1) := by decide +kernel
theorem dX7_quickestOfFour_24 : decode cX7_quickestOfFour 24 = .ok (.iaload, 1) := by decide +kernel
theorem dX7_quickestOfFour_25 : decode cX7_quickestOfFour 25 = .ok (.aload_n 0, 1) := by decide +kernel
theorem dX7_quickestOfFour_26 : decode cX7_quickestOfFour 26 = .ok (.getfield 60, 3) := by decide +kernel
theorem dX7_quickestOfFour_29 : decode cX7_quickestOfFour 29 = .ok (.iload_n 1, 1) := by decide +kernel
theorem dX7_quickestOfFour_30 : decode cX7_quickestOfFour 30 = .ok (.iaload, 1) := by decide +kernel
theorem dX7_quickestOfFour_31 : decode cX7_quickestOfFour 31 = .ok (.if_icmp .ge 7, 3) := by decide +kernel
theorem dX7_quickestOfFour_34 : decode cX7_quickestOfFour 34 = .ok (.iconst 1, 1) := by decide +kernel
theorem dX7_quickestOfFour_35 : decode cX7_quickestOfFour 35 = .ok (.goto 4, 3) := by decide +kernel
theorem dX7_quickestOfFour_38 : decode cX7_quickestOfFour 38 = .ok (.iconst 0, 1) := by decide +kernel
theorem dX7_quickestOfFour_39 : decode cX7_quickestOfFour 39 = .ok (.istore_n 3, 1) := by decide +kernel
theorem dX7_quickestOfFour_40 : decode cX7_quickestOfFour 40 = .ok (.aload_n 0, 1) := by decide +kernel
theorem dX7_quickestOfFour_41 : decode cX7_quickestOfFour 41 = .ok (.getfield 60, 3) := by decide +kernel
theorem dX7_quickestOfFour_44 : decode cX7_quickestOfFour 44 = .ok (.iload_n 2, 1) := by decide +kernel
theorem dX7_quickestOfFour_45 : decode cX7_quickestOfFour 45 = .ok (.iaload, 1) := by decide +kernel
theorem dX7_quickestOfFour_46 : decode cX7_quickestOfFour 46 = .ok (.iconst (-1), 1) := by decide +kernel
theorem dX7_quickestOfFour_47 : decode cX7_quickestOfFour 47 = .ok (.if_icmp .eq 9, 3) := by decide +kernel
theorem dX7_quickestOfFour_50 : decode cX7_quickestOfFour 50 = .ok (.iload_n 3, 1) := by decide +kernel
theorem dX7_quickestOfFour_51 : decode cX7_quickestOfFour 51 = .ok (.ifCond .eq 5, 3) := by decide +kernel
theorem dX7_quickestOfFour_54 : decode cX7_quickestOfFour 54 = .ok (.iload_n 2, 1) := by decide +kernel
theorem dX7_quickestOfFour_55 : decode cX7_quickestOfFour 55 = .ok (.istore_n 1, 1) := by decide +kernel
theorem dX7_quickestOfFour_56 : decode cX7_quickestOfFour 56 = .ok (.iinc 2 1, 3) := by decide +kernel
theorem dX7_quickestOfFour_59 : decode cX7_quickestOfFour 59 = .ok (.goto (-55), 3) := by decide +kernel
theorem dX7_quickestOfFour_62 : decode cX7_quickestOfFour 62 = .ok (.iload_n 1, 1) := by decide +kernel
theorem dX7_quickestOfFour_63 : decode cX7_quickestOfFour 63 = .ok (.ireturn, 1) := by decide +kernel
theorem dX7_thousandths_0 : decode cX7_thousandths 0 = .ok (.aload_n 0, 1) := by decide +kernel
theorem dX7_thousandths_1 : decode cX7_thousandths 1 = .ok (.getfield 60, 3) := by decide +kernel
theorem dX7_thousandths_4 : decode cX7_thousandths 4 = .ok (.iload_n 1, 1) := by decide +kernel
theorem dX7_thousandths_5 : decode cX7_thousandths 5 = .ok (.iconst 3, 1) := by decide +kernel
theorem dX7_thousandths_6 : decode cX7_thousandths 6 = .ok (.iand, 1) := by decide +kernel
theorem dX7_thousandths_7 : decode cX7_thousandths 7 = .ok (.iaload, 1) := by decide +kernel
theorem dX7_thousandths_8 : decode cX7_thousandths 8 = .ok (.istore 4, 2) := by decide +kernel
theorem dX7_thousandths_10 : decode cX7_thousandths 10 = .ok (.aload_n 0, 1) := by decide +kernel
theorem dX7_thousandths_11 : decode cX7_thousandths 11 = .ok (.getfield 60, 3) := by decide +kernel
theorem dX7_thousandths_14 : decode cX7_thousandths 14 = .ok (.iload_n 1, 1) := by decide +kernel
theorem dX7_thousandths_15 : decode cX7_thousandths 15 = .ok (.iload_n 2, 1) := by decide +kernel
theorem dX7_thousandths_16 : decode cX7_thousandths 16 = .ok (.ixor, 1) := by decide +kernel
theorem dX7_thousandths_17 : decode cX7_thousandths 17 = .ok (.iconst 3, 1) := by decide +kernel
theorem dX7_thousandths_18 : decode cX7_thousandths 18 = .ok (.iand, 1) := by decide +kernel
theorem dX7_thousandths_19 : decode cX7_thousandths 19 = .ok (.iaload, 1) := by decide +kernel
theorem dX7_thousandths_20 : decode cX7_thousandths 20 = .ok (.istore 5, 2) := by decide +kernel
theorem dX7_thousandths_22 : decode cX7_thousandths 22 = .ok (.aload_n 0, 1) := by decide +kernel
theorem dX7_thousandths_23 : decode cX7_thousandths 23 = .ok (.getfield 60, 3) := by decide +kernel
theorem dX7_thousandths_26 : decode cX7_thousandths 26 = .ok (.iload_n 1, 1) := by decide +kernel
theorem dX7_thousandths_27 : decode cX7_thousandths 27 = .ok (.iload_n 2, 1) := by decide +kernel
theorem dX7_thousandths_28 : decode cX7_thousandths 28 = .ok (.iconst 3, 1) := by decide +kernel
theorem dX7_thousandths_29 : decode cX7_thousandths 29 = .ok (.irem, 1) := by decide +kernel
theorem dX7_thousandths_30 : decode cX7_thousandths 30 = .ok (.iconst 1, 1) := by decide +kernel
theorem dX7_thousandths_31 : decode cX7_thousandths 31 = .ok (.iadd, 1) := by decide +kernel
theorem dX7_thousandths_32 : decode cX7_thousandths 32 = .ok (.ixor, 1) := by decide +kernel
theorem dX7_thousandths_33 : decode cX7_thousandths 33 = .ok (.iconst 3, 1) := by decide +kernel
theorem dX7_thousandths_34 : decode cX7_thousandths 34 = .ok (.iand, 1) := by decide +kernel
theorem dX7_thousandths_35 : decode cX7_thousandths 35 = .ok (.iaload, 1) := by decide +kernel
theorem dX7_thousandths_36 : decode cX7_thousandths 36 = .ok (.istore 6, 2) := by decide +kernel
theorem dX7_thousandths_38 : decode cX7_thousandths 38 = .ok (.aload_n 0, 1) := by decide +kernel
theorem dX7_thousandths_39 : decode cX7_thousandths 39 = .ok (.getfield 60, 3) := by decide +kernel
theorem dX7_thousandths_42 : decode cX7_thousandths 42 = .ok (.iload_n 1, 1) := by decide +kernel
theorem dX7_thousandths_43 : decode cX7_thousandths 43 = .ok (.iload_n 2, 1) := by decide +kernel
theorem dX7_thousandths_44 : decode cX7_thousandths 44 = .ok (.iconst 1, 1) := by decide +kernel
theorem dX7_thousandths_45 : decode cX7_thousandths 45 = .ok (.iadd, 1) := by decide +kernel
theorem dX7_thousandths_46 : decode cX7_thousandths 46 = .ok (.iconst 3, 1) := by decide +kernel
theorem dX7_thousandths_47 : decode cX7_thousandths 47 = .ok (.irem, 1) := by decide +kernel
theorem dX7_thousandths_48 : decode cX7_thousandths 48 = .ok (.iconst 1, 1) := by decide +kernel
theorem dX7_thousandths_49 : decode cX7_thousandths 49 = .ok (.iadd, 1) := by decide +kernel
theorem dX7_thousandths_50 : decode cX7_thousandths 50 = .ok (.ixor, 1) := by decide +kernel
theorem dX7_thousandths_51 : decode cX7_thousandths 51 = .ok (.iconst 3, 1) := by decide +kernel
theorem dX7_thousandths_52 : decode cX7_thousandths 52 = .ok (.iand, 1) := by decide +kernel
theorem dX7_thousandths_53 : decode cX7_thousandths 53 = .ok (.iaload, 1) := by decide +kernel
theorem dX7_thousandths_54 : decode cX7_thousandths 54 = .ok (.istore 7, 2) := by decide +kernel
theorem dX7_thousandths_56 : decode cX7_thousandths 56 = .ok (.iload 6, 2) := by decide +kernel
theorem dX7_thousandths_58 : decode cX7_thousandths 58 = .ok (.iload 7, 2) := by decide +kernel
theorem dX7_thousandths_60 : decode cX7_thousandths 60 = .ok (.iload_n 3, 1) := by decide +kernel
theorem dX7_thousandths_61 : decode cX7_thousandths 61 = .ok (.invokestatic 239, 3) := by decide +kernel
theorem dX7_thousandths_64 : decode cX7_thousandths 64 = .ok (.iload 4, 2) := by decide +kernel
theorem dX7_thousandths_66 : decode cX7_thousandths 66 = .ok (.iload 6, 2) := by decide +kernel
theorem dX7_thousandths_68 : decode cX7_thousandths 68 = .ok (.iload_n 3, 1) := by decide +kernel
theorem dX7_thousandths_69 : decode cX7_thousandths 69 = .ok (.invokestatic 239, 3) := by decide +kernel
theorem dX7_thousandths_72 : decode cX7_thousandths 72 = .ok (.imul, 1) := by decide +kernel
theorem dX7_thousandths_73 : decode cX7_thousandths 73 = .ok (.istore 8, 2) := by decide +kernel
theorem dX7_thousandths_75 : decode cX7_thousandths 75 = .ok (.iload 7, 2) := by decide +kernel
theorem dX7_thousandths_77 : decode cX7_thousandths 77 = .ok (.iload 6, 2) := by decide +kernel
theorem dX7_thousandths_79 : decode cX7_thousandths 79 = .ok (.iload_n 3, 1) := by decide +kernel
theorem dX7_thousandths_80 : decode cX7_thousandths 80 = .ok (.invokestatic 239, 3) := by decide +kernel
theorem dX7_thousandths_83 : decode cX7_thousandths 83 = .ok (.iload 4, 2) := by decide +kernel
theorem dX7_thousandths_85 : decode cX7_thousandths 85 = .ok (.iload 7, 2) := by decide +kernel
theorem dX7_thousandths_87 : decode cX7_thousandths 87 = .ok (.iload_n 3, 1) := by decide +kernel
theorem dX7_thousandths_88 : decode cX7_thousandths 88 = .ok (.invokestatic 239, 3) := by decide +kernel
theorem dX7_thousandths_91 : decode cX7_thousandths 91 = .ok (.imul, 1) := by decide +kernel
theorem dX7_thousandths_92 : decode cX7_thousandths 92 = .ok (.istore 9, 2) := by decide +kernel
theorem dX7_thousandths_94 : decode cX7_thousandths 94 = .ok (.iload 4, 2) := by decide +kernel
theorem dX7_thousandths_96 : decode cX7_thousandths 96 = .ok (.iload 5, 2) := by decide +kernel
theorem dX7_thousandths_98 : decode cX7_thousandths 98 = .ok (.iload_n 3, 1) := by decide +kernel
theorem dX7_thousandths_99 : decode cX7_thousandths 99 = .ok (.invokestatic 239, 3) := by decide +kernel
theorem dX7_thousandths_102 : decode cX7_thousandths 102 = .ok (.iload 8, 2) := by decide +kernel
theorem dX7_thousandths_104 : decode cX7_thousandths 104 = .ok (.iload 9, 2) := by decide +kernel
theorem dX7_thousandths_106 : decode cX7_thousandths 106 = .ok (.iadd, 1) := by decide +kernel
theorem dX7_thousandths_107 : decode cX7_thousandths 107 = .ok (.imul, 1) := by decide +kernel
theorem dX7_thousandths_108 : decode cX7_thousandths 108 = .ok (.ireturn, 1) := by decide +kernel
theorem dX7_weighBends_0 : decode cX7_weighBends 0 = .ok (.iconst 0, 1) := by decide +kernel
theorem dX7_weighBends_1 : decode cX7_weighBends 1 = .ok (.istore_n 2, 1) := by decide +kernel
theorem dX7_weighBends_2 : decode cX7_weighBends 2 = .ok (.iload_n 2, 1) := by decide +kernel
theorem dX7_weighBends_3 : decode cX7_weighBends 3 = .ok (.iconst 4, 1) := by decide +kernel
theorem dX7_weighBends_4 : decode cX7_weighBends 4 = .ok (.if_icmp .ge 71, 3) := by decide +kernel
theorem dX7_weighBends_7 : decode cX7_weighBends 7 = .ok (.aload_n 0, 1) := by decide +kernel
theorem dX7_weighBends_8 : decode cX7_weighBends 8 = .ok (.getfield 64, 3) := by decide +kernel
theorem dX7_weighBends_11 : decode cX7_weighBends 11 = .ok (.iload_n 2, 1) := by decide +kernel
theorem dX7_weighBends_12 : decode cX7_weighBends 12 = .ok (.bipush 100, 2) := by decide +kernel
theorem dX7_weighBends_14 : decode cX7_weighBends 14 = .ok (.iastore, 1) := by decide +kernel
theorem dX7_weighBends_15 : decode cX7_weighBends 15 = .ok (.aload_n 0, 1) := by decide +kernel
theorem dX7_weighBends_16 : decode cX7_weighBends 16 = .ok (.getfield 19, 3) := by decide +kernel
theorem dX7_weighBends_19 : decode cX7_weighBends 19 = .ok (.iload_n 2, 1) := by decide +kernel
theorem dX7_weighBends_20 : decode cX7_weighBends 20 = .ok (.invokevirtual 342, 3) := by decide +kernel
theorem dX7_weighBends_23 : decode cX7_weighBends 23 = .ok (.istore_n 3, 1) := by decide +kernel
theorem dX7_weighBends_24 : decode cX7_weighBends 24 = .ok (.iload_n 3, 1) := by decide +kernel
theorem dX7_weighBends_25 : decode cX7_weighBends 25 = .ok (.iconst (-1), 1) := by decide +kernel
theorem dX7_weighBends_26 : decode cX7_weighBends 26 = .ok (.if_icmp .eq 43, 3) := by decide +kernel
theorem dX7_weighBends_29 : decode cX7_weighBends 29 = .ok (.aload_n 0, 1) := by decide +kernel
theorem dX7_weighBends_30 : decode cX7_weighBends 30 = .ok (.getfield 49, 3) := by decide +kernel
theorem dX7_weighBends_33 : decode cX7_weighBends 33 = .ok (.getfield 159, 3) := by decide +kernel
theorem dX7_weighBends_36 : decode cX7_weighBends 36 = .ok (.iload_n 3, 1) := by decide +kernel
theorem dX7_weighBends_37 : decode cX7_weighBends 37 = .ok (.iaload, 1) := by decide +kernel
theorem dX7_weighBends_38 : decode cX7_weighBends 38 = .ok (.iconst (-1), 1) := by decide +kernel
theorem dX7_weighBends_39 : decode cX7_weighBends 39 = .ok (.if_icmp .eq 30, 3) := by decide +kernel
theorem dX7_weighBends_42 : decode cX7_weighBends 42 = .ok (.aload_n 0, 1) := by decide +kernel
theorem dX7_weighBends_43 : decode cX7_weighBends 43 = .ok (.getfield 64, 3) := by decide +kernel
theorem dX7_weighBends_46 : decode cX7_weighBends 46 = .ok (.iload_n 2, 1) := by decide +kernel
theorem dX7_weighBends_47 : decode cX7_weighBends 47 = .ok (.aload_n 0, 1) := by decide +kernel
theorem dX7_weighBends_48 : decode cX7_weighBends 48 = .ok (.getfield 49, 3) := by decide +kernel
theorem dX7_weighBends_51 : decode cX7_weighBends 51 = .ok (.getfield 159, 3) := by decide +kernel
theorem dX7_weighBends_54 : decode cX7_weighBends 54 = .ok (.iload_n 3, 1) := by decide +kernel
theorem dX7_weighBends_55 : decode cX7_weighBends 55 = .ok (.iaload, 1) := by decide +kernel
theorem dX7_weighBends_56 : decode cX7_weighBends 56 = .ok (.aload_n 0, 1) := by decide +kernel
theorem dX7_weighBends_57 : decode cX7_weighBends 57 = .ok (.getfield 49, 3) := by decide +kernel
theorem dX7_weighBends_60 : decode cX7_weighBends 60 = .ok (.iload_n 3, 1) := by decide +kernel
theorem dX7_weighBends_61 : decode cX7_weighBends 61 = .ok (.invokevirtual 361, 3) := by decide +kernel
theorem dX7_weighBends_64 : decode cX7_weighBends 64 = .ok (.iload_n 1, 1) := by decide +kernel
theorem dX7_weighBends_65 : decode cX7_weighBends 65 = .ok (.invokestatic 364, 3) := by decide +kernel
theorem dX7_weighBends_68 : decode cX7_weighBends 68 = .ok (.iastore, 1) := by decide +kernel
theorem dX7_weighBends_69 : decode cX7_weighBends 69 = .ok (.iinc 2 1, 3) := by decide +kernel
theorem dX7_weighBends_72 : decode cX7_weighBends 72 = .ok (.goto (-70), 3) := by decide +kernel
theorem dX7_weighBends_75 : decode cX7_weighBends 75 = .ok (.return_, 1) := by decide +kernel
theorem dX7_safeHundredths_0 : decode cX7_safeHundredths 0 = .ok (.iload_n 0, 1) := by decide +kernel
theorem dX7_safeHundredths_1 : decode cX7_safeHundredths 1 = .ok (.iload_n 1, 1) := by decide +kernel
theorem dX7_safeHundredths_2 : decode cX7_safeHundredths 2 = .ok (.if_icmp .le 5, 3) := by decide +kernel
theorem dX7_safeHundredths_5 : decode cX7_safeHundredths 5 = .ok (.iconst 0, 1) := by decide +kernel
theorem dX7_safeHundredths_6 : decode cX7_safeHundredths 6 = .ok (.ireturn, 1) := by decide +kernel
theorem dX7_safeHundredths_7 : decode cX7_safeHundredths 7 = .ok (.bipush 100, 2) := by decide +kernel
theorem dX7_safeHundredths_9 : decode cX7_safeHundredths 9 = .ok (.bipush 10, 2) := by decide +kernel
theorem dX7_safeHundredths_11 : decode cX7_safeHundredths 11 = .ok (.bipush 10, 2) := by decide +kernel
theorem dX7_safeHundredths_13 : decode cX7_safeHundredths 13 = .ok (.iload_n 0, 1) := by decide +kernel
theorem dX7_safeHundredths_14 : decode cX7_safeHundredths 14 = .ok (.imul, 1) := by decide +kernel
theorem dX7_safeHundredths_15 : decode cX7_safeHundredths 15 = .ok (.iload_n 1, 1) := by decide +kernel
theorem dX7_safeHundredths_16 : decode cX7_safeHundredths 16 = .ok (.invokestatic 192, 3) := by decide +kernel
theorem dX7_safeHundredths_19 : decode cX7_safeHundredths 19 = .ok (.invokestatic 276, 3) := by decide +kernel
theorem dX7_safeHundredths_22 : decode cX7_safeHundredths 22 = .ok (.iload_n 2, 1) := by decide +kernel
theorem dX7_safeHundredths_23 : decode cX7_safeHundredths 23 = .ok (.imul, 1) := by decide +kernel
theorem dX7_safeHundredths_24 : decode cX7_safeHundredths 24 = .ok (.isub, 1) := by decide +kernel
theorem dX7_safeHundredths_25 : decode cX7_safeHundredths 25 = .ok (.ireturn, 1) := by decide +kernel
theorem dX7_stayingWith_0 : decode cX7_stayingWith 0 = .ok (.lconst 1, 1) := by decide +kernel
theorem dX7_stayingWith_1 : decode cX7_stayingWith 1 = .ok (.lstore_n 2, 1) := by decide +kernel
theorem dX7_stayingWith_2 : decode cX7_stayingWith 2 = .ok (.iconst 0, 1) := by decide +kernel
theorem dX7_stayingWith_3 : decode cX7_stayingWith 3 = .ok (.istore 4, 2) := by decide +kernel
theorem dX7_stayingWith_5 : decode cX7_stayingWith 5 = .ok (.iload 4, 2) := by decide +kernel
theorem dX7_stayingWith_7 : decode cX7_stayingWith 7 = .ok (.iconst 4, 1) := by decide +kernel
theorem dX7_stayingWith_8 : decode cX7_stayingWith 8 = .ok (.if_icmp .ge 48, 3) := by decide +kernel
theorem dX7_stayingWith_11 : decode cX7_stayingWith 11 = .ok (.iload_n 1, 1) := by decide +kernel
theorem dX7_stayingWith_12 : decode cX7_stayingWith 12 = .ok (.iload 4, 2) := by decide +kernel
theorem dX7_stayingWith_14 : decode cX7_stayingWith 14 = .ok (.ishr, 1) := by decide +kernel
theorem dX7_stayingWith_15 : decode cX7_stayingWith 15 = .ok (.iconst 1, 1) := by decide +kernel
theorem dX7_stayingWith_16 : decode cX7_stayingWith 16 = .ok (.iand, 1) := by decide +kernel
theorem dX7_stayingWith_17 : decode cX7_stayingWith 17 = .ok (.iconst 1, 1) := by decide +kernel
theorem dX7_stayingWith_18 : decode cX7_stayingWith 18 = .ok (.if_icmp .ne 7, 3) := by decide +kernel
theorem dX7_stayingWith_21 : decode cX7_stayingWith 21 = .ok (.iconst 1, 1) := by decide +kernel
theorem dX7_stayingWith_22 : decode cX7_stayingWith 22 = .ok (.goto 4, 3) := by decide +kernel
theorem dX7_stayingWith_25 : decode cX7_stayingWith 25 = .ok (.iconst 0, 1) := by decide +kernel
theorem dX7_stayingWith_26 : decode cX7_stayingWith 26 = .ok (.istore 5, 2) := by decide +kernel
theorem dX7_stayingWith_28 : decode cX7_stayingWith 28 = .ok (.lload_n 2, 1) := by decide +kernel
theorem dX7_stayingWith_29 : decode cX7_stayingWith 29 = .ok (.iload 5, 2) := by decide +kernel
theorem dX7_stayingWith_31 : decode cX7_stayingWith 31 = .ok (.ifCond .eq 9, 3) := by decide +kernel
theorem dX7_stayingWith_34 : decode cX7_stayingWith 34 = .ok (.ldc2_w 367, 3) := by decide +kernel
theorem dX7_stayingWith_37 : decode cX7_stayingWith 37 = .ok (.goto 11, 3) := by decide +kernel
theorem dX7_stayingWith_40 : decode cX7_stayingWith 40 = .ok (.aload_n 0, 1) := by decide +kernel
theorem dX7_stayingWith_41 : decode cX7_stayingWith 41 = .ok (.getfield 64, 3) := by decide +kernel
theorem dX7_stayingWith_44 : decode cX7_stayingWith 44 = .ok (.iload 4, 2) := by decide +kernel
theorem dX7_stayingWith_46 : decode cX7_stayingWith 46 = .ok (.iaload, 1) := by decide +kernel
theorem dX7_stayingWith_47 : decode cX7_stayingWith 47 = .ok (.i2l, 1) := by decide +kernel
theorem dX7_stayingWith_48 : decode cX7_stayingWith 48 = .ok (.lmul, 1) := by decide +kernel
theorem dX7_stayingWith_49 : decode cX7_stayingWith 49 = .ok (.lstore_n 2, 1) := by decide +kernel
theorem dX7_stayingWith_50 : decode cX7_stayingWith 50 = .ok (.iinc 4 1, 3) := by decide +kernel
theorem dX7_stayingWith_53 : decode cX7_stayingWith 53 = .ok (.goto (-48), 3) := by decide +kernel
theorem dX7_stayingWith_56 : decode cX7_stayingWith 56 = .ok (.lload_n 2, 1) := by decide +kernel
theorem dX7_stayingWith_57 : decode cX7_stayingWith 57 = .ok (.lreturn, 1) := by decide +kernel
theorem dX7_lowest_0 : decode cX7_lowest 0 = .ok (.lload_n 0, 1) := by decide +kernel
theorem dX7_lowest_1 : decode cX7_lowest 1 = .ok (.lstore 5, 2) := by decide +kernel
theorem dX7_lowest_3 : decode cX7_lowest 3 = .ok (.lload_n 2, 1) := by decide +kernel
theorem dX7_lowest_4 : decode cX7_lowest 4 = .ok (.lstore 7, 2) := by decide +kernel
theorem dX7_lowest_6 : decode cX7_lowest 6 = .ok (.iconst 0, 1) := by decide +kernel
theorem dX7_lowest_7 : decode cX7_lowest 7 = .ok (.istore 9, 2) := by decide +kernel
theorem dX7_lowest_9 : decode cX7_lowest 9 = .ok (.iload 9, 2) := by decide +kernel
theorem dX7_lowest_11 : decode cX7_lowest 11 = .ok (.bipush 100, 2) := by decide +kernel
theorem dX7_lowest_13 : decode cX7_lowest 13 = .ok (.if_icmp .ge 31, 3) := by decide +kernel
theorem dX7_lowest_16 : decode cX7_lowest 16 = .ok (.lload 7, 2) := by decide +kernel
theorem dX7_lowest_18 : decode cX7_lowest 18 = .ok (.lconst 0, 1) := by decide +kernel
theorem dX7_lowest_19 : decode cX7_lowest 19 = .ok (.lcmp, 1) := by decide +kernel
theorem dX7_lowest_20 : decode cX7_lowest 20 = .ok (.ifCond .eq 24, 3) := by decide +kernel
theorem dX7_lowest_23 : decode cX7_lowest 23 = .ok (.lload 5, 2) := by decide +kernel
theorem dX7_lowest_25 : decode cX7_lowest 25 = .ok (.lload 7, 2) := by decide +kernel
theorem dX7_lowest_27 : decode cX7_lowest 27 = .ok (.lrem, 1) := by decide +kernel
theorem dX7_lowest_28 : decode cX7_lowest 28 = .ok (.lstore 10, 2) := by decide +kernel
theorem dX7_lowest_30 : decode cX7_lowest 30 = .ok (.lload 7, 2) := by decide +kernel
theorem dX7_lowest_32 : decode cX7_lowest 32 = .ok (.lstore 5, 2) := by decide +kernel
theorem dX7_lowest_34 : decode cX7_lowest 34 = .ok (.lload 10, 2) := by decide +kernel
theorem dX7_lowest_36 : decode cX7_lowest 36 = .ok (.lstore 7, 2) := by decide +kernel
theorem dX7_lowest_38 : decode cX7_lowest 38 = .ok (.iinc 9 1, 3) := by decide +kernel
theorem dX7_lowest_41 : decode cX7_lowest 41 = .ok (.goto (-32), 3) := by decide +kernel
theorem dX7_lowest_44 : decode cX7_lowest 44 = .ok (.iload 4, 2) := by decide +kernel
theorem dX7_lowest_46 : decode cX7_lowest 46 = .ok (.ifCond .ne 7, 3) := by decide +kernel
theorem dX7_lowest_49 : decode cX7_lowest 49 = .ok (.lload_n 0, 1) := by decide +kernel
theorem dX7_lowest_50 : decode cX7_lowest 50 = .ok (.goto 4, 3) := by decide +kernel
theorem dX7_lowest_53 : decode cX7_lowest 53 = .ok (.lload_n 2, 1) := by decide +kernel
theorem dX7_lowest_54 : decode cX7_lowest 54 = .ok (.lstore 9, 2) := by decide +kernel
theorem dX7_lowest_56 : decode cX7_lowest 56 = .ok (.lload 5, 2) := by decide +kernel
theorem dX7_lowest_58 : decode cX7_lowest 58 = .ok (.lconst 0, 1) := by decide +kernel
theorem dX7_lowest_59 : decode cX7_lowest 59 = .ok (.lcmp, 1) := by decide +kernel
theorem dX7_lowest_60 : decode cX7_lowest 60 = .ok (.ifCond .le 11, 3) := by decide +kernel
theorem dX7_lowest_63 : decode cX7_lowest 63 = .ok (.lload 9, 2) := by decide +kernel
theorem dX7_lowest_65 : decode cX7_lowest 65 = .ok (.lload 5, 2) := by decide +kernel
theorem dX7_lowest_67 : decode cX7_lowest 67 = .ok (.ldiv, 1) := by decide +kernel
theorem dX7_lowest_68 : decode cX7_lowest 68 = .ok (.goto 5, 3) := by decide +kernel
theorem dX7_lowest_71 : decode cX7_lowest 71 = .ok (.lload 9, 2) := by decide +kernel
theorem dX7_lowest_73 : decode cX7_lowest 73 = .ok (.lreturn, 1) := by decide +kernel
theorem dX7_mixed_0 : decode cX7_mixed 0 = .ok (.ldc2_w 369, 3) := by decide +kernel
theorem dX7_mixed_3 : decode cX7_mixed 3 = .ok (.lload_n 0, 1) := by decide +kernel
theorem dX7_mixed_4 : decode cX7_mixed 4 = .ok (.lmul, 1) := by decide +kernel
theorem dX7_mixed_5 : decode cX7_mixed 5 = .ok (.iload_n 2, 1) := by decide +kernel
theorem dX7_mixed_6 : decode cX7_mixed 6 = .ok (.i2l, 1) := by decide +kernel
theorem dX7_mixed_7 : decode cX7_mixed 7 = .ok (.ladd, 1) := by decide +kernel
theorem dX7_mixed_8 : decode cX7_mixed 8 = .ok (.lreturn, 1) := by decide +kernel
theorem dX7_mixedCart_0 : decode cX7_mixedCart 0 = .ok (.lload_n 1, 1) := by decide +kernel
theorem dX7_mixedCart_1 : decode cX7_mixedCart 1 = .ok (.aload_n 0, 1) := by decide +kernel
theorem dX7_mixedCart_2 : decode cX7_mixedCart 2 = .ok (.getfield 25, 3) := by decide +kernel
theorem dX7_mixedCart_5 : decode cX7_mixedCart 5 = .ok (.iload_n 3, 1) := by decide +kernel
theorem dX7_mixedCart_6 : decode cX7_mixedCart 6 = .ok (.aaload, 1) := by decide +kernel
theorem dX7_mixedCart_7 : decode cX7_mixedCart 7 = .ok (.getfield 123, 3) := by decide +kernel
theorem dX7_mixedCart_10 : decode cX7_mixedCart 10 = .ok (.invokestatic 314, 3) := by decide +kernel
theorem dX7_mixedCart_13 : decode cX7_mixedCart 13 = .ok (.aload_n 0, 1) := by decide +kernel
theorem dX7_mixedCart_14 : decode cX7_mixedCart 14 = .ok (.getfield 25, 3) := by decide +kernel
theorem dX7_mixedCart_17 : decode cX7_mixedCart 17 = .ok (.iload_n 3, 1) := by decide +kernel
theorem dX7_mixedCart_18 : decode cX7_mixedCart 18 = .ok (.aaload, 1) := by decide +kernel
theorem dX7_mixedCart_19 : decode cX7_mixedCart 19 = .ok (.getfield 126, 3) := by decide +kernel
theorem dX7_mixedCart_22 : decode cX7_mixedCart 22 = .ok (.invokestatic 314, 3) := by decide +kernel
theorem dX7_mixedCart_25 : decode cX7_mixedCart 25 = .ok (.lstore 4, 2) := by decide +kernel
theorem dX7_mixedCart_27 : decode cX7_mixedCart 27 = .ok (.iconst 0, 1) := by decide +kernel
theorem dX7_mixedCart_28 : decode cX7_mixedCart 28 = .ok (.istore 6, 2) := by decide +kernel
theorem dX7_mixedCart_30 : decode cX7_mixedCart 30 = .ok (.iload 6, 2) := by decide +kernel
theorem dX7_mixedCart_32 : decode cX7_mixedCart 32 = .ok (.aload_n 0, 1) := by decide +kernel
theorem dX7_mixedCart_33 : decode cX7_mixedCart 33 = .ok (.getfield 25, 3) := by decide +kernel
theorem dX7_mixedCart_36 : decode cX7_mixedCart 36 = .ok (.iload_n 3, 1) := by decide +kernel
theorem dX7_mixedCart_37 : decode cX7_mixedCart 37 = .ok (.aaload, 1) := by decide +kernel
theorem dX7_mixedCart_38 : decode cX7_mixedCart 38 = .ok (.getfield 126, 3) := by decide +kernel
theorem dX7_mixedCart_41 : decode cX7_mixedCart 41 = .ok (.if_icmp .ge 43, 3) := by decide +kernel
theorem dX7_mixedCart_44 : decode cX7_mixedCart 44 = .ok (.lload 4, 2) := by decide +kernel
theorem dX7_mixedCart_46 : decode cX7_mixedCart 46 = .ok (.aload_n 0, 1) := by decide +kernel
theorem dX7_mixedCart_47 : decode cX7_mixedCart 47 = .ok (.getfield 25, 3) := by decide +kernel
theorem dX7_mixedCart_50 : decode cX7_mixedCart 50 = .ok (.iload_n 3, 1) := by decide +kernel
theorem dX7_mixedCart_51 : decode cX7_mixedCart 51 = .ok (.aaload, 1) := by decide +kernel
theorem dX7_mixedCart_52 : decode cX7_mixedCart 52 = .ok (.getfield 131, 3) := by decide +kernel
theorem dX7_mixedCart_55 : decode cX7_mixedCart 55 = .ok (.iload 6, 2) := by decide +kernel
theorem dX7_mixedCart_57 : decode cX7_mixedCart 57 = .ok (.iaload, 1) := by decide +kernel
theorem dX7_mixedCart_58 : decode cX7_mixedCart 58 = .ok (.invokestatic 314, 3) := by decide +kernel
theorem dX7_mixedCart_61 : decode cX7_mixedCart 61 = .ok (.aload_n 0, 1) := by decide +kernel
theorem dX7_mixedCart_62 : decode cX7_mixedCart 62 = .ok (.getfield 25, 3) := by decide +kernel
theorem dX7_mixedCart_65 : decode cX7_mixedCart 65 = .ok (.iload_n 3, 1) := by decide +kernel
theorem dX7_mixedCart_66 : decode cX7_mixedCart 66 = .ok (.aaload, 1) := by decide +kernel
theorem dX7_mixedCart_67 : decode cX7_mixedCart 67 = .ok (.getfield 134, 3) := by decide +kernel
theorem dX7_mixedCart_70 : decode cX7_mixedCart 70 = .ok (.iload 6, 2) := by decide +kernel
theorem dX7_mixedCart_72 : decode cX7_mixedCart 72 = .ok (.iaload, 1) := by decide +kernel
theorem dX7_mixedCart_73 : decode cX7_mixedCart 73 = .ok (.invokestatic 314, 3) := by decide +kernel
theorem dX7_mixedCart_76 : decode cX7_mixedCart 76 = .ok (.lstore 4, 2) := by decide +kernel
theorem dX7_mixedCart_78 : decode cX7_mixedCart 78 = .ok (.iinc 6 1, 3) := by decide +kernel
theorem dX7_mixedCart_81 : decode cX7_mixedCart 81 = .ok (.goto (-51), 3) := by decide +kernel
theorem dX7_mixedCart_84 : decode cX7_mixedCart 84 = .ok (.lload 4, 2) := by decide +kernel
theorem dX7_mixedCart_86 : decode cX7_mixedCart 86 = .ok (.aload_n 0, 1) := by decide +kernel
theorem dX7_mixedCart_87 : decode cX7_mixedCart 87 = .ok (.iload_n 3, 1) := by decide +kernel
theorem dX7_mixedCart_88 : decode cX7_mixedCart 88 = .ok (.sipush 400, 3) := by decide +kernel
theorem dX7_mixedCart_91 : decode cX7_mixedCart 91 = .ok (.invokevirtual 226, 3) := by decide +kernel
theorem dX7_mixedCart_94 : decode cX7_mixedCart 94 = .ok (.invokestatic 314, 3) := by decide +kernel
theorem dX7_mixedCart_97 : decode cX7_mixedCart 97 = .ok (.lstore 4, 2) := by decide +kernel
theorem dX7_mixedCart_99 : decode cX7_mixedCart 99 = .ok (.aload_n 0, 1) := by decide +kernel
theorem dX7_mixedCart_100 : decode cX7_mixedCart 100 = .ok (.getfield 19, 3) := by decide +kernel
theorem dX7_mixedCart_103 : decode cX7_mixedCart 103 = .ok (.getfield 100, 3) := by decide +kernel
theorem dX7_mixedCart_106 : decode cX7_mixedCart 106 = .ok (.ifCond .le 41, 3) := by decide +kernel
theorem dX7_mixedCart_109 : decode cX7_mixedCart 109 = .ok (.aload_n 0, 1) := by decide +kernel
theorem dX7_mixedCart_110 : decode cX7_mixedCart 110 = .ok (.iload_n 3, 1) := by decide +kernel
theorem dX7_mixedCart_111 : decode cX7_mixedCart 111 = .ok (.bipush 100, 2) := by decide +kernel
theorem dX7_mixedCart_113 : decode cX7_mixedCart 113 = .ok (.invokevirtual 148, 3) := by decide +kernel
theorem dX7_mixedCart_116 : decode cX7_mixedCart 116 = .ok (.iconst 0, 1) := by decide +kernel
theorem dX7_mixedCart_117 : decode cX7_mixedCart 117 = .ok (.istore 6, 2) := by decide +kernel
theorem dX7_mixedCart_119 : decode cX7_mixedCart 119 = .ok (.iload 6, 2) := by decide +kernel
theorem dX7_mixedCart_121 : decode cX7_mixedCart 121 = .ok (.iconst 3, 1) := by decide +kernel
theorem dX7_mixedCart_122 : decode cX7_mixedCart 122 = .ok (.if_icmp .gt 25, 3) := by decide +kernel
theorem dX7_mixedCart_125 : decode cX7_mixedCart 125 = .ok (.lload 4, 2) := by decide +kernel
theorem dX7_mixedCart_127 : decode cX7_mixedCart 127 = .ok (.aload_n 0, 1) := by decide +kernel
theorem dX7_mixedCart_128 : decode cX7_mixedCart 128 = .ok (.getfield 49, 3) := by decide +kernel
theorem dX7_mixedCart_131 : decode cX7_mixedCart 131 = .ok (.iload 6, 2) := by decide +kernel
theorem dX7_mixedCart_133 : decode cX7_mixedCart 133 = .ok (.invokevirtual 152, 3) := by decide +kernel
theorem dX7_mixedCart_136 : decode cX7_mixedCart 136 = .ok (.invokestatic 314, 3) := by decide +kernel
theorem dX7_mixedCart_139 : decode cX7_mixedCart 139 = .ok (.lstore 4, 2) := by decide +kernel
theorem dX7_mixedCart_141 : decode cX7_mixedCart 141 = .ok (.iinc 6 1, 3) := by decide +kernel
theorem dX7_mixedCart_144 : decode cX7_mixedCart 144 = .ok (.goto (-25), 3) := by decide +kernel
theorem dX7_mixedCart_147 : decode cX7_mixedCart 147 = .ok (.lload 4, 2) := by decide +kernel
theorem dX7_mixedCart_149 : decode cX7_mixedCart 149 = .ok (.lreturn, 1) := by decide +kernel
theorem dX8_init_0 : decode cX8_init 0 = .ok (.aload_n 0, 1) := by decide +kernel
theorem dX8_init_1 : decode cX8_init 1 = .ok (.invokespecial 1, 3) := by decide +kernel
theorem dX8_init_4 : decode cX8_init 4 = .ok (.aload_n 0, 1) := by decide +kernel
theorem dX8_init_5 : decode cX8_init 5 = .ok (.bipush 50, 2) := by decide +kernel
theorem dX8_init_7 : decode cX8_init 7 = .ok (.newarray .int, 2) := by decide +kernel
theorem dX8_init_9 : decode cX8_init 9 = .ok (.putfield 7, 3) := by decide +kernel
theorem dX8_init_12 : decode cX8_init 12 = .ok (.aload_n 0, 1) := by decide +kernel
theorem dX8_init_13 : decode cX8_init 13 = .ok (.bipush 36, 2) := by decide +kernel
theorem dX8_init_15 : decode cX8_init 15 = .ok (.newarray .int, 2) := by decide +kernel
theorem dX8_init_17 : decode cX8_init 17 = .ok (.putfield 13, 3) := by decide +kernel
theorem dX8_init_20 : decode cX8_init 20 = .ok (.aload_n 0, 1) := by decide +kernel
theorem dX8_init_21 : decode cX8_init 21 = .ok (.bipush 12, 2) := by decide +kernel
theorem dX8_init_23 : decode cX8_init 23 = .ok (.newarray .int, 2) := by decide +kernel
theorem dX8_init_25 : decode cX8_init 25 = .ok (.putfield 16, 3) := by decide +kernel
theorem dX8_init_28 : decode cX8_init 28 = .ok (.aload_n 0, 1) := by decide +kernel
theorem dX8_init_29 : decode cX8_init 29 = .ok (.bipush 12, 2) := by decide +kernel
theorem dX8_init_31 : decode cX8_init 31 = .ok (.newarray .int, 2) := by decide +kernel
theorem dX8_init_33 : decode cX8_init 33 = .ok (.putfield 19, 3) := by decide +kernel
theorem dX8_init_36 : decode cX8_init 36 = .ok (.aload_n 0, 1) := by decide +kernel
theorem dX8_init_37 : decode cX8_init 37 = .ok (.bipush 12, 2) := by decide +kernel
theorem dX8_init_39 : decode cX8_init 39 = .ok (.newarray .int, 2) := by decide +kernel
theorem dX8_init_41 : decode cX8_init 41 = .ok (.putfield 22, 3) := by decide +kernel
theorem dX8_init_44 : decode cX8_init 44 = .ok (.aload_n 0, 1) := by decide +kernel
theorem dX8_init_45 : decode cX8_init 45 = .ok (.bipush 12, 2) := by decide +kernel
theorem dX8_init_47 : decode cX8_init 47 = .ok (.newarray .int, 2) := by decide +kernel
theorem dX8_init_49 : decode cX8_init 49 = .ok (.putfield 25, 3) := by decide +kernel
theorem dX8_init_52 : decode cX8_init 52 = .ok (.aload_n 0, 1) := by decide +kernel
theorem dX8_init_53 : decode cX8_init 53 = .ok (.bipush 8, 2) := by decide +kernel
theorem dX8_init_55 : decode cX8_init 55 = .ok (.newarray .int, 2) := by decide +kernel
theorem dX8_init_57 : decode cX8_init 57 = .ok (.putfield 28, 3) := by decide +kernel
theorem dX8_init_60 : decode cX8_init 60 = .ok (.aload_n 0, 1) := by decide +kernel
theorem dX8_init_61 : decode cX8_init 61 = .ok (.bipush 8, 2) := by decide +kernel
theorem dX8_init_63 : decode cX8_init 63 = .ok (.newarray .int, 2) := by decide +kernel
theorem dX8_init_65 : decode cX8_init 65 = .ok (.putfield 31, 3) := by decide +kernel
theorem dX8_init_68 : decode cX8_init 68 = .ok (.aload_n 0, 1) := by decide +kernel
theorem dX8_init_69 : decode cX8_init 69 = .ok (.bipush 80, 2) := by decide +kernel
theorem dX8_init_71 : decode cX8_init 71 = .ok (.newarray .int, 2) := by decide +kernel
theorem dX8_init_73 : decode cX8_init 73 = .ok (.putfield 34, 3) := by decide +kernel
theorem dX8_init_76 : decode cX8_init 76 = .ok (.aload_n 0, 1) := by decide +kernel
theorem dX8_init_77 : decode cX8_init 77 = .ok (.bipush 6, 2) := by decide +kernel
theorem dX8_init_79 : decode cX8_init 79 = .ok (.newarray .int, 2) := by decide +kernel
theorem dX8_init_81 : decode cX8_init 81 = .ok (.putfield 37, 3) := by decide +kernel
theorem dX8_init_84 : decode cX8_init 84 = .ok (.aload_n 0, 1) := by decide +kernel
theorem dX8_init_85 : decode cX8_init 85 = .ok (.bipush 6, 2) := by decide +kernel
theorem dX8_init_87 : decode cX8_init 87 = .ok (.newarray .int, 2) := by decide +kernel
theorem dX8_init_89 : decode cX8_init 89 = .ok (.putfield 40, 3) := by decide +kernel
theorem dX8_init_92 : decode cX8_init 92 = .ok (.aload_n 0, 1) := by decide +kernel
theorem dX8_init_93 : decode cX8_init 93 = .ok (.bipush 12, 2) := by decide +kernel
theorem dX8_init_95 : decode cX8_init 95 = .ok (.newarray .int, 2) := by decide +kernel
theorem dX8_init_97 : decode cX8_init 97 = .ok (.putfield 43, 3) := by decide +kernel
theorem dX8_init_100 : decode cX8_init 100 = .ok (.aload_n 0, 1) := by decide +kernel
theorem dX8_init_101 : decode cX8_init 101 = .ok (.bipush 12, 2) := by decide +kernel
theorem dX8_init_103 : decode cX8_init 103 = .ok (.newarray .int, 2) := by decide +kernel
theorem dX8_init_105 : decode cX8_init 105 = .ok (.putfield 46, 3) := by decide +kernel
theorem dX8_init_108 : decode cX8_init 108 = .ok (.aload_n 0, 1) := by decide +kernel
theorem dX8_init_109 : decode cX8_init 109 = .ok (.bipush 6, 2) := by decide +kernel
theorem dX8_init_111 : decode cX8_init 111 = .ok (.newarray .int, 2) := by decide +kernel
theorem dX8_init_113 : decode cX8_init 113 = .ok (.putfield 49, 3) := by decide +kernel
theorem dX8_init_116 : decode cX8_init 116 = .ok (.aload_n 0, 1) := by decide +kernel
theorem dX8_init_117 : decode cX8_init 117 = .ok (.bipush 24, 2) := by decide +kernel
theorem dX8_init_119 : decode cX8_init 119 = .ok (.newarray .int, 2) := by decide +kernel
theorem dX8_init_121 : decode cX8_init 121 = .ok (.putfield 52, 3) := by decide +kernel
theorem dX8_init_124 : decode cX8_init 124 = .ok (.aload_n 0, 1) := by decide +kernel
theorem dX8_init_125 : decode cX8_init 125 = .ok (.iconst 4, 1) := by decide +kernel
theorem dX8_init_126 : decode cX8_init 126 = .ok (.newarray .int, 2) := by decide +kernel
theorem dX8_init_128 : decode cX8_init 128 = .ok (.putfield 55, 3) := by decide +kernel
theorem dX8_init_131 : decode cX8_init 131 = .ok (.aload_n 0, 1) := by decide +kernel
theorem dX8_init_132 : decode cX8_init 132 = .ok (.bipush 12, 2) := by decide +kernel
theorem dX8_init_134 : decode cX8_init 134 = .ok (.newarray .int, 2) := by decide +kernel
theorem dX8_init_136 : decode cX8_init 136 = .ok (.putfield 58, 3) := by decide +kernel
theorem dX8_init_139 : decode cX8_init 139 = .ok (.aload_n 0, 1) := by decide +kernel
theorem dX8_init_140 : decode cX8_init 140 = .ok (.bipush 8, 2) := by decide +kernel
theorem dX8_init_142 : decode cX8_init 142 = .ok (.newarray .int, 2) := by decide +kernel
theorem dX8_init_144 : decode cX8_init 144 = .ok (.putfield 61, 3) := by decide +kernel
theorem dX8_init_147 : decode cX8_init 147 = .ok (.aload_n 0, 1) := by decide +kernel
theorem dX8_init_148 : decode cX8_init 148 = .ok (.bipush 24, 2) := by decide +kernel
theorem dX8_init_150 : decode cX8_init 150 = .ok (.newarray .int, 2) := by decide +kernel
theorem dX8_init_152 : decode cX8_init 152 = .ok (.putfield 64, 3) := by decide +kernel
theorem dX8_init_155 : decode cX8_init 155 = .ok (.aload_n 0, 1) := by decide +kernel
theorem dX8_init_156 : decode cX8_init 156 = .ok (.bipush 9, 2) := by decide +kernel
theorem dX8_init_158 : decode cX8_init 158 = .ok (.putfield 67, 3) := by decide +kernel
theorem dX8_init_161 : decode cX8_init 161 = .ok (.aload_n 0, 1) := by decide +kernel
theorem dX8_init_162 : decode cX8_init 162 = .ok (.iconst (-1), 1) := by decide +kernel
theorem dX8_init_163 : decode cX8_init 163 = .ok (.putfield 71, 3) := by decide +kernel
theorem dX8_init_166 : decode cX8_init 166 = .ok (.return_, 1) := by decide +kernel
theorem dX8_in_0 : decode cX8_in 0 = .ok (.lload_n 0, 1) := by decide +kernel
theorem dX8_in_1 : decode cX8_in 1 = .ok (.lload_n 2, 1) := by decide +kernel
theorem dX8_in_2 : decode cX8_in 2 = .ok (.lcmp, 1) := by decide +kernel
theorem dX8_in_3 : decode cX8_in 3 = .ok (.ifCond .lt 14, 3) := by decide +kernel
theorem dX8_in_6 : decode cX8_in 6 = .ok (.lload_n 0, 1) := by decide +kernel
theorem dX8_in_7 : decode cX8_in 7 = .ok (.lload 4, 2) := by decide +kernel
theorem dX8_in_9 : decode cX8_in 9 = .ok (.lcmp, 1) := by decide +kernel
theorem dX8_in_10 : decode cX8_in 10 = .ok (.ifCond .gt 7, 3) := by decide +kernel
theorem dX8_in_13 : decode cX8_in 13 = .ok (.iconst 1, 1) := by decide +kernel
theorem dX8_in_14 : decode cX8_in 14 = .ok (.goto 4, 3) := by decide +kernel
theorem dX8_in_17 : decode cX8_in 17 = .ok (.iconst 0, 1) := by decide +kernel
theorem dX8_in_18 : decode cX8_in 18 = .ok (.ireturn, 1) := by decide +kernel
theorem dX8_letters_0 : decode cX8_letters 0 = .ok (.iconst 0, 1) := by decide +kernel
theorem dX8_letters_1 : decode cX8_letters 1 = .ok (.istore_n 3, 1) := by decide +kernel
theorem dX8_letters_2 : decode cX8_letters 2 = .ok (.iconst 1, 1) := by decide +kernel
theorem dX8_letters_3 : decode cX8_letters 3 = .ok (.istore 4, 2) := by decide +kernel
theorem dX8_letters_5 : decode cX8_letters 5 = .ok (.lload_n 1, 1) := by decide +kernel
theorem dX8_letters_6 : decode cX8_letters 6 = .ok (.lstore 5, 2) := by decide +kernel
theorem dX8_letters_8 : decode cX8_letters 8 = .ok (.iconst 0, 1) := by decide +kernel
theorem dX8_letters_9 : decode cX8_letters 9 = .ok (.istore 7, 2) := by decide +kernel
theorem dX8_letters_11 : decode cX8_letters 11 = .ok (.iload 7, 2) := by decide +kernel
theorem dX8_letters_13 : decode cX8_letters 13 = .ok (.bipush 8, 2) := by decide +kernel
theorem dX8_letters_15 : decode cX8_letters 15 = .ok (.if_icmp .ge 68, 3) := by decide +kernel
theorem dX8_letters_18 : decode cX8_letters 18 = .ok (.lload 5, 2) := by decide +kernel
theorem dX8_letters_20 : decode cX8_letters 20 = .ok (.ldc2_w 74, 3) := by decide +kernel
theorem dX8_letters_23 : decode cX8_letters 23 = .ok (.land, 1) := by decide +kernel
theorem dX8_letters_24 : decode cX8_letters 24 = .ok (.l2i, 1) := by decide +kernel
theorem dX8_letters_25 : decode cX8_letters 25 = .ok (.istore 8, 2) := by decide +kernel
theorem dX8_letters_27 : decode cX8_letters 27 = .ok (.lload 5, 2) := by decide +kernel
theorem dX8_letters_29 : decode cX8_letters 29 = .ok (.bipush 8, 2) := by decide +kernel
theorem dX8_letters_31 : decode cX8_letters 31 = .ok (.lushr, 1) := by decide +kernel
theorem dX8_letters_32 : decode cX8_letters 32 = .ok (.lstore 5, 2) := by decide +kernel
theorem dX8_letters_34 : decode cX8_letters 34 = .ok (.iload 4, 2) := by decide +kernel
theorem dX8_letters_36 : decode cX8_letters 36 = .ok (.ifCond .eq 25, 3) := by decide +kernel
theorem dX8_letters_39 : decode cX8_letters 39 = .ok (.iload 8, 2) := by decide +kernel
theorem dX8_letters_41 : decode cX8_letters 41 = .ok (.bipush 126, 2) := by decide +kernel
theorem dX8_letters_43 : decode cX8_letters 43 = .ok (.if_icmp .gt 18, 3) := by decide +kernel
theorem dX8_letters_46 : decode cX8_letters 46 = .ok (.iload 8, 2) := by decide +kernel
theorem dX8_letters_48 : decode cX8_letters 48 = .ok (.ifCond .eq 9, 3) := by decide +kernel
theorem dX8_letters_51 : decode cX8_letters 51 = .ok (.iload_n 3, 1) := by decide +kernel
theorem dX8_letters_52 : decode cX8_letters 52 = .ok (.iload 7, 2) := by decide +kernel
theorem dX8_letters_54 : decode cX8_letters 54 = .ok (.if_icmp .ne 7, 3) := by decide +kernel
theorem dX8_letters_57 : decode cX8_letters 57 = .ok (.iconst 1, 1) := by decide +kernel
theorem dX8_letters_58 : decode cX8_letters 58 = .ok (.goto 4, 3) := by decide +kernel
theorem dX8_letters_61 : decode cX8_letters 61 = .ok (.iconst 0, 1) := by decide +kernel
theorem dX8_letters_62 : decode cX8_letters 62 = .ok (.istore 4, 2) := by decide +kernel
theorem dX8_letters_64 : decode cX8_letters 64 = .ok (.iload_n 3, 1) := by decide +kernel
theorem dX8_letters_65 : decode cX8_letters 65 = .ok (.iload 8, 2) := by decide +kernel
theorem dX8_letters_67 : decode cX8_letters 67 = .ok (.ifCond .le 7, 3) := by decide +kernel
theorem dX8_letters_70 : decode cX8_letters 70 = .ok (.iconst 1, 1) := by decide +kernel
theorem dX8_letters_71 : decode cX8_letters 71 = .ok (.goto 4, 3) := by decide +kernel
theorem dX8_letters_74 : decode cX8_letters 74 = .ok (.iconst 0, 1) := by decide +kernel
theorem dX8_letters_75 : decode cX8_letters 75 = .ok (.iadd, 1) := by decide +kernel
theorem dX8_letters_76 : decode cX8_letters 76 = .ok (.istore_n 3, 1) := by decide +kernel
theorem dX8_letters_77 : decode cX8_letters 77 = .ok (.iinc 7 1, 3) := by decide +kernel
theorem dX8_letters_80 : decode cX8_letters 80 = .ok (.goto (-69), 3) := by decide +kernel
theorem dX8_letters_83 : decode cX8_letters 83 = .ok (.iload 4, 2) := by decide +kernel
theorem dX8_letters_85 : decode cX8_letters 85 = .ok (.ifCond .ne 6, 3) := by decide +kernel
theorem dX8_letters_88 : decode cX8_letters 88 = .ok (.bipush (-102), 2) := by decide +kernel
theorem dX8_letters_90 : decode cX8_letters 90 = .ok (.ireturn, 1) := by decide +kernel
theorem dX8_letters_91 : decode cX8_letters 91 = .ok (.aload_n 0, 1) := by decide +kernel
theorem dX8_letters_92 : decode cX8_letters 92 = .ok (.getfield 76, 3) := by decide +kernel
theorem dX8_letters_95 : decode cX8_letters 95 = .ok (.iload_n 3, 1) := by decide +kernel
theorem dX8_letters_96 : decode cX8_letters 96 = .ok (.iadd, 1) := by decide +kernel
theorem dX8_letters_97 : decode cX8_letters 97 = .ok (.bipush 50, 2) := by decide +kernel
theorem dX8_letters_99 : decode cX8_letters 99 = .ok (.if_icmp .le 6, 3) := by decide +kernel
theorem dX8_letters_102 : decode cX8_letters 102 = .ok (.bipush (-104), 2) := by decide +kernel
theorem dX8_letters_104 : decode cX8_letters 104 = .ok (.ireturn, 1) := by decide +kernel
theorem dX8_letters_105 : decode cX8_letters 105 = .ok (.iconst 0, 1) := by decide +kernel
theorem dX8_letters_106 : decode cX8_letters 106 = .ok (.istore 7, 2) := by decide +kernel
theorem dX8_letters_108 : decode cX8_letters 108 = .ok (.iload 7, 2) := by decide +kernel
theorem dX8_letters_110 : decode cX8_letters 110 = .ok (.iload_n 3, 1) := by decide +kernel
theorem dX8_letters_111 : decode cX8_letters 111 = .ok (.if_icmp .ge 40, 3) := by decide +kernel
theorem dX8_letters_114 : decode cX8_letters 114 = .ok (.aload_n 0, 1) := by decide +kernel
theorem dX8_letters_115 : decode cX8_letters 115 = .ok (.getfield 7, 3) := by decide +kernel
theorem dX8_letters_118 : decode cX8_letters 118 = .ok (.aload_n 0, 1) := by decide +kernel
theorem dX8_letters_119 : decode cX8_letters 119 = .ok (.getfield 76, 3) := by decide +kernel
theorem dX8_letters_122 : decode cX8_letters 122 = .ok (.lload_n 1, 1) := by decide +kernel
theorem dX8_letters_123 : decode cX8_letters 123 = .ok (.bipush 8, 2) := by decide +kernel
theorem dX8_letters_125 : decode cX8_letters 125 = .ok (.iload 7, 2) := by decide +kernel
theorem dX8_letters_127 : decode cX8_letters 127 = .ok (.imul, 1) := by decide +kernel
theorem dX8_letters_128 : decode cX8_letters 128 = .ok (.lushr, 1) := by decide +kernel
theorem dX8_letters_129 : decode cX8_letters 129 = .ok (.ldc2_w 74, 3) := by decide +kernel
theorem dX8_letters_132 : decode cX8_letters 132 = .ok (.land, 1) := by decide +kernel
theorem dX8_letters_133 : decode cX8_letters 133 = .ok (.l2i, 1) := by decide +kernel
theorem dX8_letters_134 : decode cX8_letters 134 = .ok (.iastore, 1) := by decide +kernel
theorem dX8_letters_135 : decode cX8_letters 135 = .ok (.aload_n 0, 1) := by decide +kernel
theorem dX8_letters_136 : decode cX8_letters 136 = .ok (.dup, 1) := by decide +kernel
theorem dX8_letters_137 : decode cX8_letters 137 = .ok (.getfield 76, 3) := by decide +kernel
theorem dX8_letters_140 : decode cX8_letters 140 = .ok (.iconst 1, 1) := by decide +kernel
theorem dX8_letters_141 : decode cX8_letters 141 = .ok (.iadd, 1) := by decide +kernel
theorem dX8_letters_142 : decode cX8_letters 142 = .ok (.putfield 76, 3) := by decide +kernel
theorem dX8_letters_145 : decode cX8_letters 145 = .ok (.iinc 7 1, 3) := by decide +kernel
theorem dX8_letters_148 : decode cX8_letters 148 = .ok (.goto (-40), 3) := by decide +kernel
theorem dX8_letters_151 : decode cX8_letters 151 = .ok (.aload_n 0, 1) := by decide +kernel
theorem dX8_letters_152 : decode cX8_letters 152 = .ok (.getfield 76, 3) := by decide +kernel
theorem dX8_letters_155 : decode cX8_letters 155 = .ok (.ireturn, 1) := by decide +kernel
theorem dX8_blank_0 : decode cX8_blank 0 = .ok (.aload_n 0, 1) := by decide +kernel
theorem dX8_blank_1 : decode cX8_blank 1 = .ok (.getfield 76, 3) := by decide +kernel
theorem dX8_blank_4 : decode cX8_blank 4 = .ok (.istore_n 1, 1) := by decide +kernel
theorem dX8_blank_5 : decode cX8_blank 5 = .ok (.aload_n 0, 1) := by decide +kernel
theorem dX8_blank_6 : decode cX8_blank 6 = .ok (.iconst 0, 1) := by decide +kernel
theorem dX8_blank_7 : decode cX8_blank 7 = .ok (.putfield 76, 3) := by decide +kernel
theorem dX8_blank_10 : decode cX8_blank 10 = .ok (.iload_n 1, 1) := by decide +kernel
theorem dX8_blank_11 : decode cX8_blank 11 = .ok (.ireturn, 1) := by decide +kernel
theorem dX8_goHill_0 : decode cX8_goHill 0 = .ok (.iconst 3, 1) := by decide +kernel
theorem dX8_goHill_1 : decode cX8_goHill 1 = .ok (.aload_n 0, 1) := by decide +kernel
theorem dX8_goHill_2 : decode cX8_goHill 2 = .ok (.getfield 79, 3) := by decide +kernel
theorem dX8_goHill_5 : decode cX8_goHill 5 = .ok (.imul, 1) := by decide +kernel
theorem dX8_goHill_6 : decode cX8_goHill 6 = .ok (.istore_n 2, 1) := by decide +kernel
theorem dX8_goHill_7 : decode cX8_goHill 7 = .ok (.aload_n 0, 1) := by decide +kernel
theorem dX8_goHill_8 : decode cX8_goHill 8 = .ok (.getfield 82, 3) := by decide +kernel
theorem dX8_goHill_11 : decode cX8_goHill 11 = .ok (.tableswitch 142 0 2 #[25, 70, 113], 25) := by decide +kernel
theorem dX8_goHill_36 : decode cX8_goHill 36 = .ok (.aload_n 0, 1) := by decide +kernel
theorem dX8_goHill_37 : decode cX8_goHill 37 = .ok (.getfield 13, 3) := by decide +kernel
theorem dX8_goHill_40 : decode cX8_goHill 40 = .ok (.iload_n 2, 1) := by decide +kernel
theorem dX8_goHill_41 : decode cX8_goHill 41 = .ok (.iload_n 1, 1) := by decide +kernel
theorem dX8_goHill_42 : decode cX8_goHill 42 = .ok (.bipush 48, 2) := by decide +kernel
theorem dX8_goHill_44 : decode cX8_goHill 44 = .ok (.isub, 1) := by decide +kernel
theorem dX8_goHill_45 : decode cX8_goHill 45 = .ok (.iastore, 1) := by decide +kernel
theorem dX8_goHill_46 : decode cX8_goHill 46 = .ok (.aload_n 0, 1) := by decide +kernel
theorem dX8_goHill_47 : decode cX8_goHill 47 = .ok (.getfield 13, 3) := by decide +kernel
theorem dX8_goHill_50 : decode cX8_goHill 50 = .ok (.iload_n 2, 1) := by decide +kernel
theorem dX8_goHill_51 : decode cX8_goHill 51 = .ok (.iconst 1, 1) := by decide +kernel
theorem dX8_goHill_52 : decode cX8_goHill 52 = .ok (.iadd, 1) := by decide +kernel
theorem dX8_goHill_53 : decode cX8_goHill 53 = .ok (.iconst 0, 1) := by decide +kernel
theorem dX8_goHill_54 : decode cX8_goHill 54 = .ok (.iastore, 1) := by decide +kernel
theorem dX8_goHill_55 : decode cX8_goHill 55 = .ok (.aload_n 0, 1) := by decide +kernel
theorem dX8_goHill_56 : decode cX8_goHill 56 = .ok (.getfield 13, 3) := by decide +kernel
theorem dX8_goHill_59 : decode cX8_goHill 59 = .ok (.iload_n 2, 1) := by decide +kernel
theorem dX8_goHill_60 : decode cX8_goHill 60 = .ok (.iconst 2, 1) := by decide +kernel
theorem dX8_goHill_61 : decode cX8_goHill 61 = .ok (.iadd, 1) := by decide +kernel
theorem dX8_goHill_62 : decode cX8_goHill 62 = .ok (.iconst 0, 1) := by decide +kernel
theorem dX8_goHill_63 : decode cX8_goHill 63 = .ok (.iastore, 1) := by decide +kernel
theorem dX8_goHill_64 : decode cX8_goHill 64 = .ok (.aload_n 0, 1) := by decide +kernel
theorem dX8_goHill_65 : decode cX8_goHill 65 = .ok (.iconst 1, 1) := by decide +kernel
theorem dX8_goHill_66 : decode cX8_goHill 66 = .ok (.putfield 82, 3) := by decide +kernel
theorem dX8_goHill_69 : decode cX8_goHill 69 = .ok (.iload_n 1, 1) := by decide +kernel
theorem dX8_goHill_70 : decode cX8_goHill 70 = .ok (.i2l, 1) := by decide +kernel
theorem dX8_goHill_71 : decode cX8_goHill 71 = .ok (.ldc2_w 85, 3) := by decide +kernel
theorem dX8_goHill_74 : decode cX8_goHill 74 = .ok (.ldc2_w 87, 3) := by decide +kernel
theorem dX8_goHill_77 : decode cX8_goHill 77 = .ok (.invokestatic 89, 3) := by decide +kernel
theorem dX8_goHill_80 : decode cX8_goHill 80 = .ok (.ireturn, 1) := by decide +kernel
theorem dX8_goHill_81 : decode cX8_goHill 81 = .ok (.iload_n 1, 1) := by decide +kernel
theorem dX8_goHill_82 : decode cX8_goHill 82 = .ok (.bipush 98, 2) := by decide +kernel
theorem dX8_goHill_84 : decode cX8_goHill 84 = .ok (.if_icmp .ne 10, 3) := by decide +kernel
theorem dX8_goHill_87 : decode cX8_goHill 87 = .ok (.aload_n 0, 1) := by decide +kernel
theorem dX8_goHill_88 : decode cX8_goHill 88 = .ok (.iconst 2, 1) := by decide +kernel
theorem dX8_goHill_89 : decode cX8_goHill 89 = .ok (.putfield 82, 3) := by decide +kernel
theorem dX8_goHill_92 : decode cX8_goHill 92 = .ok (.iconst 1, 1) := by decide +kernel
theorem dX8_goHill_93 : decode cX8_goHill 93 = .ok (.ireturn, 1) := by decide +kernel
theorem dX8_goHill_94 : decode cX8_goHill 94 = .ok (.iload_n 1, 1) := by decide +kernel
theorem dX8_goHill_95 : decode cX8_goHill 95 = .ok (.bipush 117, 2) := by decide +kernel
theorem dX8_goHill_97 : decode cX8_goHill 97 = .ok (.if_icmp .ne 19, 3) := by decide +kernel
theorem dX8_goHill_100 : decode cX8_goHill 100 = .ok (.aload_n 0, 1) := by decide +kernel
theorem dX8_goHill_101 : decode cX8_goHill 101 = .ok (.getfield 13, 3) := by decide +kernel
theorem dX8_goHill_104 : decode cX8_goHill 104 = .ok (.iload_n 2, 1) := by decide +kernel
theorem dX8_goHill_105 : decode cX8_goHill 105 = .ok (.iconst 2, 1) := by decide +kernel
theorem dX8_goHill_106 : decode cX8_goHill 106 = .ok (.iadd, 1) := by decide +kernel
theorem dX8_goHill_107 : decode cX8_goHill 107 = .ok (.iconst 1, 1) := by decide +kernel
theorem dX8_goHill_108 : decode cX8_goHill 108 = .ok (.iastore, 1) := by decide +kernel
theorem dX8_goHill_109 : decode cX8_goHill 109 = .ok (.aload_n 0, 1) := by decide +kernel
theorem dX8_goHill_110 : decode cX8_goHill 110 = .ok (.iconst 3, 1) := by decide +kernel
theorem dX8_goHill_111 : decode cX8_goHill 111 = .ok (.putfield 82, 3) := by decide +kernel
theorem dX8_goHill_114 : decode cX8_goHill 114 = .ok (.iconst 1, 1) := by decide +kernel
theorem dX8_goHill_115 : decode cX8_goHill 115 = .ok (.ireturn, 1) := by decide +kernel
theorem dX8_goHill_116 : decode cX8_goHill 116 = .ok (.aload_n 0, 1) := by decide +kernel
theorem dX8_goHill_117 : decode cX8_goHill 117 = .ok (.iload_n 1, 1) := by decide +kernel
theorem dX8_goHill_118 : decode cX8_goHill 118 = .ok (.bipush 11, 2) := by decide +kernel
theorem dX8_goHill_120 : decode cX8_goHill 120 = .ok (.invokevirtual 93, 3) := by decide +kernel
theorem dX8_goHill_123 : decode cX8_goHill 123 = .ok (.ireturn, 1) := by decide +kernel
theorem dX8_goHill_124 : decode cX8_goHill 124 = .ok (.aload_n 0, 1) := by decide +kernel
theorem dX8_goHill_125 : decode cX8_goHill 125 = .ok (.getfield 13, 3) := by decide +kernel
theorem dX8_goHill_128 : decode cX8_goHill 128 = .ok (.iload_n 2, 1) := by decide +kernel
theorem dX8_goHill_129 : decode cX8_goHill 129 = .ok (.iconst 1, 1) := by decide +kernel
theorem dX8_goHill_130 : decode cX8_goHill 130 = .ok (.iadd, 1) := by decide +kernel
theorem dX8_goHill_131 : decode cX8_goHill 131 = .ok (.iload_n 1, 1) := by decide +kernel
theorem dX8_goHill_132 : decode cX8_goHill 132 = .ok (.bipush 48, 2) := by decide +kernel
theorem dX8_goHill_134 : decode cX8_goHill 134 = .ok (.isub, 1) := by decide +kernel
theorem dX8_goHill_135 : decode cX8_goHill 135 = .ok (.iastore, 1) := by decide +kernel
theorem dX8_goHill_136 : decode cX8_goHill 136 = .ok (.aload_n 0, 1) := by decide +kernel
theorem dX8_goHill_137 : decode cX8_goHill 137 = .ok (.iconst 3, 1) := by decide +kernel
theorem dX8_goHill_138 : decode cX8_goHill 138 = .ok (.putfield 82, 3) := by decide +kernel
theorem dX8_goHill_141 : decode cX8_goHill 141 = .ok (.iload_n 1, 1) := by decide +kernel
theorem dX8_goHill_142 : decode cX8_goHill 142 = .ok (.i2l, 1) := by decide +kernel
theorem dX8_goHill_143 : decode cX8_goHill 143 = .ok (.ldc2_w 97, 3) := by decide +kernel
theorem dX8_goHill_146 : decode cX8_goHill 146 = .ok (.ldc2_w 87, 3) := by decide +kernel
theorem dX8_goHill_149 : decode cX8_goHill 149 = .ok (.invokestatic 89, 3) := by decide +kernel
theorem dX8_goHill_152 : decode cX8_goHill 152 = .ok (.ireturn, 1) := by decide +kernel
theorem dX8_goHill_153 : decode cX8_goHill 153 = .ok (.aload_n 0, 1) := by decide +kernel
theorem dX8_goHill_154 : decode cX8_goHill 154 = .ok (.iload_n 1, 1) := by decide +kernel
theorem dX8_goHill_155 : decode cX8_goHill 155 = .ok (.bipush 11, 2) := by decide +kernel
theorem dX8_goHill_157 : decode cX8_goHill 157 = .ok (.invokevirtual 93, 3) := by decide +kernel
theorem dX8_goHill_160 : decode cX8_goHill 160 = .ok (.ireturn, 1) := by decide +kernel
theorem dX8_goNext_0 : decode cX8_goNext 0 = .ok (.aload_n 0, 1) := by decide +kernel
theorem dX8_goNext_1 : decode cX8_goNext 1 = .ok (.dup, 1) := by decide +kernel
theorem dX8_goNext_2 : decode cX8_goNext 2 = .ok (.getfield 79, 3) := by decide +kernel
theorem dX8_goNext_5 : decode cX8_goNext 5 = .ok (.iconst 1, 1) := by decide +kernel
theorem dX8_goNext_6 : decode cX8_goNext 6 = .ok (.iadd, 1) := by decide +kernel
theorem dX8_goNext_7 : decode cX8_goNext 7 = .ok (.putfield 79, 3) := by decide +kernel
theorem dX8_goNext_10 : decode cX8_goNext 10 = .ok (.aload_n 0, 1) := by decide +kernel
theorem dX8_goNext_11 : decode cX8_goNext 11 = .ok (.iconst 0, 1) := by decide +kernel
theorem dX8_goNext_12 : decode cX8_goNext 12 = .ok (.putfield 82, 3) := by decide +kernel
theorem dX8_goNext_15 : decode cX8_goNext 15 = .ok (.iload_n 1, 1) := by decide +kernel
theorem dX8_goNext_16 : decode cX8_goNext 16 = .ok (.bipush 44, 2) := by decide +kernel
theorem dX8_goNext_18 : decode cX8_goNext 18 = .ok (.if_icmp .ne 15, 3) := by decide +kernel
theorem dX8_goNext_21 : decode cX8_goNext 21 = .ok (.aload_n 0, 1) := by decide +kernel
theorem dX8_goNext_22 : decode cX8_goNext 22 = .ok (.getfield 79, 3) := by decide +kernel
theorem dX8_goNext_25 : decode cX8_goNext 25 = .ok (.iload_n 2, 1) := by decide +kernel
theorem dX8_goNext_26 : decode cX8_goNext 26 = .ok (.if_icmp .gt 7, 3) := by decide +kernel
theorem dX8_goNext_29 : decode cX8_goNext 29 = .ok (.iconst 1, 1) := by decide +kernel
theorem dX8_goNext_30 : decode cX8_goNext 30 = .ok (.goto 4, 3) := by decide +kernel
theorem dX8_goNext_33 : decode cX8_goNext 33 = .ok (.iconst 0, 1) := by decide +kernel
theorem dX8_goNext_34 : decode cX8_goNext 34 = .ok (.ireturn, 1) := by decide +kernel
theorem dX8_kindOf_0 : decode cX8_kindOf 0 = .ok (.iload_n 0, 1) := by decide +kernel
theorem dX8_kindOf_1 : decode cX8_kindOf 1 = .ok (.bipush 108, 2) := by decide +kernel
theorem dX8_kindOf_3 : decode cX8_kindOf 3 = .ok (.if_icmp .ne 7, 3) := by decide +kernel
theorem dX8_kindOf_6 : decode cX8_kindOf 6 = .ok (.iconst 0, 1) := by decide +kernel
theorem dX8_kindOf_7 : decode cX8_kindOf 7 = .ok (.goto 54, 3) := by decide +kernel
theorem dX8_kindOf_10 : decode cX8_kindOf 10 = .ok (.iload_n 0, 1) := by decide +kernel
theorem dX8_kindOf_11 : decode cX8_kindOf 11 = .ok (.bipush 114, 2) := by decide +kernel
theorem dX8_kindOf_13 : decode cX8_kindOf 13 = .ok (.if_icmp .ne 7, 3) := by decide +kernel
theorem dX8_kindOf_16 : decode cX8_kindOf 16 = .ok (.iconst 1, 1) := by decide +kernel
theorem dX8_kindOf_17 : decode cX8_kindOf 17 = .ok (.goto 44, 3) := by decide +kernel
theorem dX8_kindOf_20 : decode cX8_kindOf 20 = .ok (.iload_n 0, 1) := by decide +kernel
theorem dX8_kindOf_21 : decode cX8_kindOf 21 = .ok (.bipush 116, 2) := by decide +kernel
theorem dX8_kindOf_23 : decode cX8_kindOf 23 = .ok (.if_icmp .ne 7, 3) := by decide +kernel
theorem dX8_kindOf_26 : decode cX8_kindOf 26 = .ok (.iconst 2, 1) := by decide +kernel
theorem dX8_kindOf_27 : decode cX8_kindOf 27 = .ok (.goto 34, 3) := by decide +kernel
theorem dX8_kindOf_30 : decode cX8_kindOf 30 = .ok (.iload_n 0, 1) := by decide +kernel
theorem dX8_kindOf_31 : decode cX8_kindOf 31 = .ok (.bipush 97, 2) := by decide +kernel
theorem dX8_kindOf_33 : decode cX8_kindOf 33 = .ok (.if_icmp .ne 7, 3) := by decide +kernel
theorem dX8_kindOf_36 : decode cX8_kindOf 36 = .ok (.iconst 3, 1) := by decide +kernel
theorem dX8_kindOf_37 : decode cX8_kindOf 37 = .ok (.goto 24, 3) := by decide +kernel
theorem dX8_kindOf_40 : decode cX8_kindOf 40 = .ok (.iload_n 0, 1) := by decide +kernel
theorem dX8_kindOf_41 : decode cX8_kindOf 41 = .ok (.bipush 117, 2) := by decide +kernel
theorem dX8_kindOf_43 : decode cX8_kindOf 43 = .ok (.if_icmp .ne 7, 3) := by decide +kernel
theorem dX8_kindOf_46 : decode cX8_kindOf 46 = .ok (.iconst 4, 1) := by decide +kernel
theorem dX8_kindOf_47 : decode cX8_kindOf 47 = .ok (.goto 14, 3) := by decide +kernel
theorem dX8_kindOf_50 : decode cX8_kindOf 50 = .ok (.iload_n 0, 1) := by decide +kernel
theorem dX8_kindOf_51 : decode cX8_kindOf 51 = .ok (.bipush 115, 2) := by decide +kernel
theorem dX8_kindOf_53 : decode cX8_kindOf 53 = .ok (.if_icmp .ne 7, 3) := by decide +kernel
theorem dX8_kindOf_56 : decode cX8_kindOf 56 = .ok (.iconst 5, 1) := by decide +kernel
theorem dX8_kindOf_57 : decode cX8_kindOf 57 = .ok (.goto 4, 3) := by decide +kernel
theorem dX8_kindOf_60 : decode cX8_kindOf 60 = .ok (.iconst (-1), 1) := by decide +kernel
theorem dX8_kindOf_61 : decode cX8_kindOf 61 = .ok (.ireturn, 1) := by decide +kernel
theorem dX8_goCart_0 : decode cX8_goCart 0 = .ok (.aload_n 0, 1) := by decide +kernel
theorem dX8_goCart_1 : decode cX8_goCart 1 = .ok (.getfield 82, 3) := by decide +kernel
theorem dX8_goCart_4 : decode cX8_goCart 4 = .ok (.istore_n 2, 1) := by decide +kernel
theorem dX8_goCart_5 : decode cX8_goCart 5 = .ok (.aload_n 0, 1) := by decide +kernel
theorem dX8_goCart_6 : decode cX8_goCart 6 = .ok (.dup, 1) := by decide +kernel
theorem dX8_goCart_7 : decode cX8_goCart 7 = .ok (.getfield 82, 3) := by decide +kernel
theorem dX8_goCart_10 : decode cX8_goCart 10 = .ok (.iconst 1, 1) := by decide +kernel
theorem dX8_goCart_11 : decode cX8_goCart 11 = .ok (.iadd, 1) := by decide +kernel
theorem dX8_goCart_12 : decode cX8_goCart 12 = .ok (.putfield 82, 3) := by decide +kernel
theorem dX8_goCart_15 : decode cX8_goCart 15 = .ok (.iload_n 2, 1) := by decide +kernel
theorem dX8_goCart_16 : decode cX8_goCart 16 = .ok (.tableswitch 145 0 4 #[36, 48, 71, 96, 116], 36) := by decide +kernel
theorem dX8_goCart_52 : decode cX8_goCart 52 = .ok (.iload_n 1, 1) := by decide +kernel
theorem dX8_goCart_53 : decode cX8_goCart 53 = .ok (.bipush 119, 2) := by decide +kernel
theorem dX8_goCart_55 : decode cX8_goCart 55 = .ok (.if_icmp .ne 7, 3) := by decide +kernel
theorem dX8_goCart_58 : decode cX8_goCart 58 = .ok (.iconst 1, 1) := by decide +kernel
theorem dX8_goCart_59 : decode cX8_goCart 59 = .ok (.goto 4, 3) := by decide +kernel
theorem dX8_goCart_62 : decode cX8_goCart 62 = .ok (.iconst 0, 1) := by decide +kernel
theorem dX8_goCart_63 : decode cX8_goCart 63 = .ok (.ireturn, 1) := by decide +kernel
theorem dX8_goCart_64 : decode cX8_goCart 64 = .ok (.aload_n 0, 1) := by decide +kernel
theorem dX8_goCart_65 : decode cX8_goCart 65 = .ok (.bipush 10, 2) := by decide +kernel
theorem dX8_goCart_67 : decode cX8_goCart 67 = .ok (.iload_n 1, 1) := by decide +kernel
theorem dX8_goCart_68 : decode cX8_goCart 68 = .ok (.bipush 48, 2) := by decide +kernel
theorem dX8_goCart_70 : decode cX8_goCart 70 = .ok (.isub, 1) := by decide +kernel
theorem dX8_goCart_71 : decode cX8_goCart 71 = .ok (.imul, 1) := by decide +kernel
theorem dX8_goCart_72 : decode cX8_goCart 72 = .ok (.putfield 99, 3) := by decide +kernel
theorem dX8_goCart_75 : decode cX8_goCart 75 = .ok (.iload_n 1, 1) := by decide +kernel
theorem dX8_goCart_76 : decode cX8_goCart 76 = .ok (.i2l, 1) := by decide +kernel
theorem dX8_goCart_77 : decode cX8_goCart 77 = .ok (.ldc2_w 97, 3) := by decide +kernel
theorem dX8_goCart_80 : decode cX8_goCart 80 = .ok (.ldc2_w 87, 3) := by decide +kernel
theorem dX8_goCart_83 : decode cX8_goCart 83 = .ok (.invokestatic 89, 3) := by decide +kernel
theorem dX8_goCart_86 : decode cX8_goCart 86 = .ok (.ireturn, 1) := by decide +kernel
theorem dX8_goCart_87 : decode cX8_goCart 87 = .ok (.aload_n 0, 1) := by decide +kernel
theorem dX8_goCart_88 : decode cX8_goCart 88 = .ok (.dup, 1) := by decide +kernel
theorem dX8_goCart_89 : decode cX8_goCart 89 = .ok (.getfield 99, 3) := by decide +kernel
theorem dX8_goCart_92 : decode cX8_goCart 92 = .ok (.iload_n 1, 1) := by decide +kernel
theorem dX8_goCart_93 : decode cX8_goCart 93 = .ok (.bipush 48, 2) := by decide +kernel
theorem dX8_goCart_95 : decode cX8_goCart 95 = .ok (.isub, 1) := by decide +kernel
theorem dX8_goCart_96 : decode cX8_goCart 96 = .ok (.iadd, 1) := by decide +kernel
theorem dX8_goCart_97 : decode cX8_goCart 97 = .ok (.putfield 99, 3) := by decide +kernel
theorem dX8_goCart_100 : decode cX8_goCart 100 = .ok (.iload_n 1, 1) := by decide +kernel
theorem dX8_goCart_101 : decode cX8_goCart 101 = .ok (.i2l, 1) := by decide +kernel
theorem dX8_goCart_102 : decode cX8_goCart 102 = .ok (.ldc2_w 85, 3) := by decide +kernel
theorem dX8_goCart_105 : decode cX8_goCart 105 = .ok (.ldc2_w 87, 3) := by decide +kernel
theorem dX8_goCart_108 : decode cX8_goCart 108 = .ok (.invokestatic 89, 3) := by decide +kernel
theorem dX8_goCart_111 : decode cX8_goCart 111 = .ok (.ireturn, 1) := by decide +kernel
theorem dX8_goCart_112 : decode cX8_goCart 112 = .ok (.iload_n 1, 1) := by decide +kernel
theorem dX8_goCart_113 : decode cX8_goCart 113 = .ok (.bipush 44, 2) := by decide +kernel
theorem dX8_goCart_115 : decode cX8_goCart 115 = .ok (.if_icmp .ne 15, 3) := by decide +kernel
theorem dX8_goCart_118 : decode cX8_goCart 118 = .ok (.aload_n 0, 1) := by decide +kernel
theorem dX8_goCart_119 : decode cX8_goCart 119 = .ok (.getfield 79, 3) := by decide +kernel
theorem dX8_goCart_122 : decode cX8_goCart 122 = .ok (.iconst 5, 1) := by decide +kernel
theorem dX8_goCart_123 : decode cX8_goCart 123 = .ok (.if_icmp .ge 7, 3) := by decide +kernel
theorem dX8_goCart_126 : decode cX8_goCart 126 = .ok (.iconst 1, 1) := by decide +kernel
theorem dX8_goCart_127 : decode cX8_goCart 127 = .ok (.goto 4, 3) := by decide +kernel
theorem dX8_goCart_130 : decode cX8_goCart 130 = .ok (.iconst 0, 1) := by decide +kernel
theorem dX8_goCart_131 : decode cX8_goCart 131 = .ok (.ireturn, 1) := by decide +kernel
theorem dX8_goCart_132 : decode cX8_goCart 132 = .ok (.aload_n 0, 1) := by decide +kernel
theorem dX8_goCart_133 : decode cX8_goCart 133 = .ok (.getfield 13, 3) := by decide +kernel
theorem dX8_goCart_136 : decode cX8_goCart 136 = .ok (.iconst 2, 1) := by decide +kernel
theorem dX8_goCart_137 : decode cX8_goCart 137 = .ok (.aload_n 0, 1) := by decide +kernel
theorem dX8_goCart_138 : decode cX8_goCart 138 = .ok (.getfield 79, 3) := by decide +kernel
theorem dX8_goCart_141 : decode cX8_goCart 141 = .ok (.imul, 1) := by decide +kernel
theorem dX8_goCart_142 : decode cX8_goCart 142 = .ok (.iload_n 1, 1) := by decide +kernel
theorem dX8_goCart_143 : decode cX8_goCart 143 = .ok (.invokestatic 102, 3) := by decide +kernel
theorem dX8_goCart_146 : decode cX8_goCart 146 = .ok (.iastore, 1) := by decide +kernel
theorem dX8_goCart_147 : decode cX8_goCart 147 = .ok (.iload_n 1, 1) := by decide +kernel
theorem dX8_goCart_148 : decode cX8_goCart 148 = .ok (.invokestatic 102, 3) := by decide +kernel
theorem dX8_goCart_151 : decode cX8_goCart 151 = .ok (.iconst (-1), 1) := by decide +kernel
theorem dX8_goCart_152 : decode cX8_goCart 152 = .ok (.if_icmp .eq 7, 3) := by decide +kernel
theorem dX8_goCart_155 : decode cX8_goCart 155 = .ok (.iconst 1, 1) := by decide +kernel
theorem dX8_goCart_156 : decode cX8_goCart 156 = .ok (.goto 4, 3) := by decide +kernel
theorem dX8_goCart_159 : decode cX8_goCart 159 = .ok (.iconst 0, 1) := by decide +kernel
theorem dX8_goCart_160 : decode cX8_goCart 160 = .ok (.ireturn, 1) := by decide +kernel
theorem dX8_goCart_161 : decode cX8_goCart 161 = .ok (.aload_n 0, 1) := by decide +kernel
theorem dX8_goCart_162 : decode cX8_goCart 162 = .ok (.getfield 13, 3) := by decide +kernel
theorem dX8_goCart_165 : decode cX8_goCart 165 = .ok (.iconst 2, 1) := by decide +kernel
theorem dX8_goCart_166 : decode cX8_goCart 166 = .ok (.aload_n 0, 1) := by decide +kernel
theorem dX8_goCart_167 : decode cX8_goCart 167 = .ok (.getfield 79, 3) := by decide +kernel
theorem dX8_goCart_170 : decode cX8_goCart 170 = .ok (.imul, 1) := by decide +kernel
theorem dX8_goCart_171 : decode cX8_goCart 171 = .ok (.iconst 1, 1) := by decide +kernel
theorem dX8_goCart_172 : decode cX8_goCart 172 = .ok (.iadd, 1) := by decide +kernel
theorem dX8_goCart_173 : decode cX8_goCart 173 = .ok (.iload_n 1, 1) := by decide +kernel
theorem dX8_goCart_174 : decode cX8_goCart 174 = .ok (.bipush 48, 2) := by decide +kernel
theorem dX8_goCart_176 : decode cX8_goCart 176 = .ok (.isub, 1) := by decide +kernel
theorem dX8_goCart_177 : decode cX8_goCart 177 = .ok (.iastore, 1) := by decide +kernel
theorem dX8_goCart_178 : decode cX8_goCart 178 = .ok (.aload_n 0, 1) := by decide +kernel
theorem dX8_goCart_179 : decode cX8_goCart 179 = .ok (.dup, 1) := by decide +kernel
theorem dX8_goCart_180 : decode cX8_goCart 180 = .ok (.getfield 79, 3) := by decide +kernel
theorem dX8_goCart_183 : decode cX8_goCart 183 = .ok (.iconst 1, 1) := by decide +kernel
theorem dX8_goCart_184 : decode cX8_goCart 184 = .ok (.iadd, 1) := by decide +kernel
theorem dX8_goCart_185 : decode cX8_goCart 185 = .ok (.putfield 79, 3) := by decide +kernel
theorem dX8_goCart_188 : decode cX8_goCart 188 = .ok (.aload_n 0, 1) := by decide +kernel
theorem dX8_goCart_189 : decode cX8_goCart 189 = .ok (.iconst 3, 1) := by decide +kernel
theorem dX8_goCart_190 : decode cX8_goCart 190 = .ok (.putfield 82, 3) := by decide +kernel
theorem dX8_goCart_193 : decode cX8_goCart 193 = .ok (.iload_n 1, 1) := by decide +kernel
theorem dX8_goCart_194 : decode cX8_goCart 194 = .ok (.i2l, 1) := by decide +kernel
theorem dX8_goCart_195 : decode cX8_goCart 195 = .ok (.ldc2_w 97, 3) := by decide +kernel
theorem dX8_goCart_198 : decode cX8_goCart 198 = .ok (.ldc2_w 87, 3) := by decide +kernel
theorem dX8_goCart_201 : decode cX8_goCart 201 = .ok (.invokestatic 89, 3) := by decide +kernel
theorem dX8_goCart_204 : decode cX8_goCart 204 = .ok (.ireturn, 1) := by decide +kernel
theorem dX8_faultOf_0 : decode cX8_faultOf 0 = .ok (.aload_n 0, 1) := by decide +kernel
theorem dX8_faultOf_1 : decode cX8_faultOf 1 = .ok (.iconst 0, 1) := by decide +kernel
theorem dX8_faultOf_2 : decode cX8_faultOf 2 = .ok (.putfield 82, 3) := by decide +kernel
theorem dX8_faultOf_5 : decode cX8_faultOf 5 = .ok (.aload_n 0, 1) := by decide +kernel
theorem dX8_faultOf_6 : decode cX8_faultOf 6 = .ok (.iconst 0, 1) := by decide +kernel
theorem dX8_faultOf_7 : decode cX8_faultOf 7 = .ok (.putfield 79, 3) := by decide +kernel
theorem dX8_faultOf_10 : decode cX8_faultOf 10 = .ok (.iconst 0, 1) := by decide +kernel
theorem dX8_faultOf_11 : decode cX8_faultOf 11 = .ok (.istore_n 2, 1) := by decide +kernel
theorem dX8_faultOf_12 : decode cX8_faultOf 12 = .ok (.iload_n 2, 1) := by decide +kernel
theorem dX8_faultOf_13 : decode cX8_faultOf 13 = .ok (.aload_n 0, 1) := by decide +kernel
theorem dX8_faultOf_14 : decode cX8_faultOf 14 = .ok (.getfield 76, 3) := by decide +kernel
theorem dX8_faultOf_17 : decode cX8_faultOf 17 = .ok (.if_icmp .ge 42, 3) := by decide +kernel
theorem dX8_faultOf_20 : decode cX8_faultOf 20 = .ok (.iload_n 1, 1) := by decide +kernel
theorem dX8_faultOf_21 : decode cX8_faultOf 21 = .ok (.ifCond .ne 19, 3) := by decide +kernel
theorem dX8_faultOf_24 : decode cX8_faultOf 24 = .ok (.aload_n 0, 1) := by decide +kernel
theorem dX8_faultOf_25 : decode cX8_faultOf 25 = .ok (.aload_n 0, 1) := by decide +kernel
theorem dX8_faultOf_26 : decode cX8_faultOf 26 = .ok (.getfield 7, 3) := by decide +kernel
theorem dX8_faultOf_29 : decode cX8_faultOf 29 = .ok (.iload_n 2, 1) := by decide +kernel
theorem dX8_faultOf_30 : decode cX8_faultOf 30 = .ok (.iaload, 1) := by decide +kernel
theorem dX8_faultOf_31 : decode cX8_faultOf 31 = .ok (.invokevirtual 106, 3) := by decide +kernel
theorem dX8_faultOf_34 : decode cX8_faultOf 34 = .ok (.ifCond .eq 25, 3) := by decide +kernel
theorem dX8_faultOf_37 : decode cX8_faultOf 37 = .ok (.goto 16, 3) := by decide +kernel
theorem dX8_faultOf_40 : decode cX8_faultOf 40 = .ok (.aload_n 0, 1) := by decide +kernel
theorem dX8_faultOf_41 : decode cX8_faultOf 41 = .ok (.aload_n 0, 1) := by decide +kernel
theorem dX8_faultOf_42 : decode cX8_faultOf 42 = .ok (.getfield 7, 3) := by decide +kernel
theorem dX8_faultOf_45 : decode cX8_faultOf 45 = .ok (.iload_n 2, 1) := by decide +kernel
theorem dX8_faultOf_46 : decode cX8_faultOf 46 = .ok (.iaload, 1) := by decide +kernel
theorem dX8_faultOf_47 : decode cX8_faultOf 47 = .ok (.invokevirtual 110, 3) := by decide +kernel
theorem dX8_faultOf_50 : decode cX8_faultOf 50 = .ok (.ifCond .eq 9, 3) := by decide +kernel
theorem dX8_faultOf_53 : decode cX8_faultOf 53 = .ok (.iinc 2 1, 3) := by decide +kernel
theorem dX8_faultOf_56 : decode cX8_faultOf 56 = .ok (.goto (-44), 3) := by decide +kernel
theorem dX8_faultOf_59 : decode cX8_faultOf 59 = .ok (.iload_n 2, 1) := by decide +kernel
theorem dX8_faultOf_60 : decode cX8_faultOf 60 = .ok (.ireturn, 1) := by decide +kernel
theorem dX8_fault_0 : decode cX8_fault 0 = .ok (.iload_n 1, 1) := by decide +kernel
theorem dX8_fault_1 : decode cX8_fault 1 = .ok (.i2l, 1) := by decide +kernel
theorem dX8_fault_2 : decode cX8_fault 2 = .ok (.lconst 0, 1) := by decide +kernel
theorem dX8_fault_3 : decode cX8_fault 3 = .ok (.lconst 1, 1) := by decide +kernel
theorem dX8_fault_4 : decode cX8_fault 4 = .ok (.invokestatic 89, 3) := by decide +kernel
theorem dX8_fault_7 : decode cX8_fault 7 = .ok (.ifCond .eq 11, 3) := by decide +kernel
theorem dX8_fault_10 : decode cX8_fault 10 = .ok (.aload_n 0, 1) := by decide +kernel
theorem dX8_fault_11 : decode cX8_fault 11 = .ok (.iload_n 1, 1) := by decide +kernel
theorem dX8_fault_12 : decode cX8_fault 12 = .ok (.invokevirtual 113, 3) := by decide +kernel
theorem dX8_fault_15 : decode cX8_fault 15 = .ok (.goto 5, 3) := by decide +kernel
theorem dX8_fault_18 : decode cX8_fault 18 = .ok (.bipush (-102), 2) := by decide +kernel
theorem dX8_fault_20 : decode cX8_fault 20 = .ok (.ireturn, 1) := by decide +kernel
theorem dX8_hill_0 : decode cX8_hill 0 = .ok (.aload_n 0, 1) := by decide +kernel
theorem dX8_hill_1 : decode cX8_hill 1 = .ok (.iconst 0, 1) := by decide +kernel
theorem dX8_hill_2 : decode cX8_hill 2 = .ok (.invokevirtual 113, 3) := by decide +kernel
theorem dX8_hill_5 : decode cX8_hill 5 = .ok (.aload_n 0, 1) := by decide +kernel
theorem dX8_hill_6 : decode cX8_hill 6 = .ok (.getfield 76, 3) := by decide +kernel
theorem dX8_hill_9 : decode cX8_hill 9 = .ok (.if_icmp .lt 27, 3) := by decide +kernel
theorem dX8_hill_12 : decode cX8_hill 12 = .ok (.aload_n 0, 1) := by decide +kernel
theorem dX8_hill_13 : decode cX8_hill 13 = .ok (.getfield 82, 3) := by decide +kernel
theorem dX8_hill_16 : decode cX8_hill 16 = .ok (.iconst 1, 1) := by decide +kernel
theorem dX8_hill_17 : decode cX8_hill 17 = .ok (.if_icmp .eq 11, 3) := by decide +kernel
theorem dX8_hill_20 : decode cX8_hill 20 = .ok (.aload_n 0, 1) := by decide +kernel
theorem dX8_hill_21 : decode cX8_hill 21 = .ok (.getfield 82, 3) := by decide +kernel
theorem dX8_hill_24 : decode cX8_hill 24 = .ok (.iconst 3, 1) := by decide +kernel
theorem dX8_hill_25 : decode cX8_hill 25 = .ok (.if_icmp .ne 11, 3) := by decide +kernel
theorem dX8_hill_28 : decode cX8_hill 28 = .ok (.aload_n 0, 1) := by decide +kernel
theorem dX8_hill_29 : decode cX8_hill 29 = .ok (.getfield 79, 3) := by decide +kernel
theorem dX8_hill_32 : decode cX8_hill 32 = .ok (.iconst 1, 1) := by decide +kernel
theorem dX8_hill_33 : decode cX8_hill 33 = .ok (.if_icmp .ge 6, 3) := by decide +kernel
theorem dX8_hill_36 : decode cX8_hill 36 = .ok (.bipush (-103), 2) := by decide +kernel
theorem dX8_hill_38 : decode cX8_hill 38 = .ok (.ireturn, 1) := by decide +kernel
theorem dX8_hill_39 : decode cX8_hill 39 = .ok (.aload_n 0, 1) := by decide +kernel
theorem dX8_hill_40 : decode cX8_hill 40 = .ok (.aload_n 0, 1) := by decide +kernel
theorem dX8_hill_41 : decode cX8_hill 41 = .ok (.getfield 79, 3) := by decide +kernel
theorem dX8_hill_44 : decode cX8_hill 44 = .ok (.iconst 1, 1) := by decide +kernel
theorem dX8_hill_45 : decode cX8_hill 45 = .ok (.iadd, 1) := by decide +kernel
theorem dX8_hill_46 : decode cX8_hill 46 = .ok (.putfield 116, 3) := by decide +kernel
theorem dX8_hill_49 : decode cX8_hill 49 = .ok (.iconst 0, 1) := by decide +kernel
theorem dX8_hill_50 : decode cX8_hill 50 = .ok (.istore_n 1, 1) := by decide +kernel
theorem dX8_hill_51 : decode cX8_hill 51 = .ok (.iload_n 1, 1) := by decide +kernel
theorem dX8_hill_52 : decode cX8_hill 52 = .ok (.aload_n 0, 1) := by decide +kernel
theorem dX8_hill_53 : decode cX8_hill 53 = .ok (.getfield 116, 3) := by decide +kernel
theorem dX8_hill_56 : decode cX8_hill 56 = .ok (.if_icmp .ge 62, 3) := by decide +kernel
theorem dX8_hill_59 : decode cX8_hill 59 = .ok (.aload_n 0, 1) := by decide +kernel
theorem dX8_hill_60 : decode cX8_hill 60 = .ok (.getfield 16, 3) := by decide +kernel
theorem dX8_hill_63 : decode cX8_hill 63 = .ok (.iload_n 1, 1) := by decide +kernel
theorem dX8_hill_64 : decode cX8_hill 64 = .ok (.aload_n 0, 1) := by decide +kernel
theorem dX8_hill_65 : decode cX8_hill 65 = .ok (.getfield 13, 3) := by decide +kernel
theorem dX8_hill_68 : decode cX8_hill 68 = .ok (.iconst 3, 1) := by decide +kernel
theorem dX8_hill_69 : decode cX8_hill 69 = .ok (.iload_n 1, 1) := by decide +kernel
theorem dX8_hill_70 : decode cX8_hill 70 = .ok (.imul, 1) := by decide +kernel
theorem dX8_hill_71 : decode cX8_hill 71 = .ok (.iaload, 1) := by decide +kernel
theorem dX8_hill_72 : decode cX8_hill 72 = .ok (.iastore, 1) := by decide +kernel
theorem dX8_hill_73 : decode cX8_hill 73 = .ok (.aload_n 0, 1) := by decide +kernel
theorem dX8_hill_74 : decode cX8_hill 74 = .ok (.getfield 19, 3) := by decide +kernel
theorem dX8_hill_77 : decode cX8_hill 77 = .ok (.iload_n 1, 1) := by decide +kernel
theorem dX8_hill_78 : decode cX8_hill 78 = .ok (.aload_n 0, 1) := by decide +kernel
theorem dX8_hill_79 : decode cX8_hill 79 = .ok (.getfield 13, 3) := by decide +kernel
theorem dX8_hill_82 : decode cX8_hill 82 = .ok (.iconst 3, 1) := by decide +kernel
theorem dX8_hill_83 : decode cX8_hill 83 = .ok (.iload_n 1, 1) := by decide +kernel
theorem dX8_hill_84 : decode cX8_hill 84 = .ok (.imul, 1) := by decide +kernel
theorem dX8_hill_85 : decode cX8_hill 85 = .ok (.iconst 1, 1) := by decide +kernel
theorem dX8_hill_86 : decode cX8_hill 86 = .ok (.iadd, 1) := by decide +kernel
theorem dX8_hill_87 : decode cX8_hill 87 = .ok (.iaload, 1) := by decide +kernel
theorem dX8_hill_88 : decode cX8_hill 88 = .ok (.iastore, 1) := by decide +kernel
theorem dX8_hill_89 : decode cX8_hill 89 = .ok (.aload_n 0, 1) := by decide +kernel
theorem dX8_hill_90 : decode cX8_hill 90 = .ok (.getfield 22, 3) := by decide +kernel
theorem dX8_hill_93 : decode cX8_hill 93 = .ok (.iload_n 1, 1) := by decide +kernel
theorem dX8_hill_94 : decode cX8_hill 94 = .ok (.aload_n 0, 1) := by decide +kernel
theorem dX8_hill_95 : decode cX8_hill 95 = .ok (.getfield 13, 3) := by decide +kernel
theorem dX8_hill_98 : decode cX8_hill 98 = .ok (.iconst 3, 1) := by decide +kernel
theorem dX8_hill_99 : decode cX8_hill 99 = .ok (.iload_n 1, 1) := by decide +kernel
theorem dX8_hill_100 : decode cX8_hill 100 = .ok (.imul, 1) := by decide +kernel
theorem dX8_hill_101 : decode cX8_hill 101 = .ok (.iconst 2, 1) := by decide +kernel
theorem dX8_hill_102 : decode cX8_hill 102 = .ok (.iadd, 1) := by decide +kernel
theorem dX8_hill_103 : decode cX8_hill 103 = .ok (.iaload, 1) := by decide +kernel
theorem dX8_hill_104 : decode cX8_hill 104 = .ok (.iastore, 1) := by decide +kernel
theorem dX8_hill_105 : decode cX8_hill 105 = .ok (.aload_n 0, 1) := by decide +kernel
theorem dX8_hill_106 : decode cX8_hill 106 = .ok (.getfield 25, 3) := by decide +kernel
theorem dX8_hill_109 : decode cX8_hill 109 = .ok (.iload_n 1, 1) := by decide +kernel
theorem dX8_hill_110 : decode cX8_hill 110 = .ok (.iconst 0, 1) := by decide +kernel
theorem dX8_hill_111 : decode cX8_hill 111 = .ok (.iastore, 1) := by decide +kernel
theorem dX8_hill_112 : decode cX8_hill 112 = .ok (.iinc 1 1, 3) := by decide +kernel
theorem dX8_hill_115 : decode cX8_hill 115 = .ok (.goto (-64), 3) := by decide +kernel
theorem dX8_hill_118 : decode cX8_hill 118 = .ok (.aload_n 0, 1) := by decide +kernel
theorem dX8_hill_119 : decode cX8_hill 119 = .ok (.dup, 1) := by decide +kernel
theorem dX8_hill_120 : decode cX8_hill 120 = .ok (.getfield 119, 3) := by decide +kernel
theorem dX8_hill_123 : decode cX8_hill 123 = .ok (.iconst 1, 1) := by decide +kernel
theorem dX8_hill_124 : decode cX8_hill 124 = .ok (.iadd, 1) := by decide +kernel
theorem dX8_hill_125 : decode cX8_hill 125 = .ok (.putfield 119, 3) := by decide +kernel
theorem dX8_hill_128 : decode cX8_hill 128 = .ok (.aload_n 0, 1) := by decide +kernel
theorem dX8_hill_129 : decode cX8_hill 129 = .ok (.iconst 0, 1) := by decide +kernel
theorem dX8_hill_130 : decode cX8_hill 130 = .ok (.putfield 76, 3) := by decide +kernel
theorem dX8_hill_133 : decode cX8_hill 133 = .ok (.aload_n 0, 1) := by decide +kernel
theorem dX8_hill_134 : decode cX8_hill 134 = .ok (.getfield 116, 3) := by decide +kernel
theorem dX8_hill_137 : decode cX8_hill 137 = .ok (.ireturn, 1) := by decide +kernel
theorem dX8_cart_0 : decode cX8_cart 0 = .ok (.aload_n 0, 1) := by decide +kernel
theorem dX8_cart_1 : decode cX8_cart 1 = .ok (.iconst 1, 1) := by decide +kernel
theorem dX8_cart_2 : decode cX8_cart 2 = .ok (.invokevirtual 113, 3) := by decide +kernel
theorem dX8_cart_5 : decode cX8_cart 5 = .ok (.aload_n 0, 1) := by decide +kernel
theorem dX8_cart_6 : decode cX8_cart 6 = .ok (.getfield 76, 3) := by decide +kernel
theorem dX8_cart_9 : decode cX8_cart 9 = .ok (.if_icmp .lt 11, 3) := by decide +kernel
theorem dX8_cart_12 : decode cX8_cart 12 = .ok (.aload_n 0, 1) := by decide +kernel
theorem dX8_cart_13 : decode cX8_cart 13 = .ok (.getfield 82, 3) := by decide +kernel
theorem dX8_cart_16 : decode cX8_cart 16 = .ok (.iconst 3, 1) := by decide +kernel
theorem dX8_cart_17 : decode cX8_cart 17 = .ok (.if_icmp .eq 6, 3) := by decide +kernel
theorem dX8_cart_20 : decode cX8_cart 20 = .ok (.bipush (-103), 2) := by decide +kernel
theorem dX8_cart_22 : decode cX8_cart 22 = .ok (.ireturn, 1) := by decide +kernel
theorem dX8_cart_23 : decode cX8_cart 23 = .ok (.aload_n 0, 1) := by decide +kernel
theorem dX8_cart_24 : decode cX8_cart 24 = .ok (.getfield 122, 3) := by decide +kernel
theorem dX8_cart_27 : decode cX8_cart 27 = .ok (.bipush 8, 2) := by decide +kernel
theorem dX8_cart_29 : decode cX8_cart 29 = .ok (.if_icmp .ne 6, 3) := by decide +kernel
theorem dX8_cart_32 : decode cX8_cart 32 = .ok (.bipush (-104), 2) := by decide +kernel
theorem dX8_cart_34 : decode cX8_cart 34 = .ok (.ireturn, 1) := by decide +kernel
theorem dX8_cart_35 : decode cX8_cart 35 = .ok (.aload_n 0, 1) := by decide +kernel
theorem dX8_cart_36 : decode cX8_cart 36 = .ok (.getfield 28, 3) := by decide +kernel
theorem dX8_cart_39 : decode cX8_cart 39 = .ok (.aload_n 0, 1) := by decide +kernel
theorem dX8_cart_40 : decode cX8_cart 40 = .ok (.getfield 122, 3) := by decide +kernel
theorem dX8_cart_43 : decode cX8_cart 43 = .ok (.aload_n 0, 1) := by decide +kernel
theorem dX8_cart_44 : decode cX8_cart 44 = .ok (.getfield 99, 3) := by decide +kernel
theorem dX8_cart_47 : decode cX8_cart 47 = .ok (.iastore, 1) := by decide +kernel
theorem dX8_cart_48 : decode cX8_cart 48 = .ok (.aload_n 0, 1) := by decide +kernel
theorem dX8_cart_49 : decode cX8_cart 49 = .ok (.getfield 31, 3) := by decide +kernel
theorem dX8_cart_52 : decode cX8_cart 52 = .ok (.aload_n 0, 1) := by decide +kernel
theorem dX8_cart_53 : decode cX8_cart 53 = .ok (.getfield 122, 3) := by decide +kernel
theorem dX8_cart_56 : decode cX8_cart 56 = .ok (.aload_n 0, 1) := by decide +kernel
theorem dX8_cart_57 : decode cX8_cart 57 = .ok (.getfield 79, 3) := by decide +kernel
theorem dX8_cart_60 : decode cX8_cart 60 = .ok (.iastore, 1) := by decide +kernel

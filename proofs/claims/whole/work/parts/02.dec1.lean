theorem dX0_init_0 : decode cX0_init 0 = .ok (.aload_n 0, 1) := by decide +kernel
theorem dX0_init_1 : decode cX0_init 1 = .ok (.invokespecial 3, 3) := by decide +kernel
theorem dX0_init_4 : decode cX0_init 4 = .ok (.aload_n 0, 1) := by decide +kernel
theorem dX0_init_5 : decode cX0_init 5 = .ok (.iconst (-1), 1) := by decide +kernel
theorem dX0_init_6 : decode cX0_init 6 = .ok (.putfield 9, 3) := by decide +kernel
theorem dX0_init_9 : decode cX0_init 9 = .ok (.aload_n 0, 1) := by decide +kernel
theorem dX0_init_10 : decode cX0_init 10 = .ok (.iconst (-1), 1) := by decide +kernel
theorem dX0_init_11 : decode cX0_init 11 = .ok (.putfield 15, 3) := by decide +kernel
theorem dX0_init_14 : decode cX0_init 14 = .ok (.aload_n 0, 1) := by decide +kernel
theorem dX0_init_15 : decode cX0_init 15 = .ok (.iconst 5, 1) := by decide +kernel
theorem dX0_init_16 : decode cX0_init 16 = .ok (.newarray .int, 2) := by decide +kernel
theorem dX0_init_18 : decode cX0_init 18 = .ok (.putfield 18, 3) := by decide +kernel
theorem dX0_init_21 : decode cX0_init 21 = .ok (.return_, 1) := by decide +kernel
theorem dX0_clear_0 : decode cX0_clear 0 = .ok (.aload_n 0, 1) := by decide +kernel
theorem dX0_clear_1 : decode cX0_clear 1 = .ok (.iconst (-1), 1) := by decide +kernel
theorem dX0_clear_2 : decode cX0_clear 2 = .ok (.putfield 9, 3) := by decide +kernel
theorem dX0_clear_5 : decode cX0_clear 5 = .ok (.aload_n 0, 1) := by decide +kernel
theorem dX0_clear_6 : decode cX0_clear 6 = .ok (.iconst (-1), 1) := by decide +kernel
theorem dX0_clear_7 : decode cX0_clear 7 = .ok (.putfield 15, 3) := by decide +kernel
theorem dX0_clear_10 : decode cX0_clear 10 = .ok (.return_, 1) := by decide +kernel
theorem dX0_offer_0 : decode cX0_offer 0 = .ok (.aload_n 0, 1) := by decide +kernel
theorem dX0_offer_1 : decode cX0_offer 1 = .ok (.getfield 9, 3) := by decide +kernel
theorem dX0_offer_4 : decode cX0_offer 4 = .ok (.iconst (-1), 1) := by decide +kernel
theorem dX0_offer_5 : decode cX0_offer 5 = .ok (.if_icmp .eq 13, 3) := by decide +kernel
theorem dX0_offer_8 : decode cX0_offer 8 = .ok (.aload_n 0, 1) := by decide +kernel
theorem dX0_offer_9 : decode cX0_offer 9 = .ok (.getfield 9, 3) := by decide +kernel
theorem dX0_offer_12 : decode cX0_offer 12 = .ok (.iload_n 1, 1) := by decide +kernel
theorem dX0_offer_13 : decode cX0_offer 13 = .ok (.if_icmp .gt 5, 3) := by decide +kernel
theorem dX0_offer_16 : decode cX0_offer 16 = .ok (.iconst 0, 1) := by decide +kernel
theorem dX0_offer_17 : decode cX0_offer 17 = .ok (.ireturn, 1) := by decide +kernel
theorem dX0_offer_18 : decode cX0_offer 18 = .ok (.aload_n 0, 1) := by decide +kernel
theorem dX0_offer_19 : decode cX0_offer 19 = .ok (.iload_n 1, 1) := by decide +kernel
theorem dX0_offer_20 : decode cX0_offer 20 = .ok (.putfield 9, 3) := by decide +kernel
theorem dX0_offer_23 : decode cX0_offer 23 = .ok (.aload_n 0, 1) := by decide +kernel
theorem dX0_offer_24 : decode cX0_offer 24 = .ok (.iload_n 2, 1) := by decide +kernel
theorem dX0_offer_25 : decode cX0_offer 25 = .ok (.putfield 15, 3) := by decide +kernel
theorem dX0_offer_28 : decode cX0_offer 28 = .ok (.iconst 1, 1) := by decide +kernel
theorem dX0_offer_29 : decode cX0_offer 29 = .ok (.ireturn, 1) := by decide +kernel
theorem dX0_keepRow_0 : decode cX0_keepRow 0 = .ok (.aload_n 1, 1) := by decide +kernel
theorem dX0_keepRow_1 : decode cX0_keepRow 1 = .ok (.iconst 0, 1) := by decide +kernel
theorem dX0_keepRow_2 : decode cX0_keepRow 2 = .ok (.aload_n 0, 1) := by decide +kernel
theorem dX0_keepRow_3 : decode cX0_keepRow 3 = .ok (.getfield 18, 3) := by decide +kernel
theorem dX0_keepRow_6 : decode cX0_keepRow 6 = .ok (.iconst 0, 1) := by decide +kernel
theorem dX0_keepRow_7 : decode cX0_keepRow 7 = .ok (.iconst 5, 1) := by decide +kernel
theorem dX0_keepRow_8 : decode cX0_keepRow 8 = .ok (.invokestatic 22, 3) := by decide +kernel
theorem dX0_keepRow_11 : decode cX0_keepRow 11 = .ok (.return_, 1) := by decide +kernel
theorem dX1_init_0 : decode cX1_init 0 = .ok (.aload_n 0, 1) := by decide +kernel
theorem dX1_init_1 : decode cX1_init 1 = .ok (.invokespecial 3, 3) := by decide +kernel
theorem dX1_init_4 : decode cX1_init 4 = .ok (.aload_n 0, 1) := by decide +kernel
theorem dX1_init_5 : decode cX1_init 5 = .ok (.iconst 5, 1) := by decide +kernel
theorem dX1_init_6 : decode cX1_init 6 = .ok (.newarray .int, 2) := by decide +kernel
theorem dX1_init_8 : decode cX1_init 8 = .ok (.putfield 9, 3) := by decide +kernel
theorem dX1_init_11 : decode cX1_init 11 = .ok (.aload_n 0, 1) := by decide +kernel
theorem dX1_init_12 : decode cX1_init 12 = .ok (.iconst 5, 1) := by decide +kernel
theorem dX1_init_13 : decode cX1_init 13 = .ok (.newarray .int, 2) := by decide +kernel
theorem dX1_init_15 : decode cX1_init 15 = .ok (.putfield 15, 3) := by decide +kernel
theorem dX1_init_18 : decode cX1_init 18 = .ok (.aload_n 0, 1) := by decide +kernel
theorem dX1_init_19 : decode cX1_init 19 = .ok (.iconst 0, 1) := by decide +kernel
theorem dX1_init_20 : decode cX1_init 20 = .ok (.putfield 18, 3) := by decide +kernel
theorem dX1_init_23 : decode cX1_init 23 = .ok (.aload_n 0, 1) := by decide +kernel
theorem dX1_init_24 : decode cX1_init 24 = .ok (.bipush 10, 2) := by decide +kernel
theorem dX1_init_26 : decode cX1_init 26 = .ok (.putfield 22, 3) := by decide +kernel
theorem dX1_init_29 : decode cX1_init 29 = .ok (.return_, 1) := by decide +kernel
theorem dX1_read_0 : decode cX1_read 0 = .ok (.aload_n 0, 1) := by decide +kernel
theorem dX1_read_1 : decode cX1_read 1 = .ok (.bipush 10, 2) := by decide +kernel
theorem dX1_read_3 : decode cX1_read 3 = .ok (.aload_n 1, 1) := by decide +kernel
theorem dX1_read_4 : decode cX1_read 4 = .ok (.iconst 1, 1) := by decide +kernel
theorem dX1_read_5 : decode cX1_read 5 = .ok (.invokevirtual 25, 3) := by decide +kernel
theorem dX1_read_8 : decode cX1_read 8 = .ok (.imul, 1) := by decide +kernel
theorem dX1_read_9 : decode cX1_read 9 = .ok (.aload_n 1, 1) := by decide +kernel
theorem dX1_read_10 : decode cX1_read 10 = .ok (.iconst 2, 1) := by decide +kernel
theorem dX1_read_11 : decode cX1_read 11 = .ok (.invokevirtual 25, 3) := by decide +kernel
theorem dX1_read_14 : decode cX1_read 14 = .ok (.iadd, 1) := by decide +kernel
theorem dX1_read_15 : decode cX1_read 15 = .ok (.putfield 22, 3) := by decide +kernel
theorem dX1_read_18 : decode cX1_read 18 = .ok (.aload_n 0, 1) := by decide +kernel
theorem dX1_read_19 : decode cX1_read 19 = .ok (.iconst 0, 1) := by decide +kernel
theorem dX1_read_20 : decode cX1_read 20 = .ok (.putfield 18, 3) := by decide +kernel
theorem dX1_read_23 : decode cX1_read 23 = .ok (.iconst 3, 1) := by decide +kernel
theorem dX1_read_24 : decode cX1_read 24 = .ok (.istore_n 2, 1) := by decide +kernel
theorem dX1_read_25 : decode cX1_read 25 = .ok (.iload_n 2, 1) := by decide +kernel
theorem dX1_read_26 : decode cX1_read 26 = .ok (.aload_n 1, 1) := by decide +kernel
theorem dX1_read_27 : decode cX1_read 27 = .ok (.getfield 31, 3) := by decide +kernel
theorem dX1_read_30 : decode cX1_read 30 = .ok (.if_icmp .ge 59, 3) := by decide +kernel
theorem dX1_read_33 : decode cX1_read 33 = .ok (.aload_n 0, 1) := by decide +kernel
theorem dX1_read_34 : decode cX1_read 34 = .ok (.getfield 18, 3) := by decide +kernel
theorem dX1_read_37 : decode cX1_read 37 = .ok (.iconst 5, 1) := by decide +kernel
theorem dX1_read_38 : decode cX1_read 38 = .ok (.if_icmp .ge 51, 3) := by decide +kernel
theorem dX1_read_41 : decode cX1_read 41 = .ok (.aload_n 0, 1) := by decide +kernel
theorem dX1_read_42 : decode cX1_read 42 = .ok (.getfield 9, 3) := by decide +kernel
theorem dX1_read_45 : decode cX1_read 45 = .ok (.aload_n 0, 1) := by decide +kernel
theorem dX1_read_46 : decode cX1_read 46 = .ok (.getfield 18, 3) := by decide +kernel
theorem dX1_read_49 : decode cX1_read 49 = .ok (.aload_n 1, 1) := by decide +kernel
theorem dX1_read_50 : decode cX1_read 50 = .ok (.iload_n 2, 1) := by decide +kernel
theorem dX1_read_51 : decode cX1_read 51 = .ok (.iconst 1, 1) := by decide +kernel
theorem dX1_read_52 : decode cX1_read 52 = .ok (.iadd, 1) := by decide +kernel
theorem dX1_read_53 : decode cX1_read 53 = .ok (.invokevirtual 32, 3) := by decide +kernel
theorem dX1_read_56 : decode cX1_read 56 = .ok (.iastore, 1) := by decide +kernel
theorem dX1_read_57 : decode cX1_read 57 = .ok (.aload_n 0, 1) := by decide +kernel
theorem dX1_read_58 : decode cX1_read 58 = .ok (.getfield 15, 3) := by decide +kernel
theorem dX1_read_61 : decode cX1_read 61 = .ok (.aload_n 0, 1) := by decide +kernel
theorem dX1_read_62 : decode cX1_read 62 = .ok (.getfield 18, 3) := by decide +kernel
theorem dX1_read_65 : decode cX1_read 65 = .ok (.aload_n 1, 1) := by decide +kernel
theorem dX1_read_66 : decode cX1_read 66 = .ok (.iload_n 2, 1) := by decide +kernel
theorem dX1_read_67 : decode cX1_read 67 = .ok (.iconst 2, 1) := by decide +kernel
theorem dX1_read_68 : decode cX1_read 68 = .ok (.iadd, 1) := by decide +kernel
theorem dX1_read_69 : decode cX1_read 69 = .ok (.invokevirtual 25, 3) := by decide +kernel
theorem dX1_read_72 : decode cX1_read 72 = .ok (.iastore, 1) := by decide +kernel
theorem dX1_read_73 : decode cX1_read 73 = .ok (.aload_n 0, 1) := by decide +kernel
theorem dX1_read_74 : decode cX1_read 74 = .ok (.dup, 1) := by decide +kernel
theorem dX1_read_75 : decode cX1_read 75 = .ok (.getfield 18, 3) := by decide +kernel
theorem dX1_read_78 : decode cX1_read 78 = .ok (.iconst 1, 1) := by decide +kernel
theorem dX1_read_79 : decode cX1_read 79 = .ok (.iadd, 1) := by decide +kernel
theorem dX1_read_80 : decode cX1_read 80 = .ok (.putfield 18, 3) := by decide +kernel
theorem dX1_read_83 : decode cX1_read 83 = .ok (.iinc 2 3, 3) := by decide +kernel
theorem dX1_read_86 : decode cX1_read 86 = .ok (.goto (-61), 3) := by decide +kernel
theorem dX1_read_89 : decode cX1_read 89 = .ok (.return_, 1) := by decide +kernel
theorem dX2_init_0 : decode cX2_init 0 = .ok (.aload_n 0, 1) := by decide +kernel
theorem dX2_init_1 : decode cX2_init 1 = .ok (.invokespecial 3, 3) := by decide +kernel
theorem dX2_init_4 : decode cX2_init 4 = .ok (.aload_n 0, 1) := by decide +kernel
theorem dX2_init_5 : decode cX2_init 5 = .ok (.bipush 8, 2) := by decide +kernel
theorem dX2_init_7 : decode cX2_init 7 = .ok (.newarray .int, 2) := by decide +kernel
theorem dX2_init_9 : decode cX2_init 9 = .ok (.putfield 9, 3) := by decide +kernel
theorem dX2_init_12 : decode cX2_init 12 = .ok (.aload_n 0, 1) := by decide +kernel
theorem dX2_init_13 : decode cX2_init 13 = .ok (.bipush 8, 2) := by decide +kernel
theorem dX2_init_15 : decode cX2_init 15 = .ok (.newarray .int, 2) := by decide +kernel
theorem dX2_init_17 : decode cX2_init 17 = .ok (.putfield 15, 3) := by decide +kernel
theorem dX2_init_20 : decode cX2_init 20 = .ok (.aload_n 0, 1) := by decide +kernel
theorem dX2_init_21 : decode cX2_init 21 = .ok (.bipush 8, 2) := by decide +kernel
theorem dX2_init_23 : decode cX2_init 23 = .ok (.newarray .int, 2) := by decide +kernel
theorem dX2_init_25 : decode cX2_init 25 = .ok (.putfield 18, 3) := by decide +kernel
theorem dX2_init_28 : decode cX2_init 28 = .ok (.aload_n 0, 1) := by decide +kernel
theorem dX2_init_29 : decode cX2_init 29 = .ok (.iconst 0, 1) := by decide +kernel
theorem dX2_init_30 : decode cX2_init 30 = .ok (.putfield 21, 3) := by decide +kernel
theorem dX2_init_33 : decode cX2_init 33 = .ok (.return_, 1) := by decide +kernel
theorem dX2_put_0 : decode cX2_put 0 = .ok (.aload_n 0, 1) := by decide +kernel
theorem dX2_put_1 : decode cX2_put 1 = .ok (.getfield 21, 3) := by decide +kernel
theorem dX2_put_4 : decode cX2_put 4 = .ok (.bipush 8, 2) := by decide +kernel
theorem dX2_put_6 : decode cX2_put 6 = .ok (.if_icmp .ge 43, 3) := by decide +kernel
theorem dX2_put_9 : decode cX2_put 9 = .ok (.aload_n 0, 1) := by decide +kernel
theorem dX2_put_10 : decode cX2_put 10 = .ok (.getfield 9, 3) := by decide +kernel
theorem dX2_put_13 : decode cX2_put 13 = .ok (.aload_n 0, 1) := by decide +kernel
theorem dX2_put_14 : decode cX2_put 14 = .ok (.getfield 21, 3) := by decide +kernel
theorem dX2_put_17 : decode cX2_put 17 = .ok (.iload_n 1, 1) := by decide +kernel
theorem dX2_put_18 : decode cX2_put 18 = .ok (.iastore, 1) := by decide +kernel
theorem dX2_put_19 : decode cX2_put 19 = .ok (.aload_n 0, 1) := by decide +kernel
theorem dX2_put_20 : decode cX2_put 20 = .ok (.getfield 15, 3) := by decide +kernel
theorem dX2_put_23 : decode cX2_put 23 = .ok (.aload_n 0, 1) := by decide +kernel
theorem dX2_put_24 : decode cX2_put 24 = .ok (.getfield 21, 3) := by decide +kernel
theorem dX2_put_27 : decode cX2_put 27 = .ok (.iload_n 2, 1) := by decide +kernel
theorem dX2_put_28 : decode cX2_put 28 = .ok (.iastore, 1) := by decide +kernel
theorem dX2_put_29 : decode cX2_put 29 = .ok (.aload_n 0, 1) := by decide +kernel
theorem dX2_put_30 : decode cX2_put 30 = .ok (.getfield 18, 3) := by decide +kernel
theorem dX2_put_33 : decode cX2_put 33 = .ok (.aload_n 0, 1) := by decide +kernel
theorem dX2_put_34 : decode cX2_put 34 = .ok (.getfield 21, 3) := by decide +kernel
theorem dX2_put_37 : decode cX2_put 37 = .ok (.iload_n 3, 1) := by decide +kernel
theorem dX2_put_38 : decode cX2_put 38 = .ok (.iastore, 1) := by decide +kernel
theorem dX2_put_39 : decode cX2_put 39 = .ok (.aload_n 0, 1) := by decide +kernel
theorem dX2_put_40 : decode cX2_put 40 = .ok (.dup, 1) := by decide +kernel
theorem dX2_put_41 : decode cX2_put 41 = .ok (.getfield 21, 3) := by decide +kernel
theorem dX2_put_44 : decode cX2_put 44 = .ok (.iconst 1, 1) := by decide +kernel
theorem dX2_put_45 : decode cX2_put 45 = .ok (.iadd, 1) := by decide +kernel
theorem dX2_put_46 : decode cX2_put 46 = .ok (.putfield 21, 3) := by decide +kernel
theorem dX2_put_49 : decode cX2_put 49 = .ok (.return_, 1) := by decide +kernel
theorem dX2_copy_0 : decode cX2_copy 0 = .ok (.aload_n 1, 1) := by decide +kernel
theorem dX2_copy_1 : decode cX2_copy 1 = .ok (.getfield 9, 3) := by decide +kernel
theorem dX2_copy_4 : decode cX2_copy 4 = .ok (.iconst 0, 1) := by decide +kernel
theorem dX2_copy_5 : decode cX2_copy 5 = .ok (.aload_n 0, 1) := by decide +kernel
theorem dX2_copy_6 : decode cX2_copy 6 = .ok (.getfield 9, 3) := by decide +kernel
theorem dX2_copy_9 : decode cX2_copy 9 = .ok (.iconst 0, 1) := by decide +kernel
theorem dX2_copy_10 : decode cX2_copy 10 = .ok (.bipush 8, 2) := by decide +kernel
theorem dX2_copy_12 : decode cX2_copy 12 = .ok (.invokestatic 25, 3) := by decide +kernel
theorem dX2_copy_15 : decode cX2_copy 15 = .ok (.aload_n 1, 1) := by decide +kernel
theorem dX2_copy_16 : decode cX2_copy 16 = .ok (.getfield 15, 3) := by decide +kernel
theorem dX2_copy_19 : decode cX2_copy 19 = .ok (.iconst 0, 1) := by decide +kernel
theorem dX2_copy_20 : decode cX2_copy 20 = .ok (.aload_n 0, 1) := by decide +kernel
theorem dX2_copy_21 : decode cX2_copy 21 = .ok (.getfield 15, 3) := by decide +kernel
theorem dX2_copy_24 : decode cX2_copy 24 = .ok (.iconst 0, 1) := by decide +kernel
theorem dX2_copy_25 : decode cX2_copy 25 = .ok (.bipush 8, 2) := by decide +kernel
theorem dX2_copy_27 : decode cX2_copy 27 = .ok (.invokestatic 25, 3) := by decide +kernel
theorem dX2_copy_30 : decode cX2_copy 30 = .ok (.aload_n 1, 1) := by decide +kernel
theorem dX2_copy_31 : decode cX2_copy 31 = .ok (.getfield 18, 3) := by decide +kernel
theorem dX2_copy_34 : decode cX2_copy 34 = .ok (.iconst 0, 1) := by decide +kernel
theorem dX2_copy_35 : decode cX2_copy 35 = .ok (.aload_n 0, 1) := by decide +kernel
theorem dX2_copy_36 : decode cX2_copy 36 = .ok (.getfield 18, 3) := by decide +kernel
theorem dX2_copy_39 : decode cX2_copy 39 = .ok (.iconst 0, 1) := by decide +kernel
theorem dX2_copy_40 : decode cX2_copy 40 = .ok (.bipush 8, 2) := by decide +kernel
theorem dX2_copy_42 : decode cX2_copy 42 = .ok (.invokestatic 25, 3) := by decide +kernel
theorem dX2_copy_45 : decode cX2_copy 45 = .ok (.aload_n 0, 1) := by decide +kernel
theorem dX2_copy_46 : decode cX2_copy 46 = .ok (.aload_n 1, 1) := by decide +kernel
theorem dX2_copy_47 : decode cX2_copy 47 = .ok (.getfield 21, 3) := by decide +kernel
theorem dX2_copy_50 : decode cX2_copy 50 = .ok (.putfield 21, 3) := by decide +kernel
theorem dX2_copy_53 : decode cX2_copy 53 = .ok (.return_, 1) := by decide +kernel
theorem dX3_init_0 : decode cX3_init 0 = .ok (.aload_n 0, 1) := by decide +kernel
theorem dX3_init_1 : decode cX3_init 1 = .ok (.invokespecial 3, 3) := by decide +kernel
theorem dX3_init_4 : decode cX3_init 4 = .ok (.aload_n 0, 1) := by decide +kernel
theorem dX3_init_5 : decode cX3_init 5 = .ok (.bipush 12, 2) := by decide +kernel
theorem dX3_init_7 : decode cX3_init 7 = .ok (.newarray .int, 2) := by decide +kernel
theorem dX3_init_9 : decode cX3_init 9 = .ok (.putfield 9, 3) := by decide +kernel
theorem dX3_init_12 : decode cX3_init 12 = .ok (.aload_n 0, 1) := by decide +kernel
theorem dX3_init_13 : decode cX3_init 13 = .ok (.bipush 12, 2) := by decide +kernel
theorem dX3_init_15 : decode cX3_init 15 = .ok (.newarray .int, 2) := by decide +kernel
theorem dX3_init_17 : decode cX3_init 17 = .ok (.putfield 15, 3) := by decide +kernel
theorem dX3_init_20 : decode cX3_init 20 = .ok (.aload_n 0, 1) := by decide +kernel
theorem dX3_init_21 : decode cX3_init 21 = .ok (.bipush 12, 2) := by decide +kernel
theorem dX3_init_23 : decode cX3_init 23 = .ok (.newarray .int, 2) := by decide +kernel
theorem dX3_init_25 : decode cX3_init 25 = .ok (.putfield 18, 3) := by decide +kernel
theorem dX3_init_28 : decode cX3_init 28 = .ok (.aload_n 0, 1) := by decide +kernel
theorem dX3_init_29 : decode cX3_init 29 = .ok (.bipush 12, 2) := by decide +kernel
theorem dX3_init_31 : decode cX3_init 31 = .ok (.newarray .int, 2) := by decide +kernel
theorem dX3_init_33 : decode cX3_init 33 = .ok (.putfield 21, 3) := by decide +kernel
theorem dX3_init_36 : decode cX3_init 36 = .ok (.aload_n 0, 1) := by decide +kernel
theorem dX3_init_37 : decode cX3_init 37 = .ok (.iconst 0, 1) := by decide +kernel
theorem dX3_init_38 : decode cX3_init 38 = .ok (.putfield 24, 3) := by decide +kernel
theorem dX3_init_41 : decode cX3_init 41 = .ok (.aload_n 0, 1) := by decide +kernel
theorem dX3_init_42 : decode cX3_init 42 = .ok (.iconst 0, 1) := by decide +kernel
theorem dX3_init_43 : decode cX3_init 43 = .ok (.putfield 28, 3) := by decide +kernel
theorem dX3_init_46 : decode cX3_init 46 = .ok (.return_, 1) := by decide +kernel
theorem dX3_read_0 : decode cX3_read 0 = .ok (.aload_n 0, 1) := by decide +kernel
theorem dX3_read_1 : decode cX3_read 1 = .ok (.getfield 15, 3) := by decide +kernel
theorem dX3_read_4 : decode cX3_read 4 = .ok (.iconst 0, 1) := by decide +kernel
theorem dX3_read_5 : decode cX3_read 5 = .ok (.invokestatic 31, 3) := by decide +kernel
theorem dX3_read_8 : decode cX3_read 8 = .ok (.aload_n 0, 1) := by decide +kernel
theorem dX3_read_9 : decode cX3_read 9 = .ok (.getfield 18, 3) := by decide +kernel
theorem dX3_read_12 : decode cX3_read 12 = .ok (.iconst 0, 1) := by decide +kernel
theorem dX3_read_13 : decode cX3_read 13 = .ok (.invokestatic 31, 3) := by decide +kernel
theorem dX3_read_16 : decode cX3_read 16 = .ok (.aload_n 0, 1) := by decide +kernel
theorem dX3_read_17 : decode cX3_read 17 = .ok (.getfield 21, 3) := by decide +kernel
theorem dX3_read_20 : decode cX3_read 20 = .ok (.iconst 0, 1) := by decide +kernel
theorem dX3_read_21 : decode cX3_read 21 = .ok (.invokestatic 31, 3) := by decide +kernel
theorem dX3_read_24 : decode cX3_read 24 = .ok (.iconst 0, 1) := by decide +kernel
theorem dX3_read_25 : decode cX3_read 25 = .ok (.istore_n 2, 1) := by decide +kernel
theorem dX3_read_26 : decode cX3_read 26 = .ok (.iconst 0, 1) := by decide +kernel
theorem dX3_read_27 : decode cX3_read 27 = .ok (.istore_n 3, 1) := by decide +kernel
theorem dX3_read_28 : decode cX3_read 28 = .ok (.iload_n 3, 1) := by decide +kernel
theorem dX3_read_29 : decode cX3_read 29 = .ok (.aload_n 1, 1) := by decide +kernel
theorem dX3_read_30 : decode cX3_read 30 = .ok (.getfield 37, 3) := by decide +kernel
theorem dX3_read_33 : decode cX3_read 33 = .ok (.if_icmp .ge 92, 3) := by decide +kernel
theorem dX3_read_36 : decode cX3_read 36 = .ok (.iload_n 2, 1) := by decide +kernel
theorem dX3_read_37 : decode cX3_read 37 = .ok (.bipush 12, 2) := by decide +kernel
theorem dX3_read_39 : decode cX3_read 39 = .ok (.if_icmp .ge 86, 3) := by decide +kernel
theorem dX3_read_42 : decode cX3_read 42 = .ok (.aload_n 1, 1) := by decide +kernel
theorem dX3_read_43 : decode cX3_read 43 = .ok (.iload_n 3, 1) := by decide +kernel
theorem dX3_read_44 : decode cX3_read 44 = .ok (.invokevirtual 40, 3) := by decide +kernel
theorem dX3_read_47 : decode cX3_read 47 = .ok (.lookupswitch 65 #[(44, 33), (98, 39), (117, 55)], 33) := by decide +kernel
theorem dX3_read_80 : decode cX3_read 80 = .ok (.iinc 2 1, 3) := by decide +kernel
theorem dX3_read_83 : decode cX3_read 83 = .ok (.goto 36, 3) := by decide +kernel
theorem dX3_read_86 : decode cX3_read 86 = .ok (.aload_n 0, 1) := by decide +kernel
theorem dX3_read_87 : decode cX3_read 87 = .ok (.getfield 15, 3) := by decide +kernel
theorem dX3_read_90 : decode cX3_read 90 = .ok (.iload_n 2, 1) := by decide +kernel
theorem dX3_read_91 : decode cX3_read 91 = .ok (.aload_n 1, 1) := by decide +kernel
theorem dX3_read_92 : decode cX3_read 92 = .ok (.iload_n 3, 1) := by decide +kernel
theorem dX3_read_93 : decode cX3_read 93 = .ok (.iconst 1, 1) := by decide +kernel
theorem dX3_read_94 : decode cX3_read 94 = .ok (.iadd, 1) := by decide +kernel
theorem dX3_read_95 : decode cX3_read 95 = .ok (.invokevirtual 44, 3) := by decide +kernel
theorem dX3_read_98 : decode cX3_read 98 = .ok (.iastore, 1) := by decide +kernel
theorem dX3_read_99 : decode cX3_read 99 = .ok (.goto 20, 3) := by decide +kernel
theorem dX3_read_102 : decode cX3_read 102 = .ok (.aload_n 0, 1) := by decide +kernel
theorem dX3_read_103 : decode cX3_read 103 = .ok (.getfield 18, 3) := by decide +kernel
theorem dX3_read_106 : decode cX3_read 106 = .ok (.iload_n 2, 1) := by decide +kernel
theorem dX3_read_107 : decode cX3_read 107 = .ok (.iconst 1, 1) := by decide +kernel
theorem dX3_read_108 : decode cX3_read 108 = .ok (.iastore, 1) := by decide +kernel
theorem dX3_read_109 : decode cX3_read 109 = .ok (.goto 10, 3) := by decide +kernel
theorem dX3_read_112 : decode cX3_read 112 = .ok (.aload_n 0, 1) := by decide +kernel
theorem dX3_read_113 : decode cX3_read 113 = .ok (.aload_n 1, 1) := by decide +kernel
theorem dX3_read_114 : decode cX3_read 114 = .ok (.iload_n 3, 1) := by decide +kernel
theorem dX3_read_115 : decode cX3_read 115 = .ok (.iload_n 2, 1) := by decide +kernel
theorem dX3_read_116 : decode cX3_read 116 = .ok (.invokevirtual 47, 3) := by decide +kernel
theorem dX3_read_119 : decode cX3_read 119 = .ok (.iinc 3 1, 3) := by decide +kernel
theorem dX3_read_122 : decode cX3_read 122 = .ok (.goto (-94), 3) := by decide +kernel
theorem dX3_read_125 : decode cX3_read 125 = .ok (.aload_n 0, 1) := by decide +kernel
theorem dX3_read_126 : decode cX3_read 126 = .ok (.iload_n 2, 1) := by decide +kernel
theorem dX3_read_127 : decode cX3_read 127 = .ok (.iconst 1, 1) := by decide +kernel
theorem dX3_read_128 : decode cX3_read 128 = .ok (.iadd, 1) := by decide +kernel
theorem dX3_read_129 : decode cX3_read 129 = .ok (.bipush 12, 2) := by decide +kernel
theorem dX3_read_131 : decode cX3_read 131 = .ok (.invokestatic 51, 3) := by decide +kernel
theorem dX3_read_134 : decode cX3_read 134 = .ok (.putfield 24, 3) := by decide +kernel
theorem dX3_read_137 : decode cX3_read 137 = .ok (.aload_n 0, 1) := by decide +kernel
theorem dX3_read_138 : decode cX3_read 138 = .ok (.dup, 1) := by decide +kernel
theorem dX3_read_139 : decode cX3_read 139 = .ok (.getfield 28, 3) := by decide +kernel
theorem dX3_read_142 : decode cX3_read 142 = .ok (.iconst 1, 1) := by decide +kernel
theorem dX3_read_143 : decode cX3_read 143 = .ok (.iadd, 1) := by decide +kernel
theorem dX3_read_144 : decode cX3_read 144 = .ok (.putfield 28, 3) := by decide +kernel
theorem dX3_read_147 : decode cX3_read 147 = .ok (.return_, 1) := by decide +kernel
theorem dX3_readDrop_0 : decode cX3_readDrop 0 = .ok (.aload_n 1, 1) := by decide +kernel
theorem dX3_readDrop_1 : decode cX3_readDrop 1 = .ok (.iload_n 2, 1) := by decide +kernel
theorem dX3_readDrop_2 : decode cX3_readDrop 2 = .ok (.iconst 1, 1) := by decide +kernel
theorem dX3_readDrop_3 : decode cX3_readDrop 3 = .ok (.isub, 1) := by decide +kernel
theorem dX3_readDrop_4 : decode cX3_readDrop 4 = .ok (.invokevirtual 40, 3) := by decide +kernel
theorem dX3_readDrop_7 : decode cX3_readDrop 7 = .ok (.bipush 98, 2) := by decide +kernel
theorem dX3_readDrop_9 : decode cX3_readDrop 9 = .ok (.if_icmp .eq 14, 3) := by decide +kernel
theorem dX3_readDrop_12 : decode cX3_readDrop 12 = .ok (.aload_n 0, 1) := by decide +kernel
theorem dX3_readDrop_13 : decode cX3_readDrop 13 = .ok (.getfield 9, 3) := by decide +kernel
theorem dX3_readDrop_16 : decode cX3_readDrop 16 = .ok (.iload_n 3, 1) := by decide +kernel
theorem dX3_readDrop_17 : decode cX3_readDrop 17 = .ok (.aload_n 1, 1) := by decide +kernel
theorem dX3_readDrop_18 : decode cX3_readDrop 18 = .ok (.iload_n 2, 1) := by decide +kernel
theorem dX3_readDrop_19 : decode cX3_readDrop 19 = .ok (.invokevirtual 44, 3) := by decide +kernel
theorem dX3_readDrop_22 : decode cX3_readDrop 22 = .ok (.iastore, 1) := by decide +kernel
theorem dX3_readDrop_23 : decode cX3_readDrop 23 = .ok (.return_, 1) := by decide +kernel
theorem dX3_bends_0 : decode cX3_bends 0 = .ok (.iconst 0, 1) := by decide +kernel
theorem dX3_bends_1 : decode cX3_bends 1 = .ok (.istore_n 1, 1) := by decide +kernel
theorem dX3_bends_2 : decode cX3_bends 2 = .ok (.iconst 0, 1) := by decide +kernel
theorem dX3_bends_3 : decode cX3_bends 3 = .ok (.istore_n 2, 1) := by decide +kernel
theorem dX3_bends_4 : decode cX3_bends 4 = .ok (.iload_n 2, 1) := by decide +kernel
theorem dX3_bends_5 : decode cX3_bends 5 = .ok (.aload_n 0, 1) := by decide +kernel
theorem dX3_bends_6 : decode cX3_bends 6 = .ok (.getfield 24, 3) := by decide +kernel
theorem dX3_bends_9 : decode cX3_bends 9 = .ok (.if_icmp .ge 21, 3) := by decide +kernel
theorem dX3_bends_12 : decode cX3_bends 12 = .ok (.aload_n 0, 1) := by decide +kernel
theorem dX3_bends_13 : decode cX3_bends 13 = .ok (.getfield 15, 3) := by decide +kernel
theorem dX3_bends_16 : decode cX3_bends 16 = .ok (.iload_n 2, 1) := by decide +kernel
theorem dX3_bends_17 : decode cX3_bends 17 = .ok (.iaload, 1) := by decide +kernel
theorem dX3_bends_18 : decode cX3_bends 18 = .ok (.ifCond .le 6, 3) := by decide +kernel
theorem dX3_bends_21 : decode cX3_bends 21 = .ok (.iinc 1 1, 3) := by decide +kernel
theorem dX3_bends_24 : decode cX3_bends 24 = .ok (.iinc 2 1, 3) := by decide +kernel
theorem dX3_bends_27 : decode cX3_bends 27 = .ok (.goto (-23), 3) := by decide +kernel
theorem dX3_bends_30 : decode cX3_bends 30 = .ok (.iload_n 1, 1) := by decide +kernel
theorem dX3_bends_31 : decode cX3_bends 31 = .ok (.ireturn, 1) := by decide +kernel
theorem dX3_bendAt_0 : decode cX3_bendAt 0 = .ok (.iconst 0, 1) := by decide +kernel
theorem dX3_bendAt_1 : decode cX3_bendAt 1 = .ok (.istore_n 2, 1) := by decide +kernel
theorem dX3_bendAt_2 : decode cX3_bendAt 2 = .ok (.iconst 0, 1) := by decide +kernel
theorem dX3_bendAt_3 : decode cX3_bendAt 3 = .ok (.istore_n 3, 1) := by decide +kernel
theorem dX3_bendAt_4 : decode cX3_bendAt 4 = .ok (.iload_n 3, 1) := by decide +kernel
theorem dX3_bendAt_5 : decode cX3_bendAt 5 = .ok (.aload_n 0, 1) := by decide +kernel
theorem dX3_bendAt_6 : decode cX3_bendAt 6 = .ok (.getfield 24, 3) := by decide +kernel
theorem dX3_bendAt_9 : decode cX3_bendAt 9 = .ok (.if_icmp .ge 28, 3) := by decide +kernel
theorem dX3_bendAt_12 : decode cX3_bendAt 12 = .ok (.aload_n 0, 1) := by decide +kernel
theorem dX3_bendAt_13 : decode cX3_bendAt 13 = .ok (.getfield 15, 3) := by decide +kernel
theorem dX3_bendAt_16 : decode cX3_bendAt 16 = .ok (.iload_n 3, 1) := by decide +kernel
theorem dX3_bendAt_17 : decode cX3_bendAt 17 = .ok (.iaload, 1) := by decide +kernel
theorem dX3_bendAt_18 : decode cX3_bendAt 18 = .ok (.ifCond .le 13, 3) := by decide +kernel
theorem dX3_bendAt_21 : decode cX3_bendAt 21 = .ok (.iload_n 2, 1) := by decide +kernel
theorem dX3_bendAt_22 : decode cX3_bendAt 22 = .ok (.iload_n 1, 1) := by decide +kernel
theorem dX3_bendAt_23 : decode cX3_bendAt 23 = .ok (.if_icmp .ne 5, 3) := by decide +kernel
theorem dX3_bendAt_26 : decode cX3_bendAt 26 = .ok (.iload_n 3, 1) := by decide +kernel
theorem dX3_bendAt_27 : decode cX3_bendAt 27 = .ok (.ireturn, 1) := by decide +kernel
theorem dX3_bendAt_28 : decode cX3_bendAt 28 = .ok (.iinc 2 1, 3) := by decide +kernel
theorem dX3_bendAt_31 : decode cX3_bendAt 31 = .ok (.iinc 3 1, 3) := by decide +kernel
theorem dX3_bendAt_34 : decode cX3_bendAt 34 = .ok (.goto (-30), 3) := by decide +kernel
theorem dX3_bendAt_37 : decode cX3_bendAt 37 = .ok (.iconst (-1), 1) := by decide +kernel
theorem dX3_bendAt_38 : decode cX3_bendAt 38 = .ok (.ireturn, 1) := by decide +kernel
theorem dX4_init_0 : decode cX4_init 0 = .ok (.aload_n 0, 1) := by decide +kernel
theorem dX4_init_1 : decode cX4_init 1 = .ok (.invokespecial 3, 3) := by decide +kernel
theorem dX4_init_4 : decode cX4_init 4 = .ok (.aload_n 0, 1) := by decide +kernel
theorem dX4_init_5 : decode cX4_init 5 = .ok (.bipush 8, 2) := by decide +kernel
theorem dX4_init_7 : decode cX4_init 7 = .ok (.newarray .int, 2) := by decide +kernel
theorem dX4_init_9 : decode cX4_init 9 = .ok (.putfield 9, 3) := by decide +kernel
theorem dX4_init_12 : decode cX4_init 12 = .ok (.aload_n 0, 1) := by decide +kernel
theorem dX4_init_13 : decode cX4_init 13 = .ok (.bipush 12, 2) := by decide +kernel
theorem dX4_init_15 : decode cX4_init 15 = .ok (.newarray .int, 2) := by decide +kernel
theorem dX4_init_17 : decode cX4_init 17 = .ok (.putfield 15, 3) := by decide +kernel
theorem dX4_init_20 : decode cX4_init 20 = .ok (.aload_n 0, 1) := by decide +kernel
theorem dX4_init_21 : decode cX4_init 21 = .ok (.new 18, 3) := by decide +kernel
theorem dX4_init_24 : decode cX4_init 24 = .ok (.dup, 1) := by decide +kernel
theorem dX4_init_25 : decode cX4_init 25 = .ok (.invokespecial 20, 3) := by decide +kernel
theorem dX4_init_28 : decode cX4_init 28 = .ok (.putfield 21, 3) := by decide +kernel
theorem dX4_init_31 : decode cX4_init 31 = .ok (.aload_n 0, 1) := by decide +kernel
theorem dX4_init_32 : decode cX4_init 32 = .ok (.iconst 0, 1) := by decide +kernel
theorem dX4_init_33 : decode cX4_init 33 = .ok (.putfield 25, 3) := by decide +kernel
theorem dX4_init_36 : decode cX4_init 36 = .ok (.aload_n 0, 1) := by decide +kernel
theorem dX4_init_37 : decode cX4_init 37 = .ok (.iconst 0, 1) := by decide +kernel
theorem dX4_init_38 : decode cX4_init 38 = .ok (.putfield 29, 3) := by decide +kernel
theorem dX4_init_41 : decode cX4_init 41 = .ok (.aload_n 0, 1) := by decide +kernel
theorem dX4_init_42 : decode cX4_init 42 = .ok (.iconst 0, 1) := by decide +kernel
theorem dX4_init_43 : decode cX4_init 43 = .ok (.putfield 32, 3) := by decide +kernel
theorem dX4_init_46 : decode cX4_init 46 = .ok (.return_, 1) := by decide +kernel
theorem dX5_init_0 : decode cX5_init 0 = .ok (.aload_n 0, 1) := by decide +kernel
theorem dX5_init_1 : decode cX5_init 1 = .ok (.invokespecial 3, 3) := by decide +kernel
theorem dX5_init_4 : decode cX5_init 4 = .ok (.aload_n 0, 1) := by decide +kernel
theorem dX5_init_5 : decode cX5_init 5 = .ok (.bipush 50, 2) := by decide +kernel
theorem dX5_init_7 : decode cX5_init 7 = .ok (.newarray .int, 2) := by decide +kernel
theorem dX5_init_9 : decode cX5_init 9 = .ok (.putfield 9, 3) := by decide +kernel
theorem dX5_init_12 : decode cX5_init 12 = .ok (.aload_n 0, 1) := by decide +kernel
theorem dX5_init_13 : decode cX5_init 13 = .ok (.iconst 0, 1) := by decide +kernel
theorem dX5_init_14 : decode cX5_init 14 = .ok (.putfield 15, 3) := by decide +kernel
theorem dX5_init_17 : decode cX5_init 17 = .ok (.return_, 1) := by decide +kernel
theorem dX5_put_0 : decode cX5_put 0 = .ok (.aload_n 0, 1) := by decide +kernel
theorem dX5_put_1 : decode cX5_put 1 = .ok (.getfield 15, 3) := by decide +kernel
theorem dX5_put_4 : decode cX5_put 4 = .ok (.bipush 50, 2) := by decide +kernel
theorem dX5_put_6 : decode cX5_put 6 = .ok (.if_icmp .ge 23, 3) := by decide +kernel
theorem dX5_put_9 : decode cX5_put 9 = .ok (.aload_n 0, 1) := by decide +kernel
theorem dX5_put_10 : decode cX5_put 10 = .ok (.getfield 9, 3) := by decide +kernel
theorem dX5_put_13 : decode cX5_put 13 = .ok (.aload_n 0, 1) := by decide +kernel
theorem dX5_put_14 : decode cX5_put 14 = .ok (.getfield 15, 3) := by decide +kernel
theorem dX5_put_17 : decode cX5_put 17 = .ok (.iload_n 1, 1) := by decide +kernel
theorem dX5_put_18 : decode cX5_put 18 = .ok (.iastore, 1) := by decide +kernel
theorem dX5_put_19 : decode cX5_put 19 = .ok (.aload_n 0, 1) := by decide +kernel
theorem dX5_put_20 : decode cX5_put 20 = .ok (.dup, 1) := by decide +kernel
theorem dX5_put_21 : decode cX5_put 21 = .ok (.getfield 15, 3) := by decide +kernel
theorem dX5_put_24 : decode cX5_put 24 = .ok (.iconst 1, 1) := by decide +kernel
theorem dX5_put_25 : decode cX5_put 25 = .ok (.iadd, 1) := by decide +kernel
theorem dX5_put_26 : decode cX5_put 26 = .ok (.putfield 15, 3) := by decide +kernel
theorem dX5_put_29 : decode cX5_put 29 = .ok (.return_, 1) := by decide +kernel
theorem dX5_at_0 : decode cX5_at 0 = .ok (.iload_n 1, 1) := by decide +kernel
theorem dX5_at_1 : decode cX5_at 1 = .ok (.ifCond .lt 20, 3) := by decide +kernel
theorem dX5_at_4 : decode cX5_at 4 = .ok (.iload_n 1, 1) := by decide +kernel
theorem dX5_at_5 : decode cX5_at 5 = .ok (.aload_n 0, 1) := by decide +kernel
theorem dX5_at_6 : decode cX5_at 6 = .ok (.getfield 15, 3) := by decide +kernel
theorem dX5_at_9 : decode cX5_at 9 = .ok (.if_icmp .ge 12, 3) := by decide +kernel
theorem dX5_at_12 : decode cX5_at 12 = .ok (.aload_n 0, 1) := by decide +kernel
theorem dX5_at_13 : decode cX5_at 13 = .ok (.getfield 9, 3) := by decide +kernel
theorem dX5_at_16 : decode cX5_at 16 = .ok (.iload_n 1, 1) := by decide +kernel
theorem dX5_at_17 : decode cX5_at 17 = .ok (.iaload, 1) := by decide +kernel
theorem dX5_at_18 : decode cX5_at 18 = .ok (.goto 4, 3) := by decide +kernel
theorem dX5_at_21 : decode cX5_at 21 = .ok (.iconst 0, 1) := by decide +kernel
theorem dX5_at_22 : decode cX5_at 22 = .ok (.ireturn, 1) := by decide +kernel
theorem dX5_digitAt_0 : decode cX5_digitAt 0 = .ok (.aload_n 0, 1) := by decide +kernel
theorem dX5_digitAt_1 : decode cX5_digitAt 1 = .ok (.iload_n 1, 1) := by decide +kernel
theorem dX5_digitAt_2 : decode cX5_digitAt 2 = .ok (.invokevirtual 19, 3) := by decide +kernel
theorem dX5_digitAt_5 : decode cX5_digitAt 5 = .ok (.bipush 48, 2) := by decide +kernel
theorem dX5_digitAt_7 : decode cX5_digitAt 7 = .ok (.isub, 1) := by decide +kernel
theorem dX5_digitAt_8 : decode cX5_digitAt 8 = .ok (.ireturn, 1) := by decide +kernel
theorem dX5_isDigit_0 : decode cX5_isDigit 0 = .ok (.aload_n 0, 1) := by decide +kernel
theorem dX5_isDigit_1 : decode cX5_isDigit 1 = .ok (.iload_n 1, 1) := by decide +kernel
theorem dX5_isDigit_2 : decode cX5_isDigit 2 = .ok (.invokevirtual 23, 3) := by decide +kernel
theorem dX5_isDigit_5 : decode cX5_isDigit 5 = .ok (.iload_n 2, 1) := by decide +kernel
theorem dX5_isDigit_6 : decode cX5_isDigit 6 = .ok (.if_icmp .lt 17, 3) := by decide +kernel
theorem dX5_isDigit_9 : decode cX5_isDigit 9 = .ok (.aload_n 0, 1) := by decide +kernel
theorem dX5_isDigit_10 : decode cX5_isDigit 10 = .ok (.iload_n 1, 1) := by decide +kernel
theorem dX5_isDigit_11 : decode cX5_isDigit 11 = .ok (.invokevirtual 23, 3) := by decide +kernel
theorem dX5_isDigit_14 : decode cX5_isDigit 14 = .ok (.bipush 9, 2) := by decide +kernel
theorem dX5_isDigit_16 : decode cX5_isDigit 16 = .ok (.if_icmp .gt 7, 3) := by decide +kernel
theorem dX5_isDigit_19 : decode cX5_isDigit 19 = .ok (.iconst 1, 1) := by decide +kernel
theorem dX5_isDigit_20 : decode cX5_isDigit 20 = .ok (.goto 4, 3) := by decide +kernel
theorem dX5_isDigit_23 : decode cX5_isDigit 23 = .ok (.iconst 0, 1) := by decide +kernel
theorem dX5_isDigit_24 : decode cX5_isDigit 24 = .ok (.ireturn, 1) := by decide +kernel
theorem dX5_hillFault_0 : decode cX5_hillFault 0 = .ok (.iconst 1, 1) := by decide +kernel
theorem dX5_hillFault_1 : decode cX5_hillFault 1 = .ok (.istore_n 1, 1) := by decide +kernel
theorem dX5_hillFault_2 : decode cX5_hillFault 2 = .ok (.iconst 0, 1) := by decide +kernel
theorem dX5_hillFault_3 : decode cX5_hillFault 3 = .ok (.istore_n 2, 1) := by decide +kernel
theorem dX5_hillFault_4 : decode cX5_hillFault 4 = .ok (.iload_n 2, 1) := by decide +kernel
theorem dX5_hillFault_5 : decode cX5_hillFault 5 = .ok (.aload_n 0, 1) := by decide +kernel
theorem dX5_hillFault_6 : decode cX5_hillFault 6 = .ok (.getfield 15, 3) := by decide +kernel
theorem dX5_hillFault_9 : decode cX5_hillFault 9 = .ok (.if_icmp .ge 43, 3) := by decide +kernel
theorem dX5_hillFault_12 : decode cX5_hillFault 12 = .ok (.aload_n 0, 1) := by decide +kernel
theorem dX5_hillFault_13 : decode cX5_hillFault 13 = .ok (.iload_n 2, 1) := by decide +kernel
theorem dX5_hillFault_14 : decode cX5_hillFault 14 = .ok (.iload_n 1, 1) := by decide +kernel
theorem dX5_hillFault_15 : decode cX5_hillFault 15 = .ok (.bipush 12, 2) := by decide +kernel
theorem dX5_hillFault_17 : decode cX5_hillFault 17 = .ok (.if_icmp .ge 7, 3) := by decide +kernel
theorem dX5_hillFault_20 : decode cX5_hillFault 20 = .ok (.iconst 1, 1) := by decide +kernel
theorem dX5_hillFault_21 : decode cX5_hillFault 21 = .ok (.goto 4, 3) := by decide +kernel
theorem dX5_hillFault_24 : decode cX5_hillFault 24 = .ok (.iconst 0, 1) := by decide +kernel
theorem dX5_hillFault_25 : decode cX5_hillFault 25 = .ok (.invokevirtual 26, 3) := by decide +kernel
theorem dX5_hillFault_28 : decode cX5_hillFault 28 = .ok (.ifCond .ne 5, 3) := by decide +kernel
theorem dX5_hillFault_31 : decode cX5_hillFault 31 = .ok (.iload_n 2, 1) := by decide +kernel
theorem dX5_hillFault_32 : decode cX5_hillFault 32 = .ok (.ireturn, 1) := by decide +kernel
theorem dX5_hillFault_33 : decode cX5_hillFault 33 = .ok (.aload_n 0, 1) := by decide +kernel
theorem dX5_hillFault_34 : decode cX5_hillFault 34 = .ok (.iload_n 2, 1) := by decide +kernel
theorem dX5_hillFault_35 : decode cX5_hillFault 35 = .ok (.invokevirtual 19, 3) := by decide +kernel
theorem dX5_hillFault_38 : decode cX5_hillFault 38 = .ok (.bipush 44, 2) := by decide +kernel
theorem dX5_hillFault_40 : decode cX5_hillFault 40 = .ok (.if_icmp .ne 6, 3) := by decide +kernel
theorem dX5_hillFault_43 : decode cX5_hillFault 43 = .ok (.iinc 1 1, 3) := by decide +kernel
theorem dX5_hillFault_46 : decode cX5_hillFault 46 = .ok (.iinc 2 1, 3) := by decide +kernel
theorem dX5_hillFault_49 : decode cX5_hillFault 49 = .ok (.goto (-45), 3) := by decide +kernel
theorem dX5_hillFault_52 : decode cX5_hillFault 52 = .ok (.aload_n 0, 1) := by decide +kernel
theorem dX5_hillFault_53 : decode cX5_hillFault 53 = .ok (.getfield 15, 3) := by decide +kernel
theorem dX5_hillFault_56 : decode cX5_hillFault 56 = .ok (.ireturn, 1) := by decide +kernel
theorem dX5_fitsHill_0 : decode cX5_fitsHill 0 = .ok (.aload_n 0, 1) := by decide +kernel
theorem dX5_fitsHill_1 : decode cX5_fitsHill 1 = .ok (.iload_n 1, 1) := by decide +kernel
theorem dX5_fitsHill_2 : decode cX5_fitsHill 2 = .ok (.iconst 1, 1) := by decide +kernel
theorem dX5_fitsHill_3 : decode cX5_fitsHill 3 = .ok (.isub, 1) := by decide +kernel
theorem dX5_fitsHill_4 : decode cX5_fitsHill 4 = .ok (.invokevirtual 19, 3) := by decide +kernel
theorem dX5_fitsHill_7 : decode cX5_fitsHill 7 = .ok (.istore_n 3, 1) := by decide +kernel
theorem dX5_fitsHill_8 : decode cX5_fitsHill 8 = .ok (.iload_n 3, 1) := by decide +kernel
theorem dX5_fitsHill_9 : decode cX5_fitsHill 9 = .ok (.ifCond .eq 9, 3) := by decide +kernel
theorem dX5_fitsHill_12 : decode cX5_fitsHill 12 = .ok (.iload_n 3, 1) := by decide +kernel
theorem dX5_fitsHill_13 : decode cX5_fitsHill 13 = .ok (.bipush 44, 2) := by decide +kernel
theorem dX5_fitsHill_15 : decode cX5_fitsHill 15 = .ok (.if_icmp .ne 10, 3) := by decide +kernel
theorem dX5_fitsHill_18 : decode cX5_fitsHill 18 = .ok (.aload_n 0, 1) := by decide +kernel
theorem dX5_fitsHill_19 : decode cX5_fitsHill 19 = .ok (.iload_n 1, 1) := by decide +kernel
theorem dX5_fitsHill_20 : decode cX5_fitsHill 20 = .ok (.iconst 0, 1) := by decide +kernel
theorem dX5_fitsHill_21 : decode cX5_fitsHill 21 = .ok (.invokevirtual 30, 3) := by decide +kernel
theorem dX5_fitsHill_24 : decode cX5_fitsHill 24 = .ok (.ireturn, 1) := by decide +kernel
theorem dX5_fitsHill_25 : decode cX5_fitsHill 25 = .ok (.iload_n 3, 1) := by decide +kernel
theorem dX5_fitsHill_26 : decode cX5_fitsHill 26 = .ok (.bipush 98, 2) := by decide +kernel
theorem dX5_fitsHill_28 : decode cX5_fitsHill 28 = .ok (.if_icmp .ne 10, 3) := by decide +kernel
theorem dX5_fitsHill_31 : decode cX5_fitsHill 31 = .ok (.aload_n 0, 1) := by decide +kernel
theorem dX5_fitsHill_32 : decode cX5_fitsHill 32 = .ok (.iload_n 1, 1) := by decide +kernel
theorem dX5_fitsHill_33 : decode cX5_fitsHill 33 = .ok (.iconst 1, 1) := by decide +kernel
theorem dX5_fitsHill_34 : decode cX5_fitsHill 34 = .ok (.invokevirtual 30, 3) := by decide +kernel
theorem dX5_fitsHill_37 : decode cX5_fitsHill 37 = .ok (.ireturn, 1) := by decide +kernel
theorem dX5_fitsHill_38 : decode cX5_fitsHill 38 = .ok (.aload_n 0, 1) := by decide +kernel
theorem dX5_fitsHill_39 : decode cX5_fitsHill 39 = .ok (.iload_n 1, 1) := by decide +kernel
theorem dX5_fitsHill_40 : decode cX5_fitsHill 40 = .ok (.invokevirtual 19, 3) := by decide +kernel
theorem dX5_fitsHill_43 : decode cX5_fitsHill 43 = .ok (.bipush 44, 2) := by decide +kernel
theorem dX5_fitsHill_45 : decode cX5_fitsHill 45 = .ok (.if_icmp .ne 5, 3) := by decide +kernel
theorem dX5_fitsHill_48 : decode cX5_fitsHill 48 = .ok (.iload_n 2, 1) := by decide +kernel
theorem dX5_fitsHill_49 : decode cX5_fitsHill 49 = .ok (.ireturn, 1) := by decide +kernel
theorem dX5_fitsHill_50 : decode cX5_fitsHill 50 = .ok (.iload_n 3, 1) := by decide +kernel
theorem dX5_fitsHill_51 : decode cX5_fitsHill 51 = .ok (.bipush 117, 2) := by decide +kernel
theorem dX5_fitsHill_53 : decode cX5_fitsHill 53 = .ok (.if_icmp .eq 19, 3) := by decide +kernel
theorem dX5_fitsHill_56 : decode cX5_fitsHill 56 = .ok (.aload_n 0, 1) := by decide +kernel
theorem dX5_fitsHill_57 : decode cX5_fitsHill 57 = .ok (.iload_n 1, 1) := by decide +kernel
theorem dX5_fitsHill_58 : decode cX5_fitsHill 58 = .ok (.iconst 2, 1) := by decide +kernel
theorem dX5_fitsHill_59 : decode cX5_fitsHill 59 = .ok (.isub, 1) := by decide +kernel
theorem dX5_fitsHill_60 : decode cX5_fitsHill 60 = .ok (.invokevirtual 19, 3) := by decide +kernel
theorem dX5_fitsHill_63 : decode cX5_fitsHill 63 = .ok (.bipush 98, 2) := by decide +kernel
theorem dX5_fitsHill_65 : decode cX5_fitsHill 65 = .ok (.if_icmp .eq 7, 3) := by decide +kernel
theorem dX5_fitsHill_68 : decode cX5_fitsHill 68 = .ok (.iconst 1, 1) := by decide +kernel
theorem dX5_fitsHill_69 : decode cX5_fitsHill 69 = .ok (.goto 4, 3) := by decide +kernel
theorem dX5_fitsHill_72 : decode cX5_fitsHill 72 = .ok (.iconst 0, 1) := by decide +kernel
theorem dX5_fitsHill_73 : decode cX5_fitsHill 73 = .ok (.istore 4, 2) := by decide +kernel
theorem dX5_fitsHill_75 : decode cX5_fitsHill 75 = .ok (.iload 4, 2) := by decide +kernel
theorem dX5_fitsHill_77 : decode cX5_fitsHill 77 = .ok (.ifCond .eq 27, 3) := by decide +kernel
theorem dX5_fitsHill_80 : decode cX5_fitsHill 80 = .ok (.aload_n 0, 1) := by decide +kernel
theorem dX5_fitsHill_81 : decode cX5_fitsHill 81 = .ok (.iload_n 1, 1) := by decide +kernel
theorem dX5_fitsHill_82 : decode cX5_fitsHill 82 = .ok (.invokevirtual 19, 3) := by decide +kernel
theorem dX5_fitsHill_85 : decode cX5_fitsHill 85 = .ok (.bipush 98, 2) := by decide +kernel
theorem dX5_fitsHill_87 : decode cX5_fitsHill 87 = .ok (.if_icmp .eq 13, 3) := by decide +kernel
theorem dX5_fitsHill_90 : decode cX5_fitsHill 90 = .ok (.aload_n 0, 1) := by decide +kernel
theorem dX5_fitsHill_91 : decode cX5_fitsHill 91 = .ok (.iload_n 1, 1) := by decide +kernel
theorem dX5_fitsHill_92 : decode cX5_fitsHill 92 = .ok (.invokevirtual 19, 3) := by decide +kernel
theorem dX5_fitsHill_95 : decode cX5_fitsHill 95 = .ok (.bipush 117, 2) := by decide +kernel
theorem dX5_fitsHill_97 : decode cX5_fitsHill 97 = .ok (.if_icmp .ne 7, 3) := by decide +kernel
theorem dX5_fitsHill_100 : decode cX5_fitsHill 100 = .ok (.iconst 1, 1) := by decide +kernel
theorem dX5_fitsHill_101 : decode cX5_fitsHill 101 = .ok (.goto 4, 3) := by decide +kernel
theorem dX5_fitsHill_104 : decode cX5_fitsHill 104 = .ok (.iconst 0, 1) := by decide +kernel
theorem dX5_fitsHill_105 : decode cX5_fitsHill 105 = .ok (.ireturn, 1) := by decide +kernel
theorem dX5_isHill_0 : decode cX5_isHill 0 = .ok (.aload_n 0, 1) := by decide +kernel
theorem dX5_isHill_1 : decode cX5_isHill 1 = .ok (.aload_n 0, 1) := by decide +kernel
theorem dX5_isHill_2 : decode cX5_isHill 2 = .ok (.getfield 15, 3) := by decide +kernel
theorem dX5_isHill_5 : decode cX5_isHill 5 = .ok (.iconst 1, 1) := by decide +kernel
theorem dX5_isHill_6 : decode cX5_isHill 6 = .ok (.isub, 1) := by decide +kernel
theorem dX5_isHill_7 : decode cX5_isHill 7 = .ok (.invokevirtual 19, 3) := by decide +kernel
theorem dX5_isHill_10 : decode cX5_isHill 10 = .ok (.istore_n 1, 1) := by decide +kernel
theorem dX5_isHill_11 : decode cX5_isHill 11 = .ok (.aload_n 0, 1) := by decide +kernel
theorem dX5_isHill_12 : decode cX5_isHill 12 = .ok (.invokevirtual 34, 3) := by decide +kernel
theorem dX5_isHill_15 : decode cX5_isHill 15 = .ok (.aload_n 0, 1) := by decide +kernel
theorem dX5_isHill_16 : decode cX5_isHill 16 = .ok (.getfield 15, 3) := by decide +kernel
theorem dX5_isHill_19 : decode cX5_isHill 19 = .ok (.if_icmp .ne 26, 3) := by decide +kernel
theorem dX5_isHill_22 : decode cX5_isHill 22 = .ok (.iload_n 1, 1) := by decide +kernel
theorem dX5_isHill_23 : decode cX5_isHill 23 = .ok (.bipush 44, 2) := by decide +kernel
theorem dX5_isHill_25 : decode cX5_isHill 25 = .ok (.if_icmp .eq 20, 3) := by decide +kernel
theorem dX5_isHill_28 : decode cX5_isHill 28 = .ok (.iload_n 1, 1) := by decide +kernel
theorem dX5_isHill_29 : decode cX5_isHill 29 = .ok (.bipush 98, 2) := by decide +kernel
theorem dX5_isHill_31 : decode cX5_isHill 31 = .ok (.if_icmp .eq 14, 3) := by decide +kernel
theorem dX5_isHill_34 : decode cX5_isHill 34 = .ok (.aload_n 0, 1) := by decide +kernel
theorem dX5_isHill_35 : decode cX5_isHill 35 = .ok (.invokevirtual 38, 3) := by decide +kernel
theorem dX5_isHill_38 : decode cX5_isHill 38 = .ok (.ifCond .le 7, 3) := by decide +kernel
theorem dX5_isHill_41 : decode cX5_isHill 41 = .ok (.iconst 1, 1) := by decide +kernel
theorem dX5_isHill_42 : decode cX5_isHill 42 = .ok (.goto 4, 3) := by decide +kernel
theorem dX5_isHill_45 : decode cX5_isHill 45 = .ok (.iconst 0, 1) := by decide +kernel
theorem dX5_isHill_46 : decode cX5_isHill 46 = .ok (.ireturn, 1) := by decide +kernel
theorem dX5_commas_0 : decode cX5_commas 0 = .ok (.iconst 0, 1) := by decide +kernel
theorem dX5_commas_1 : decode cX5_commas 1 = .ok (.istore_n 1, 1) := by decide +kernel
theorem dX5_commas_2 : decode cX5_commas 2 = .ok (.iconst 0, 1) := by decide +kernel
theorem dX5_commas_3 : decode cX5_commas 3 = .ok (.istore_n 2, 1) := by decide +kernel
theorem dX5_commas_4 : decode cX5_commas 4 = .ok (.iload_n 2, 1) := by decide +kernel
theorem dX5_commas_5 : decode cX5_commas 5 = .ok (.aload_n 0, 1) := by decide +kernel
theorem dX5_commas_6 : decode cX5_commas 6 = .ok (.getfield 15, 3) := by decide +kernel
theorem dX5_commas_9 : decode cX5_commas 9 = .ok (.if_icmp .ge 22, 3) := by decide +kernel
theorem dX5_commas_12 : decode cX5_commas 12 = .ok (.aload_n 0, 1) := by decide +kernel
theorem dX5_commas_13 : decode cX5_commas 13 = .ok (.iload_n 2, 1) := by decide +kernel
theorem dX5_commas_14 : decode cX5_commas 14 = .ok (.invokevirtual 19, 3) := by decide +kernel
theorem dX5_commas_17 : decode cX5_commas 17 = .ok (.bipush 44, 2) := by decide +kernel
theorem dX5_commas_19 : decode cX5_commas 19 = .ok (.if_icmp .ne 6, 3) := by decide +kernel
theorem dX5_commas_22 : decode cX5_commas 22 = .ok (.iinc 1 1, 3) := by decide +kernel
theorem dX5_commas_25 : decode cX5_commas 25 = .ok (.iinc 2 1, 3) := by decide +kernel
theorem dX5_commas_28 : decode cX5_commas 28 = .ok (.goto (-24), 3) := by decide +kernel
theorem dX5_commas_31 : decode cX5_commas 31 = .ok (.iload_n 1, 1) := by decide +kernel
theorem dX5_commas_32 : decode cX5_commas 32 = .ok (.ireturn, 1) := by decide +kernel
theorem dX5_cartFault_0 : decode cX5_cartFault 0 = .ok (.iconst 0, 1) := by decide +kernel
theorem dX5_cartFault_1 : decode cX5_cartFault 1 = .ok (.istore_n 1, 1) := by decide +kernel
theorem dX5_cartFault_2 : decode cX5_cartFault 2 = .ok (.iload_n 1, 1) := by decide +kernel
theorem dX5_cartFault_3 : decode cX5_cartFault 3 = .ok (.aload_n 0, 1) := by decide +kernel
theorem dX5_cartFault_4 : decode cX5_cartFault 4 = .ok (.getfield 15, 3) := by decide +kernel
theorem dX5_cartFault_7 : decode cX5_cartFault 7 = .ok (.if_icmp .ge 19, 3) := by decide +kernel
theorem dX5_cartFault_10 : decode cX5_cartFault 10 = .ok (.aload_n 0, 1) := by decide +kernel
theorem dX5_cartFault_11 : decode cX5_cartFault 11 = .ok (.iload_n 1, 1) := by decide +kernel
theorem dX5_cartFault_12 : decode cX5_cartFault 12 = .ok (.invokevirtual 41, 3) := by decide +kernel
theorem dX5_cartFault_15 : decode cX5_cartFault 15 = .ok (.ifCond .ne 5, 3) := by decide +kernel
theorem dX5_cartFault_18 : decode cX5_cartFault 18 = .ok (.iload_n 1, 1) := by decide +kernel
theorem dX5_cartFault_19 : decode cX5_cartFault 19 = .ok (.ireturn, 1) := by decide +kernel
theorem dX5_cartFault_20 : decode cX5_cartFault 20 = .ok (.iinc 1 1, 3) := by decide +kernel
theorem dX5_cartFault_23 : decode cX5_cartFault 23 = .ok (.goto (-21), 3) := by decide +kernel
theorem dX5_cartFault_26 : decode cX5_cartFault 26 = .ok (.aload_n 0, 1) := by decide +kernel
theorem dX5_cartFault_27 : decode cX5_cartFault 27 = .ok (.getfield 15, 3) := by decide +kernel
theorem dX5_cartFault_30 : decode cX5_cartFault 30 = .ok (.ireturn, 1) := by decide +kernel
theorem dX5_fitsCart_0 : decode cX5_fitsCart 0 = .ok (.iload_n 1, 1) := by decide +kernel
theorem dX5_fitsCart_1 : decode cX5_fitsCart 1 = .ok (.bipush 18, 2) := by decide +kernel
theorem dX5_fitsCart_3 : decode cX5_fitsCart 3 = .ok (.if_icmp .lt 5, 3) := by decide +kernel
theorem dX5_fitsCart_6 : decode cX5_fitsCart 6 = .ok (.iconst 0, 1) := by decide +kernel
theorem dX5_fitsCart_7 : decode cX5_fitsCart 7 = .ok (.ireturn, 1) := by decide +kernel
theorem dX5_fitsCart_8 : decode cX5_fitsCart 8 = .ok (.iload_n 1, 1) := by decide +kernel
theorem dX5_fitsCart_9 : decode cX5_fitsCart 9 = .ok (.iconst 3, 1) := by decide +kernel
theorem dX5_fitsCart_10 : decode cX5_fitsCart 10 = .ok (.irem, 1) := by decide +kernel
theorem dX5_fitsCart_11 : decode cX5_fitsCart 11 = .ok (.lookupswitch 79 #[(0, 25), (1, 50)], 25) := by decide +kernel
theorem dX5_fitsCart_36 : decode cX5_fitsCart 36 = .ok (.aload_n 0, 1) := by decide +kernel
theorem dX5_fitsCart_37 : decode cX5_fitsCart 37 = .ok (.iload_n 1, 1) := by decide +kernel
theorem dX5_fitsCart_38 : decode cX5_fitsCart 38 = .ok (.invokevirtual 19, 3) := by decide +kernel
theorem dX5_fitsCart_41 : decode cX5_fitsCart 41 = .ok (.iload_n 1, 1) := by decide +kernel
theorem dX5_fitsCart_42 : decode cX5_fitsCart 42 = .ok (.ifCond .ne 8, 3) := by decide +kernel
theorem dX5_fitsCart_45 : decode cX5_fitsCart 45 = .ok (.bipush 119, 2) := by decide +kernel
theorem dX5_fitsCart_47 : decode cX5_fitsCart 47 = .ok (.goto 5, 3) := by decide +kernel
theorem dX5_fitsCart_50 : decode cX5_fitsCart 50 = .ok (.bipush 44, 2) := by decide +kernel
theorem dX5_fitsCart_52 : decode cX5_fitsCart 52 = .ok (.if_icmp .ne 7, 3) := by decide +kernel
theorem dX5_fitsCart_55 : decode cX5_fitsCart 55 = .ok (.iconst 1, 1) := by decide +kernel
theorem dX5_fitsCart_56 : decode cX5_fitsCart 56 = .ok (.goto 4, 3) := by decide +kernel
theorem dX5_fitsCart_59 : decode cX5_fitsCart 59 = .ok (.iconst 0, 1) := by decide +kernel
theorem dX5_fitsCart_60 : decode cX5_fitsCart 60 = .ok (.ireturn, 1) := by decide +kernel
theorem dX5_fitsCart_61 : decode cX5_fitsCart 61 = .ok (.iload_n 1, 1) := by decide +kernel
theorem dX5_fitsCart_62 : decode cX5_fitsCart 62 = .ok (.iconst 1, 1) := by decide +kernel
theorem dX5_fitsCart_63 : decode cX5_fitsCart 63 = .ok (.if_icmp .ne 12, 3) := by decide +kernel
theorem dX5_fitsCart_66 : decode cX5_fitsCart 66 = .ok (.aload_n 0, 1) := by decide +kernel
theorem dX5_fitsCart_67 : decode cX5_fitsCart 67 = .ok (.iload_n 1, 1) := by decide +kernel
theorem dX5_fitsCart_68 : decode cX5_fitsCart 68 = .ok (.iconst 1, 1) := by decide +kernel
theorem dX5_fitsCart_69 : decode cX5_fitsCart 69 = .ok (.invokevirtual 30, 3) := by decide +kernel
theorem dX5_fitsCart_72 : decode cX5_fitsCart 72 = .ok (.goto 17, 3) := by decide +kernel
theorem dX5_fitsCart_75 : decode cX5_fitsCart 75 = .ok (.aload_n 0, 1) := by decide +kernel
theorem dX5_fitsCart_76 : decode cX5_fitsCart 76 = .ok (.iload_n 1, 1) := by decide +kernel
theorem dX5_fitsCart_77 : decode cX5_fitsCart 77 = .ok (.invokevirtual 45, 3) := by decide +kernel
theorem dX5_fitsCart_80 : decode cX5_fitsCart 80 = .ok (.iconst (-1), 1) := by decide +kernel
theorem dX5_fitsCart_81 : decode cX5_fitsCart 81 = .ok (.if_icmp .eq 7, 3) := by decide +kernel
theorem dX5_fitsCart_84 : decode cX5_fitsCart 84 = .ok (.iconst 1, 1) := by decide +kernel
theorem dX5_fitsCart_85 : decode cX5_fitsCart 85 = .ok (.goto 4, 3) := by decide +kernel
theorem dX5_fitsCart_88 : decode cX5_fitsCart 88 = .ok (.iconst 0, 1) := by decide +kernel
theorem dX5_fitsCart_89 : decode cX5_fitsCart 89 = .ok (.ireturn, 1) := by decide +kernel
theorem dX5_fitsCart_90 : decode cX5_fitsCart 90 = .ok (.aload_n 0, 1) := by decide +kernel
theorem dX5_fitsCart_91 : decode cX5_fitsCart 91 = .ok (.iload_n 1, 1) := by decide +kernel
theorem dX5_fitsCart_92 : decode cX5_fitsCart 92 = .ok (.iload_n 1, 1) := by decide +kernel
theorem dX5_fitsCart_93 : decode cX5_fitsCart 93 = .ok (.iconst 2, 1) := by decide +kernel
theorem dX5_fitsCart_94 : decode cX5_fitsCart 94 = .ok (.if_icmp .ne 7, 3) := by decide +kernel
theorem dX5_fitsCart_97 : decode cX5_fitsCart 97 = .ok (.iconst 0, 1) := by decide +kernel
theorem dX5_fitsCart_98 : decode cX5_fitsCart 98 = .ok (.goto 4, 3) := by decide +kernel
theorem dX5_fitsCart_101 : decode cX5_fitsCart 101 = .ok (.iconst 1, 1) := by decide +kernel
theorem dX5_fitsCart_102 : decode cX5_fitsCart 102 = .ok (.invokevirtual 30, 3) := by decide +kernel
theorem dX5_fitsCart_105 : decode cX5_fitsCart 105 = .ok (.ireturn, 1) := by decide +kernel
theorem dX5_isCart_0 : decode cX5_isCart 0 = .ok (.aload_n 0, 1) := by decide +kernel
theorem dX5_isCart_1 : decode cX5_isCart 1 = .ok (.getfield 15, 3) := by decide +kernel
theorem dX5_isCart_4 : decode cX5_isCart 4 = .ok (.ifCond .le 27, 3) := by decide +kernel
theorem dX5_isCart_7 : decode cX5_isCart 7 = .ok (.aload_n 0, 1) := by decide +kernel
theorem dX5_isCart_8 : decode cX5_isCart 8 = .ok (.getfield 15, 3) := by decide +kernel
theorem dX5_isCart_11 : decode cX5_isCart 11 = .ok (.iconst 3, 1) := by decide +kernel
theorem dX5_isCart_12 : decode cX5_isCart 12 = .ok (.irem, 1) := by decide +kernel
theorem dX5_isCart_13 : decode cX5_isCart 13 = .ok (.ifCond .ne 18, 3) := by decide +kernel
theorem dX5_isCart_16 : decode cX5_isCart 16 = .ok (.aload_n 0, 1) := by decide +kernel
theorem dX5_isCart_17 : decode cX5_isCart 17 = .ok (.invokevirtual 48, 3) := by decide +kernel
theorem dX5_isCart_20 : decode cX5_isCart 20 = .ok (.aload_n 0, 1) := by decide +kernel
theorem dX5_isCart_21 : decode cX5_isCart 21 = .ok (.getfield 15, 3) := by decide +kernel
theorem dX5_isCart_24 : decode cX5_isCart 24 = .ok (.if_icmp .ne 7, 3) := by decide +kernel
theorem dX5_isCart_27 : decode cX5_isCart 27 = .ok (.iconst 1, 1) := by decide +kernel
theorem dX5_isCart_28 : decode cX5_isCart 28 = .ok (.goto 4, 3) := by decide +kernel
theorem dX5_isCart_31 : decode cX5_isCart 31 = .ok (.iconst 0, 1) := by decide +kernel
theorem dX5_isCart_32 : decode cX5_isCart 32 = .ok (.ireturn, 1) := by decide +kernel
theorem dX5_kindAt_0 : decode cX5_kindAt 0 = .ok (.ldc 51, 2) := by decide +kernel
theorem dX5_kindAt_2 : decode cX5_kindAt 2 = .ok (.aload_n 0, 1) := by decide +kernel
theorem dX5_kindAt_3 : decode cX5_kindAt 3 = .ok (.iload_n 1, 1) := by decide +kernel
theorem dX5_kindAt_4 : decode cX5_kindAt 4 = .ok (.invokevirtual 19, 3) := by decide +kernel
theorem dX5_kindAt_7 : decode cX5_kindAt 7 = .ok (.i2c, 1) := by decide +kernel
theorem dX5_kindAt_8 : decode cX5_kindAt 8 = .ok (.invokevirtual 53, 3) := by decide +kernel
theorem dX5_kindAt_11 : decode cX5_kindAt 11 = .ok (.ireturn, 1) := by decide +kernel
theorem dX6_init_0 : decode cX6_init 0 = .ok (.aload_n 0, 1) := by decide +kernel
theorem dX6_init_1 : decode cX6_init 1 = .ok (.invokespecial 3, 3) := by decide +kernel
theorem dX6_init_4 : decode cX6_init 4 = .ok (.aload_n 0, 1) := by decide +kernel
theorem dX6_init_5 : decode cX6_init 5 = .ok (.iconst 5, 1) := by decide +kernel
theorem dX6_init_6 : decode cX6_init 6 = .ok (.newarray .int, 2) := by decide +kernel
theorem dX6_init_8 : decode cX6_init 8 = .ok (.putfield 9, 3) := by decide +kernel
theorem dX6_init_11 : decode cX6_init 11 = .ok (.aload_n 0, 1) := by decide +kernel
theorem dX6_init_12 : decode cX6_init 12 = .ok (.iconst 5, 1) := by decide +kernel
theorem dX6_init_13 : decode cX6_init 13 = .ok (.newarray .int, 2) := by decide +kernel
theorem dX6_init_15 : decode cX6_init 15 = .ok (.putfield 15, 3) := by decide +kernel
theorem dX6_init_18 : decode cX6_init 18 = .ok (.aload_n 0, 1) := by decide +kernel
theorem dX6_init_19 : decode cX6_init 19 = .ok (.iconst 5, 1) := by decide +kernel
theorem dX6_init_20 : decode cX6_init 20 = .ok (.newarray .int, 2) := by decide +kernel
theorem dX6_init_22 : decode cX6_init 22 = .ok (.putfield 18, 3) := by decide +kernel
theorem dX6_init_25 : decode cX6_init 25 = .ok (.aload_n 0, 1) := by decide +kernel
theorem dX6_init_26 : decode cX6_init 26 = .ok (.bipush 12, 2) := by decide +kernel
theorem dX6_init_28 : decode cX6_init 28 = .ok (.newarray .int, 2) := by decide +kernel
theorem dX6_init_30 : decode cX6_init 30 = .ok (.putfield 21, 3) := by decide +kernel
theorem dX6_init_33 : decode cX6_init 33 = .ok (.aload_n 0, 1) := by decide +kernel
theorem dX6_init_34 : decode cX6_init 34 = .ok (.iconst 0, 1) := by decide +kernel
theorem dX6_init_35 : decode cX6_init 35 = .ok (.putfield 24, 3) := by decide +kernel
theorem dX6_init_38 : decode cX6_init 38 = .ok (.aload_n 0, 1) := by decide +kernel
theorem dX6_init_39 : decode cX6_init 39 = .ok (.bipush 10, 2) := by decide +kernel
theorem dX6_init_41 : decode cX6_init 41 = .ok (.putfield 28, 3) := by decide +kernel
theorem dX6_init_44 : decode cX6_init 44 = .ok (.aload_n 0, 1) := by decide +kernel
theorem dX6_init_45 : decode cX6_init 45 = .ok (.iconst 1, 1) := by decide +kernel
theorem dX6_init_46 : decode cX6_init 46 = .ok (.putfield 31, 3) := by decide +kernel
theorem dX6_init_49 : decode cX6_init 49 = .ok (.aload_n 0, 1) := by decide +kernel
theorem dX6_init_50 : decode cX6_init 50 = .ok (.iconst 0, 1) := by decide +kernel
theorem dX6_init_51 : decode cX6_init 51 = .ok (.putfield 34, 3) := by decide +kernel
theorem dX6_init_54 : decode cX6_init 54 = .ok (.aload_n 0, 1) := by decide +kernel
theorem dX6_init_55 : decode cX6_init 55 = .ok (.iconst 0, 1) := by decide +kernel
theorem dX6_init_56 : decode cX6_init 56 = .ok (.putfield 37, 3) := by decide +kernel
theorem dX6_init_59 : decode cX6_init 59 = .ok (.aload_n 0, 1) := by decide +kernel
theorem dX6_init_60 : decode cX6_init 60 = .ok (.iconst 0, 1) := by decide +kernel
theorem dX6_init_61 : decode cX6_init 61 = .ok (.putfield 40, 3) := by decide +kernel
theorem dX6_init_64 : decode cX6_init 64 = .ok (.aload_n 0, 1) := by decide +kernel
theorem dX6_init_65 : decode cX6_init 65 = .ok (.iconst 0, 1) := by decide +kernel
theorem dX6_init_66 : decode cX6_init 66 = .ok (.putfield 43, 3) := by decide +kernel
theorem dX6_init_69 : decode cX6_init 69 = .ok (.aload_n 0, 1) := by decide +kernel
theorem dX6_init_70 : decode cX6_init 70 = .ok (.iconst 0, 1) := by decide +kernel
theorem dX6_init_71 : decode cX6_init 71 = .ok (.putfield 46, 3) := by decide +kernel
theorem dX6_init_74 : decode cX6_init 74 = .ok (.aload_n 0, 1) := by decide +kernel
theorem dX6_init_75 : decode cX6_init 75 = .ok (.iconst 5, 1) := by decide +kernel
theorem dX6_init_76 : decode cX6_init 76 = .ok (.newarray .int, 2) := by decide +kernel
theorem dX6_init_78 : decode cX6_init 78 = .ok (.putfield 49, 3) := by decide +kernel
theorem dX6_init_81 : decode cX6_init 81 = .ok (.aload_n 0, 1) := by decide +kernel
theorem dX6_init_82 : decode cX6_init 82 = .ok (.bipush 12, 2) := by decide +kernel
theorem dX6_init_84 : decode cX6_init 84 = .ok (.newarray .int, 2) := by decide +kernel
theorem dX6_init_86 : decode cX6_init 86 = .ok (.putfield 52, 3) := by decide +kernel
theorem dX6_init_89 : decode cX6_init 89 = .ok (.aload_n 0, 1) := by decide +kernel
theorem dX6_init_90 : decode cX6_init 90 = .ok (.aload_n 1, 1) := by decide +kernel
theorem dX6_init_91 : decode cX6_init 91 = .ok (.putfield 55, 3) := by decide +kernel
theorem dX6_init_94 : decode cX6_init 94 = .ok (.return_, 1) := by decide +kernel
theorem dX6_mount_0 : decode cX6_mount 0 = .ok (.aload_n 1, 1) := by decide +kernel
theorem dX6_mount_1 : decode cX6_mount 1 = .ok (.getfield 59, 3) := by decide +kernel
theorem dX6_mount_4 : decode cX6_mount 4 = .ok (.iconst 0, 1) := by decide +kernel
theorem dX6_mount_5 : decode cX6_mount 5 = .ok (.aload_n 0, 1) := by decide +kernel
theorem dX6_mount_6 : decode cX6_mount 6 = .ok (.getfield 9, 3) := by decide +kernel
theorem dX6_mount_9 : decode cX6_mount 9 = .ok (.iconst 0, 1) := by decide +kernel
theorem dX6_mount_10 : decode cX6_mount 10 = .ok (.iconst 5, 1) := by decide +kernel
theorem dX6_mount_11 : decode cX6_mount 11 = .ok (.invokestatic 62, 3) := by decide +kernel
theorem dX6_mount_14 : decode cX6_mount 14 = .ok (.aload_n 1, 1) := by decide +kernel
theorem dX6_mount_15 : decode cX6_mount 15 = .ok (.getfield 68, 3) := by decide +kernel
theorem dX6_mount_18 : decode cX6_mount 18 = .ok (.iconst 0, 1) := by decide +kernel
theorem dX6_mount_19 : decode cX6_mount 19 = .ok (.aload_n 0, 1) := by decide +kernel
theorem dX6_mount_20 : decode cX6_mount 20 = .ok (.getfield 15, 3) := by decide +kernel
theorem dX6_mount_23 : decode cX6_mount 23 = .ok (.iconst 0, 1) := by decide +kernel
theorem dX6_mount_24 : decode cX6_mount 24 = .ok (.iconst 5, 1) := by decide +kernel
theorem dX6_mount_25 : decode cX6_mount 25 = .ok (.invokestatic 62, 3) := by decide +kernel
theorem dX6_mount_28 : decode cX6_mount 28 = .ok (.aload_n 0, 1) := by decide +kernel
theorem dX6_mount_29 : decode cX6_mount 29 = .ok (.getfield 55, 3) := by decide +kernel
theorem dX6_mount_32 : decode cX6_mount 32 = .ok (.getfield 69, 3) := by decide +kernel
theorem dX6_mount_35 : decode cX6_mount 35 = .ok (.iconst 0, 1) := by decide +kernel
theorem dX6_mount_36 : decode cX6_mount 36 = .ok (.aload_n 0, 1) := by decide +kernel
theorem dX6_mount_37 : decode cX6_mount 37 = .ok (.getfield 21, 3) := by decide +kernel
theorem dX6_mount_40 : decode cX6_mount 40 = .ok (.iconst 0, 1) := by decide +kernel
theorem dX6_mount_41 : decode cX6_mount 41 = .ok (.bipush 12, 2) := by decide +kernel
theorem dX6_mount_43 : decode cX6_mount 43 = .ok (.invokestatic 62, 3) := by decide +kernel
theorem dX6_mount_46 : decode cX6_mount 46 = .ok (.aload_n 0, 1) := by decide +kernel
theorem dX6_mount_47 : decode cX6_mount 47 = .ok (.getfield 18, 3) := by decide +kernel
theorem dX6_mount_50 : decode cX6_mount 50 = .ok (.iconst 0, 1) := by decide +kernel
theorem dX6_mount_51 : decode cX6_mount 51 = .ok (.invokestatic 72, 3) := by decide +kernel
theorem dX6_mount_54 : decode cX6_mount 54 = .ok (.aload_n 0, 1) := by decide +kernel
theorem dX6_mount_55 : decode cX6_mount 55 = .ok (.aload_n 1, 1) := by decide +kernel
theorem dX6_mount_56 : decode cX6_mount 56 = .ok (.getfield 78, 3) := by decide +kernel
theorem dX6_mount_59 : decode cX6_mount 59 = .ok (.putfield 24, 3) := by decide +kernel
theorem dX6_mount_62 : decode cX6_mount 62 = .ok (.aload_n 0, 1) := by decide +kernel
theorem dX6_mount_63 : decode cX6_mount 63 = .ok (.aload_n 1, 1) := by decide +kernel
theorem dX6_mount_64 : decode cX6_mount 64 = .ok (.getfield 79, 3) := by decide +kernel
theorem dX6_mount_67 : decode cX6_mount 67 = .ok (.putfield 28, 3) := by decide +kernel
theorem dX6_mount_70 : decode cX6_mount 70 = .ok (.aload_n 0, 1) := by decide +kernel
theorem dX6_mount_71 : decode cX6_mount 71 = .ok (.iload_n 2, 1) := by decide +kernel
theorem dX6_mount_72 : decode cX6_mount 72 = .ok (.putfield 31, 3) := by decide +kernel
theorem dX6_mount_75 : decode cX6_mount 75 = .ok (.return_, 1) := by decide +kernel
theorem dX6_go_0 : decode cX6_go 0 = .ok (.aload_n 0, 1) := by decide +kernel
theorem dX6_go_1 : decode cX6_go 1 = .ok (.getfield 49, 3) := by decide +kernel
theorem dX6_go_4 : decode cX6_go 4 = .ok (.iconst 0, 1) := by decide +kernel
theorem dX6_go_5 : decode cX6_go 5 = .ok (.invokestatic 72, 3) := by decide +kernel
theorem dX6_go_8 : decode cX6_go 8 = .ok (.aload_n 0, 1) := by decide +kernel
theorem dX6_go_9 : decode cX6_go 9 = .ok (.getfield 52, 3) := by decide +kernel
theorem dX6_go_12 : decode cX6_go 12 = .ok (.iconst (-1), 1) := by decide +kernel
theorem dX6_go_13 : decode cX6_go 13 = .ok (.invokestatic 72, 3) := by decide +kernel
theorem dX6_go_16 : decode cX6_go 16 = .ok (.aload_n 0, 1) := by decide +kernel
theorem dX6_go_17 : decode cX6_go 17 = .ok (.iconst 0, 1) := by decide +kernel
theorem dX6_go_18 : decode cX6_go 18 = .ok (.putfield 34, 3) := by decide +kernel
theorem dX6_go_21 : decode cX6_go 21 = .ok (.aload_n 0, 1) := by decide +kernel
theorem dX6_go_22 : decode cX6_go 22 = .ok (.iconst 0, 1) := by decide +kernel
theorem dX6_go_23 : decode cX6_go 23 = .ok (.putfield 40, 3) := by decide +kernel
theorem dX6_go_26 : decode cX6_go 26 = .ok (.aload_n 0, 1) := by decide +kernel
theorem dX6_go_27 : decode cX6_go 27 = .ok (.iload_n 1, 1) := by decide +kernel
theorem dX6_go_28 : decode cX6_go 28 = .ok (.putfield 43, 3) := by decide +kernel
theorem dX6_go_31 : decode cX6_go 31 = .ok (.aload_n 0, 1) := by decide +kernel
theorem dX6_go_32 : decode cX6_go 32 = .ok (.iconst 0, 1) := by decide +kernel
theorem dX6_go_33 : decode cX6_go 33 = .ok (.putfield 46, 3) := by decide +kernel
theorem dX6_go_36 : decode cX6_go 36 = .ok (.iconst 0, 1) := by decide +kernel
theorem dX6_go_37 : decode cX6_go 37 = .ok (.istore_n 2, 1) := by decide +kernel
theorem dX6_go_38 : decode cX6_go 38 = .ok (.aload_n 0, 1) := by decide +kernel
theorem dX6_go_39 : decode cX6_go 39 = .ok (.getfield 34, 3) := by decide +kernel
theorem dX6_go_42 : decode cX6_go 42 = .ok (.ifCond .ne 30, 3) := by decide +kernel
theorem dX6_go_45 : decode cX6_go 45 = .ok (.iload_n 2, 1) := by decide +kernel
theorem dX6_go_46 : decode cX6_go 46 = .ok (.aload_n 0, 1) := by decide +kernel
theorem dX6_go_47 : decode cX6_go 47 = .ok (.getfield 55, 3) := by decide +kernel
theorem dX6_go_50 : decode cX6_go 50 = .ok (.getfield 80, 3) := by decide +kernel
theorem dX6_go_53 : decode cX6_go 53 = .ok (.if_icmp .ge 19, 3) := by decide +kernel
theorem dX6_go_56 : decode cX6_go 56 = .ok (.aload_n 0, 1) := by decide +kernel
theorem dX6_go_57 : decode cX6_go 57 = .ok (.iload_n 2, 1) := by decide +kernel
theorem dX6_go_58 : decode cX6_go 58 = .ok (.putfield 37, 3) := by decide +kernel
theorem dX6_go_61 : decode cX6_go 61 = .ok (.aload_n 0, 1) := by decide +kernel
theorem dX6_go_62 : decode cX6_go 62 = .ok (.iload_n 2, 1) := by decide +kernel
theorem dX6_go_63 : decode cX6_go 63 = .ok (.invokevirtual 81, 3) := by decide +kernel
theorem dX6_go_66 : decode cX6_go 66 = .ok (.iinc 2 1, 3) := by decide +kernel
theorem dX6_go_69 : decode cX6_go 69 = .ok (.goto (-31), 3) := by decide +kernel
theorem dX6_go_72 : decode cX6_go 72 = .ok (.return_, 1) := by decide +kernel
theorem dX6_goThrough_0 : decode cX6_goThrough 0 = .ok (.aload_n 0, 1) := by decide +kernel
theorem dX6_goThrough_1 : decode cX6_goThrough 1 = .ok (.getfield 43, 3) := by decide +kernel
theorem dX6_goThrough_4 : decode cX6_goThrough 4 = .ok (.bipush 20, 2) := by decide +kernel
theorem dX6_goThrough_6 : decode cX6_goThrough 6 = .ok (.aload_n 0, 1) := by decide +kernel
theorem dX6_goThrough_7 : decode cX6_goThrough 7 = .ok (.getfield 55, 3) := by decide +kernel
theorem dX6_goThrough_10 : decode cX6_goThrough 10 = .ok (.getfield 85, 3) := by decide +kernel
theorem dX6_goThrough_13 : decode cX6_goThrough 13 = .ok (.iload_n 1, 1) := by decide +kernel
theorem dX6_goThrough_14 : decode cX6_goThrough 14 = .ok (.iaload, 1) := by decide +kernel
theorem dX6_goThrough_15 : decode cX6_goThrough 15 = .ok (.imul, 1) := by decide +kernel
theorem dX6_goThrough_16 : decode cX6_goThrough 16 = .ok (.iadd, 1) := by decide +kernel
theorem dX6_goThrough_17 : decode cX6_goThrough 17 = .ok (.istore_n 2, 1) := by decide +kernel
theorem dX6_goThrough_18 : decode cX6_goThrough 18 = .ok (.iload_n 2, 1) := by decide +kernel
theorem dX6_goThrough_19 : decode cX6_goThrough 19 = .ok (.istore_n 3, 1) := by decide +kernel
theorem dX6_goThrough_20 : decode cX6_goThrough 20 = .ok (.iconst 0, 1) := by decide +kernel
theorem dX6_goThrough_21 : decode cX6_goThrough 21 = .ok (.istore 4, 2) := by decide +kernel
theorem dX6_goThrough_23 : decode cX6_goThrough 23 = .ok (.iload 4, 2) := by decide +kernel
theorem dX6_goThrough_25 : decode cX6_goThrough 25 = .ok (.aload_n 0, 1) := by decide +kernel
theorem dX6_goThrough_26 : decode cX6_goThrough 26 = .ok (.getfield 24, 3) := by decide +kernel
theorem dX6_goThrough_29 : decode cX6_goThrough 29 = .ok (.if_icmp .ge 62, 3) := by decide +kernel
theorem dX6_goThrough_32 : decode cX6_goThrough 32 = .ok (.aload_n 0, 1) := by decide +kernel
theorem dX6_goThrough_33 : decode cX6_goThrough 33 = .ok (.iload 4, 2) := by decide +kernel
theorem dX6_goThrough_35 : decode cX6_goThrough 35 = .ok (.iload_n 2, 1) := by decide +kernel
theorem dX6_goThrough_36 : decode cX6_goThrough 36 = .ok (.aload_n 0, 1) := by decide +kernel
theorem dX6_goThrough_37 : decode cX6_goThrough 37 = .ok (.getfield 55, 3) := by decide +kernel
theorem dX6_goThrough_40 : decode cX6_goThrough 40 = .ok (.getfield 85, 3) := by decide +kernel
theorem dX6_goThrough_43 : decode cX6_goThrough 43 = .ok (.iload_n 1, 1) := by decide +kernel
theorem dX6_goThrough_44 : decode cX6_goThrough 44 = .ok (.iaload, 1) := by decide +kernel
theorem dX6_goThrough_45 : decode cX6_goThrough 45 = .ok (.aload_n 0, 1) := by decide +kernel
theorem dX6_goThrough_46 : decode cX6_goThrough 46 = .ok (.getfield 55, 3) := by decide +kernel
theorem dX6_goThrough_49 : decode cX6_goThrough 49 = .ok (.getfield 88, 3) := by decide +kernel
theorem dX6_goThrough_52 : decode cX6_goThrough 52 = .ok (.iload_n 1, 1) := by decide +kernel
theorem dX6_goThrough_53 : decode cX6_goThrough 53 = .ok (.iaload, 1) := by decide +kernel
theorem dX6_goThrough_54 : decode cX6_goThrough 54 = .ok (.aload_n 0, 1) := by decide +kernel
theorem dX6_goThrough_55 : decode cX6_goThrough 55 = .ok (.getfield 55, 3) := by decide +kernel
theorem dX6_goThrough_58 : decode cX6_goThrough 58 = .ok (.getfield 91, 3) := by decide +kernel
theorem dX6_goThrough_61 : decode cX6_goThrough 61 = .ok (.iload_n 1, 1) := by decide +kernel
theorem dX6_goThrough_62 : decode cX6_goThrough 62 = .ok (.iaload, 1) := by decide +kernel
theorem dX6_goThrough_63 : decode cX6_goThrough 63 = .ok (.invokevirtual 94, 3) := by decide +kernel
theorem dX6_goThrough_66 : decode cX6_goThrough 66 = .ok (.istore 5, 2) := by decide +kernel
theorem dX6_goThrough_68 : decode cX6_goThrough 68 = .ok (.aload_n 0, 1) := by decide +kernel
theorem dX6_goThrough_69 : decode cX6_goThrough 69 = .ok (.getfield 49, 3) := by decide +kernel
theorem dX6_goThrough_72 : decode cX6_goThrough 72 = .ok (.iload 4, 2) := by decide +kernel
theorem dX6_goThrough_74 : decode cX6_goThrough 74 = .ok (.dup2, 1) := by decide +kernel
theorem dX6_goThrough_75 : decode cX6_goThrough 75 = .ok (.iaload, 1) := by decide +kernel
theorem dX6_goThrough_76 : decode cX6_goThrough 76 = .ok (.iload 5, 2) := by decide +kernel
theorem dX6_goThrough_78 : decode cX6_goThrough 78 = .ok (.iadd, 1) := by decide +kernel
theorem dX6_goThrough_79 : decode cX6_goThrough 79 = .ok (.iastore, 1) := by decide +kernel
theorem dX6_goThrough_80 : decode cX6_goThrough 80 = .ok (.iload_n 3, 1) := by decide +kernel
theorem dX6_goThrough_81 : decode cX6_goThrough 81 = .ok (.iload 5, 2) := by decide +kernel
theorem dX6_goThrough_83 : decode cX6_goThrough 83 = .ok (.isub, 1) := by decide +kernel
theorem dX6_goThrough_84 : decode cX6_goThrough 84 = .ok (.istore_n 3, 1) := by decide +kernel
theorem dX6_goThrough_85 : decode cX6_goThrough 85 = .ok (.iinc 4 1, 3) := by decide +kernel
theorem dX6_goThrough_88 : decode cX6_goThrough 88 = .ok (.goto (-65), 3) := by decide +kernel
theorem dX6_goThrough_91 : decode cX6_goThrough 91 = .ok (.iload_n 3, 1) := by decide +kernel
theorem dX6_goThrough_92 : decode cX6_goThrough 92 = .ok (.ifCond .le 17, 3) := by decide +kernel
theorem dX6_goThrough_95 : decode cX6_goThrough 95 = .ok (.iload_n 3, 1) := by decide +kernel
theorem dX6_goThrough_96 : decode cX6_goThrough 96 = .ok (.aload_n 0, 1) := by decide +kernel
theorem dX6_goThrough_97 : decode cX6_goThrough 97 = .ok (.getfield 21, 3) := by decide +kernel
theorem dX6_goThrough_100 : decode cX6_goThrough 100 = .ok (.iload_n 1, 1) := by decide +kernel
theorem dX6_goThrough_101 : decode cX6_goThrough 101 = .ok (.iaload, 1) := by decide +kernel
theorem dX6_goThrough_102 : decode cX6_goThrough 102 = .ok (.imul, 1) := by decide +kernel
theorem dX6_goThrough_103 : decode cX6_goThrough 103 = .ok (.bipush 10, 2) := by decide +kernel
theorem dX6_goThrough_105 : decode cX6_goThrough 105 = .ok (.idiv, 1) := by decide +kernel
theorem dX6_goThrough_106 : decode cX6_goThrough 106 = .ok (.goto 4, 3) := by decide +kernel
theorem dX6_goThrough_109 : decode cX6_goThrough 109 = .ok (.iconst 0, 1) := by decide +kernel
theorem dX6_goThrough_110 : decode cX6_goThrough 110 = .ok (.istore 4, 2) := by decide +kernel
theorem dX6_goThrough_112 : decode cX6_goThrough 112 = .ok (.aload_n 0, 1) := by decide +kernel
theorem dX6_goThrough_113 : decode cX6_goThrough 113 = .ok (.dup, 1) := by decide +kernel
theorem dX6_goThrough_114 : decode cX6_goThrough 114 = .ok (.getfield 46, 3) := by decide +kernel
theorem dX6_goThrough_117 : decode cX6_goThrough 117 = .ok (.iload 4, 2) := by decide +kernel
theorem dX6_goThrough_119 : decode cX6_goThrough 119 = .ok (.iadd, 1) := by decide +kernel
theorem dX6_goThrough_120 : decode cX6_goThrough 120 = .ok (.putfield 46, 3) := by decide +kernel
theorem dX6_goThrough_123 : decode cX6_goThrough 123 = .ok (.iload_n 3, 1) := by decide +kernel
theorem dX6_goThrough_124 : decode cX6_goThrough 124 = .ok (.iload 4, 2) := by decide +kernel
theorem dX6_goThrough_126 : decode cX6_goThrough 126 = .ok (.isub, 1) := by decide +kernel
theorem dX6_goThrough_127 : decode cX6_goThrough 127 = .ok (.istore_n 3, 1) := by decide +kernel
theorem dX6_goThrough_128 : decode cX6_goThrough 128 = .ok (.iload_n 3, 1) := by decide +kernel
theorem dX6_goThrough_129 : decode cX6_goThrough 129 = .ok (.ifCond .gt 14, 3) := by decide +kernel
theorem dX6_goThrough_132 : decode cX6_goThrough 132 = .ok (.aload_n 0, 1) := by decide +kernel
theorem dX6_goThrough_133 : decode cX6_goThrough 133 = .ok (.iconst 0, 1) := by decide +kernel
theorem dX6_goThrough_134 : decode cX6_goThrough 134 = .ok (.putfield 43, 3) := by decide +kernel
theorem dX6_goThrough_137 : decode cX6_goThrough 137 = .ok (.aload_n 0, 1) := by decide +kernel
theorem dX6_goThrough_138 : decode cX6_goThrough 138 = .ok (.iconst 1, 1) := by decide +kernel
theorem dX6_goThrough_139 : decode cX6_goThrough 139 = .ok (.putfield 34, 3) := by decide +kernel
theorem dX6_goThrough_142 : decode cX6_goThrough 142 = .ok (.return_, 1) := by decide +kernel
theorem dX6_goThrough_143 : decode cX6_goThrough 143 = .ok (.aload_n 0, 1) := by decide +kernel
theorem dX6_goThrough_144 : decode cX6_goThrough 144 = .ok (.iload_n 3, 1) := by decide +kernel
theorem dX6_goThrough_145 : decode cX6_goThrough 145 = .ok (.putfield 43, 3) := by decide +kernel
theorem dX6_goThrough_148 : decode cX6_goThrough 148 = .ok (.aload_n 0, 1) := by decide +kernel
theorem dX6_goThrough_149 : decode cX6_goThrough 149 = .ok (.getfield 52, 3) := by decide +kernel
theorem dX6_goThrough_152 : decode cX6_goThrough 152 = .ok (.iload_n 1, 1) := by decide +kernel
theorem dX6_goThrough_153 : decode cX6_goThrough 153 = .ok (.iload_n 3, 1) := by decide +kernel
theorem dX6_goThrough_154 : decode cX6_goThrough 154 = .ok (.iastore, 1) := by decide +kernel
theorem dX6_goThrough_155 : decode cX6_goThrough 155 = .ok (.aload_n 0, 1) := by decide +kernel
theorem dX6_goThrough_156 : decode cX6_goThrough 156 = .ok (.dup, 1) := by decide +kernel
theorem dX6_goThrough_157 : decode cX6_goThrough 157 = .ok (.getfield 40, 3) := by decide +kernel
theorem dX6_goThrough_160 : decode cX6_goThrough 160 = .ok (.sipush 1000, 3) := by decide +kernel
theorem dX6_goThrough_163 : decode cX6_goThrough 163 = .ok (.iload_n 3, 1) := by decide +kernel
theorem dX6_goThrough_164 : decode cX6_goThrough 164 = .ok (.invokestatic 98, 3) := by decide +kernel
theorem dX6_goThrough_167 : decode cX6_goThrough 167 = .ok (.invokestatic 102, 3) := by decide +kernel
theorem dX6_goThrough_170 : decode cX6_goThrough 170 = .ok (.iadd, 1) := by decide +kernel
theorem dX6_goThrough_171 : decode cX6_goThrough 171 = .ok (.putfield 40, 3) := by decide +kernel
theorem dX6_goThrough_174 : decode cX6_goThrough 174 = .ok (.aload_n 0, 1) := by decide +kernel
theorem dX6_goThrough_175 : decode cX6_goThrough 175 = .ok (.getfield 55, 3) := by decide +kernel
theorem dX6_goThrough_178 : decode cX6_goThrough 178 = .ok (.getfield 88, 3) := by decide +kernel
theorem dX6_goThrough_181 : decode cX6_goThrough 181 = .ok (.iload_n 1, 1) := by decide +kernel
theorem dX6_goThrough_182 : decode cX6_goThrough 182 = .ok (.iaload, 1) := by decide +kernel
theorem dX6_goThrough_183 : decode cX6_goThrough 183 = .ok (.ifCond .le 17, 3) := by decide +kernel
theorem dX6_goThrough_186 : decode cX6_goThrough 186 = .ok (.iload_n 3, 1) := by decide +kernel
theorem dX6_goThrough_187 : decode cX6_goThrough 187 = .ok (.aload_n 0, 1) := by decide +kernel
theorem dX6_goThrough_188 : decode cX6_goThrough 188 = .ok (.iload_n 1, 1) := by decide +kernel
theorem dX6_goThrough_189 : decode cX6_goThrough 189 = .ok (.invokevirtual 106, 3) := by decide +kernel
theorem dX6_goThrough_192 : decode cX6_goThrough 192 = .ok (.if_icmp .le 8, 3) := by decide +kernel
theorem dX6_goThrough_195 : decode cX6_goThrough 195 = .ok (.aload_n 0, 1) := by decide +kernel
theorem dX6_goThrough_196 : decode cX6_goThrough 196 = .ok (.iconst 2, 1) := by decide +kernel
theorem dX6_goThrough_197 : decode cX6_goThrough 197 = .ok (.putfield 34, 3) := by decide +kernel
theorem dX6_goThrough_200 : decode cX6_goThrough 200 = .ok (.return_, 1) := by decide +kernel
theorem dX6_takes_0 : decode cX6_takes 0 = .ok (.aload_n 0, 1) := by decide +kernel
theorem dX6_takes_1 : decode cX6_takes 1 = .ok (.getfield 15, 3) := by decide +kernel
theorem dX6_takes_4 : decode cX6_takes 4 = .ok (.iload_n 1, 1) := by decide +kernel
theorem dX6_takes_5 : decode cX6_takes 5 = .ok (.iaload, 1) := by decide +kernel
theorem dX6_takes_6 : decode cX6_takes 6 = .ok (.istore 6, 2) := by decide +kernel
theorem dX6_takes_8 : decode cX6_takes 8 = .ok (.aload_n 0, 1) := by decide +kernel
theorem dX6_takes_9 : decode cX6_takes 9 = .ok (.getfield 9, 3) := by decide +kernel
theorem dX6_takes_12 : decode cX6_takes 12 = .ok (.iload_n 1, 1) := by decide +kernel
theorem dX6_takes_13 : decode cX6_takes 13 = .ok (.iaload, 1) := by decide +kernel
theorem dX6_takes_14 : decode cX6_takes 14 = .ok (.tableswitch 79 1 5 #[34, 39, 48, 63, 74], 34) := by decide +kernel
theorem dX6_takes_48 : decode cX6_takes 48 = .ok (.iconst 2, 1) := by decide +kernel
theorem dX6_takes_49 : decode cX6_takes 49 = .ok (.iload 6, 2) := by decide +kernel
theorem dX6_takes_51 : decode cX6_takes 51 = .ok (.imul, 1) := by decide +kernel
theorem dX6_takes_52 : decode cX6_takes 52 = .ok (.ireturn, 1) := by decide +kernel
theorem dX6_takes_53 : decode cX6_takes 53 = .ok (.iload 6, 2) := by decide +kernel
theorem dX6_takes_55 : decode cX6_takes 55 = .ok (.iload 6, 2) := by decide +kernel
theorem dX6_takes_57 : decode cX6_takes 57 = .ok (.iload 4, 2) := by decide +kernel
theorem dX6_takes_59 : decode cX6_takes 59 = .ok (.imul, 1) := by decide +kernel
theorem dX6_takes_60 : decode cX6_takes 60 = .ok (.iadd, 1) := by decide +kernel
theorem dX6_takes_61 : decode cX6_takes 61 = .ok (.ireturn, 1) := by decide +kernel
theorem dX6_takes_62 : decode cX6_takes 62 = .ok (.iload_n 2, 1) := by decide +kernel
theorem dX6_takes_63 : decode cX6_takes 63 = .ok (.iload 6, 2) := by decide +kernel
theorem dX6_takes_65 : decode cX6_takes 65 = .ok (.imul, 1) := by decide +kernel
theorem dX6_takes_66 : decode cX6_takes 66 = .ok (.bipush 10, 2) := by decide +kernel
theorem dX6_takes_68 : decode cX6_takes 68 = .ok (.aload_n 0, 1) := by decide +kernel
theorem dX6_takes_69 : decode cX6_takes 69 = .ok (.getfield 28, 3) := by decide +kernel
theorem dX6_takes_72 : decode cX6_takes 72 = .ok (.imul, 1) := by decide +kernel
theorem dX6_takes_73 : decode cX6_takes 73 = .ok (.invokestatic 102, 3) := by decide +kernel
theorem dX6_takes_76 : decode cX6_takes 76 = .ok (.ireturn, 1) := by decide +kernel
theorem dX6_takes_77 : decode cX6_takes 77 = .ok (.iload 5, 2) := by decide +kernel
theorem dX6_takes_79 : decode cX6_takes 79 = .ok (.iload_n 2, 1) := by decide +kernel
theorem dX6_takes_80 : decode cX6_takes 80 = .ok (.iload 6, 2) := by decide +kernel
theorem dX6_takes_82 : decode cX6_takes 82 = .ok (.imul, 1) := by decide +kernel
theorem dX6_takes_83 : decode cX6_takes 83 = .ok (.bipush 40, 2) := by decide +kernel
theorem dX6_takes_85 : decode cX6_takes 85 = .ok (.idiv, 1) := by decide +kernel
theorem dX6_takes_86 : decode cX6_takes 86 = .ok (.imul, 1) := by decide +kernel
theorem dX6_takes_87 : decode cX6_takes 87 = .ok (.ireturn, 1) := by decide +kernel
theorem dX6_takes_88 : decode cX6_takes 88 = .ok (.iload 6, 2) := by decide +kernel
theorem dX6_takes_90 : decode cX6_takes 90 = .ok (.iload_n 3, 1) := by decide +kernel
theorem dX6_takes_91 : decode cX6_takes 91 = .ok (.imul, 1) := by decide +kernel
theorem dX6_takes_92 : decode cX6_takes 92 = .ok (.ireturn, 1) := by decide +kernel
theorem dX6_takes_93 : decode cX6_takes 93 = .ok (.iload 6, 2) := by decide +kernel
theorem dX6_takes_95 : decode cX6_takes 95 = .ok (.ireturn, 1) := by decide +kernel
theorem dX6_bearable_0 : decode cX6_bearable 0 = .ok (.bipush 100, 2) := by decide +kernel
theorem dX6_bearable_2 : decode cX6_bearable 2 = .ok (.aload_n 0, 1) := by decide +kernel
theorem dX6_bearable_3 : decode cX6_bearable 3 = .ok (.getfield 31, 3) := by decide +kernel
theorem dX6_bearable_6 : decode cX6_bearable 6 = .ok (.imul, 1) := by decide +kernel
theorem dX6_bearable_7 : decode cX6_bearable 7 = .ok (.aload_n 0, 1) := by decide +kernel
theorem dX6_bearable_8 : decode cX6_bearable 8 = .ok (.getfield 55, 3) := by decide +kernel
theorem dX6_bearable_11 : decode cX6_bearable 11 = .ok (.getfield 88, 3) := by decide +kernel
theorem dX6_bearable_14 : decode cX6_bearable 14 = .ok (.iload_n 1, 1) := by decide +kernel
theorem dX6_bearable_15 : decode cX6_bearable 15 = .ok (.iaload, 1) := by decide +kernel
theorem dX6_bearable_16 : decode cX6_bearable 16 = .ok (.invokestatic 102, 3) := by decide +kernel
theorem dX6_bearable_19 : decode cX6_bearable 19 = .ok (.ireturn, 1) := by decide +kernel
theorem dX6_root_0 : decode cX6_root 0 = .ok (.iconst 0, 1) := by decide +kernel
theorem dX6_root_1 : decode cX6_root 1 = .ok (.istore_n 1, 1) := by decide +kernel
theorem dX6_root_2 : decode cX6_root 2 = .ok (.sipush 128, 3) := by decide +kernel
theorem dX6_root_5 : decode cX6_root 5 = .ok (.istore_n 2, 1) := by decide +kernel
theorem dX6_root_6 : decode cX6_root 6 = .ok (.iload_n 2, 1) := by decide +kernel
theorem dX6_root_7 : decode cX6_root 7 = .ok (.ifCond .le 25, 3) := by decide +kernel
theorem dX6_root_10 : decode cX6_root 10 = .ok (.iload_n 1, 1) := by decide +kernel
theorem dX6_root_11 : decode cX6_root 11 = .ok (.iload_n 2, 1) := by decide +kernel
theorem dX6_root_12 : decode cX6_root 12 = .ok (.iadd, 1) := by decide +kernel
theorem dX6_root_13 : decode cX6_root 13 = .ok (.iload_n 1, 1) := by decide +kernel
theorem dX6_root_14 : decode cX6_root 14 = .ok (.iload_n 2, 1) := by decide +kernel
theorem dX6_root_15 : decode cX6_root 15 = .ok (.iadd, 1) := by decide +kernel
theorem dX6_root_16 : decode cX6_root 16 = .ok (.imul, 1) := by decide +kernel
theorem dX6_root_17 : decode cX6_root 17 = .ok (.iload_n 0, 1) := by decide +kernel
theorem dX6_root_18 : decode cX6_root 18 = .ok (.if_icmp .gt 7, 3) := by decide +kernel
theorem dX6_root_21 : decode cX6_root 21 = .ok (.iload_n 1, 1) := by decide +kernel
theorem dX6_root_22 : decode cX6_root 22 = .ok (.iload_n 2, 1) := by decide +kernel
theorem dX6_root_23 : decode cX6_root 23 = .ok (.iadd, 1) := by decide +kernel
theorem dX6_root_24 : decode cX6_root 24 = .ok (.istore_n 1, 1) := by decide +kernel
theorem dX6_root_25 : decode cX6_root 25 = .ok (.iload_n 2, 1) := by decide +kernel
theorem dX6_root_26 : decode cX6_root 26 = .ok (.iconst 2, 1) := by decide +kernel
theorem dX6_root_27 : decode cX6_root 27 = .ok (.idiv, 1) := by decide +kernel
theorem dX6_root_28 : decode cX6_root 28 = .ok (.istore_n 2, 1) := by decide +kernel
theorem dX6_root_29 : decode cX6_root 29 = .ok (.goto (-23), 3) := by decide +kernel
theorem dX6_root_32 : decode cX6_root 32 = .ok (.iload_n 1, 1) := by decide +kernel
theorem dX6_root_33 : decode cX6_root 33 = .ok (.ireturn, 1) := by decide +kernel
theorem dX6_timeIfDown_0 : decode cX6_timeIfDown 0 = .ok (.aload_n 0, 1) := by decide +kernel
theorem dX6_timeIfDown_1 : decode cX6_timeIfDown 1 = .ok (.getfield 34, 3) := by decide +kernel
theorem dX6_timeIfDown_4 : decode cX6_timeIfDown 4 = .ok (.ifCond .ne 10, 3) := by decide +kernel
theorem dX6_timeIfDown_7 : decode cX6_timeIfDown 7 = .ok (.aload_n 0, 1) := by decide +kernel
theorem dX6_timeIfDown_8 : decode cX6_timeIfDown 8 = .ok (.getfield 40, 3) := by decide +kernel
theorem dX6_timeIfDown_11 : decode cX6_timeIfDown 11 = .ok (.goto 4, 3) := by decide +kernel
theorem dX6_timeIfDown_14 : decode cX6_timeIfDown 14 = .ok (.iconst (-1), 1) := by decide +kernel
theorem dX6_timeIfDown_15 : decode cX6_timeIfDown 15 = .ok (.ireturn, 1) := by decide +kernel
theorem dX6_tell_0 : decode cX6_tell 0 = .ok (.iload_n 1, 1) := by decide +kernel
theorem dX6_tell_1 : decode cX6_tell 1 = .ok (.tableswitch 42 0 2 #[27, 32, 37], 27) := by decide +kernel
theorem dX6_tell_28 : decode cX6_tell 28 = .ok (.aload_n 0, 1) := by decide +kernel
theorem dX6_tell_29 : decode cX6_tell 29 = .ok (.getfield 34, 3) := by decide +kernel
theorem dX6_tell_32 : decode cX6_tell 32 = .ok (.ireturn, 1) := by decide +kernel
theorem dX6_tell_33 : decode cX6_tell 33 = .ok (.aload_n 0, 1) := by decide +kernel
theorem dX6_tell_34 : decode cX6_tell 34 = .ok (.getfield 37, 3) := by decide +kernel
theorem dX6_tell_37 : decode cX6_tell 37 = .ok (.ireturn, 1) := by decide +kernel
theorem dX6_tell_38 : decode cX6_tell 38 = .ok (.aload_n 0, 1) := by decide +kernel
theorem dX6_tell_39 : decode cX6_tell 39 = .ok (.getfield 40, 3) := by decide +kernel
theorem dX6_tell_42 : decode cX6_tell 42 = .ok (.ireturn, 1) := by decide +kernel
theorem dX6_tell_43 : decode cX6_tell 43 = .ok (.aload_n 0, 1) := by decide +kernel
theorem dX6_tell_44 : decode cX6_tell 44 = .ok (.getfield 43, 3) := by decide +kernel
theorem dX6_tell_47 : decode cX6_tell 47 = .ok (.ireturn, 1) := by decide +kernel
theorem dX6_goFlat_0 : decode cX6_goFlat 0 = .ok (.iload_n 1, 1) := by decide +kernel
theorem dX6_goFlat_1 : decode cX6_goFlat 1 = .ok (.istore 4, 2) := by decide +kernel
theorem dX6_goFlat_3 : decode cX6_goFlat 3 = .ok (.iconst 0, 1) := by decide +kernel
theorem dX6_goFlat_4 : decode cX6_goFlat 4 = .ok (.istore 5, 2) := by decide +kernel
theorem dX6_goFlat_6 : decode cX6_goFlat 6 = .ok (.iload 5, 2) := by decide +kernel
theorem dX6_goFlat_8 : decode cX6_goFlat 8 = .ok (.iload_n 3, 1) := by decide +kernel
theorem dX6_goFlat_9 : decode cX6_goFlat 9 = .ok (.if_icmp .ge 70, 3) := by decide +kernel
theorem dX6_goFlat_12 : decode cX6_goFlat 12 = .ok (.iconst 2, 1) := by decide +kernel
theorem dX6_goFlat_13 : decode cX6_goFlat 13 = .ok (.iload_n 2, 1) := by decide +kernel
theorem dX6_goFlat_14 : decode cX6_goFlat 14 = .ok (.imul, 1) := by decide +kernel
theorem dX6_goFlat_15 : decode cX6_goFlat 15 = .ok (.istore 6, 2) := by decide +kernel
theorem dX6_goFlat_17 : decode cX6_goFlat 17 = .ok (.iconst 0, 1) := by decide +kernel
theorem dX6_goFlat_18 : decode cX6_goFlat 18 = .ok (.istore 7, 2) := by decide +kernel
theorem dX6_goFlat_20 : decode cX6_goFlat 20 = .ok (.iload 7, 2) := by decide +kernel
theorem dX6_goFlat_22 : decode cX6_goFlat 22 = .ok (.aload_n 0, 1) := by decide +kernel
theorem dX6_goFlat_23 : decode cX6_goFlat 23 = .ok (.getfield 24, 3) := by decide +kernel
theorem dX6_goFlat_26 : decode cX6_goFlat 26 = .ok (.if_icmp .ge 25, 3) := by decide +kernel
theorem dX6_goFlat_29 : decode cX6_goFlat 29 = .ok (.iload 6, 2) := by decide +kernel
theorem dX6_goFlat_31 : decode cX6_goFlat 31 = .ok (.aload_n 0, 1) := by decide +kernel
theorem dX6_goFlat_32 : decode cX6_goFlat 32 = .ok (.iload 7, 2) := by decide +kernel
theorem dX6_goFlat_34 : decode cX6_goFlat 34 = .ok (.iload 4, 2) := by decide +kernel
theorem dX6_goFlat_36 : decode cX6_goFlat 36 = .ok (.iconst 0, 1) := by decide +kernel
theorem dX6_goFlat_37 : decode cX6_goFlat 37 = .ok (.iconst 0, 1) := by decide +kernel
theorem dX6_goFlat_38 : decode cX6_goFlat 38 = .ok (.iconst 0, 1) := by decide +kernel
theorem dX6_goFlat_39 : decode cX6_goFlat 39 = .ok (.invokevirtual 94, 3) := by decide +kernel
theorem dX6_goFlat_42 : decode cX6_goFlat 42 = .ok (.iadd, 1) := by decide +kernel
theorem dX6_goFlat_43 : decode cX6_goFlat 43 = .ok (.istore 6, 2) := by decide +kernel
theorem dX6_goFlat_45 : decode cX6_goFlat 45 = .ok (.iinc 7 1, 3) := by decide +kernel
theorem dX6_goFlat_48 : decode cX6_goFlat 48 = .ok (.goto (-28), 3) := by decide +kernel
theorem dX6_goFlat_51 : decode cX6_goFlat 51 = .ok (.iload 4, 2) := by decide +kernel
theorem dX6_goFlat_53 : decode cX6_goFlat 53 = .ok (.iload 6, 2) := by decide +kernel
theorem dX6_goFlat_55 : decode cX6_goFlat 55 = .ok (.isub, 1) := by decide +kernel
theorem dX6_goFlat_56 : decode cX6_goFlat 56 = .ok (.istore 4, 2) := by decide +kernel
theorem dX6_goFlat_58 : decode cX6_goFlat 58 = .ok (.iload 4, 2) := by decide +kernel
theorem dX6_goFlat_60 : decode cX6_goFlat 60 = .ok (.ifCond .gt 6, 3) := by decide +kernel
theorem dX6_goFlat_63 : decode cX6_goFlat 63 = .ok (.iload 5, 2) := by decide +kernel
theorem dX6_goFlat_65 : decode cX6_goFlat 65 = .ok (.ireturn, 1) := by decide +kernel
theorem dX6_goFlat_66 : decode cX6_goFlat 66 = .ok (.iload 6, 2) := by decide +kernel
theorem dX6_goFlat_68 : decode cX6_goFlat 68 = .ok (.ifCond .ne 5, 3) := by decide +kernel
theorem dX6_goFlat_71 : decode cX6_goFlat 71 = .ok (.iload_n 3, 1) := by decide +kernel
theorem dX6_goFlat_72 : decode cX6_goFlat 72 = .ok (.ireturn, 1) := by decide +kernel
theorem dX6_goFlat_73 : decode cX6_goFlat 73 = .ok (.iinc 5 1, 3) := by decide +kernel
theorem dX6_goFlat_76 : decode cX6_goFlat 76 = .ok (.goto (-70), 3) := by decide +kernel
theorem dX6_goFlat_79 : decode cX6_goFlat 79 = .ok (.iload_n 3, 1) := by decide +kernel
theorem dX6_goFlat_80 : decode cX6_goFlat 80 = .ok (.ireturn, 1) := by decide +kernel
theorem dX6_spendNext_0 : decode cX6_spendNext 0 = .ok (.iconst 0, 1) := by decide +kernel
theorem dX6_spendNext_1 : decode cX6_spendNext 1 = .ok (.istore_n 2, 1) := by decide +kernel
theorem dX6_spendNext_2 : decode cX6_spendNext 2 = .ok (.iconst 0, 1) := by decide +kernel
theorem dX6_spendNext_3 : decode cX6_spendNext 3 = .ok (.istore_n 3, 1) := by decide +kernel
theorem dX6_spendNext_4 : decode cX6_spendNext 4 = .ok (.iload_n 3, 1) := by decide +kernel
theorem dX6_spendNext_5 : decode cX6_spendNext 5 = .ok (.aload_n 0, 1) := by decide +kernel
theorem dX6_spendNext_6 : decode cX6_spendNext 6 = .ok (.getfield 24, 3) := by decide +kernel
theorem dX6_spendNext_9 : decode cX6_spendNext 9 = .ok (.if_icmp .ge 18, 3) := by decide +kernel
theorem dX6_spendNext_12 : decode cX6_spendNext 12 = .ok (.iload_n 2, 1) := by decide +kernel
theorem dX6_spendNext_13 : decode cX6_spendNext 13 = .ok (.aload_n 0, 1) := by decide +kernel
theorem dX6_spendNext_14 : decode cX6_spendNext 14 = .ok (.getfield 18, 3) := by decide +kernel
theorem dX6_spendNext_17 : decode cX6_spendNext 17 = .ok (.iload_n 3, 1) := by decide +kernel
theorem dX6_spendNext_18 : decode cX6_spendNext 18 = .ok (.iaload, 1) := by decide +kernel
theorem dX6_spendNext_19 : decode cX6_spendNext 19 = .ok (.iadd, 1) := by decide +kernel
theorem dX6_spendNext_20 : decode cX6_spendNext 20 = .ok (.istore_n 2, 1) := by decide +kernel
theorem dX6_spendNext_21 : decode cX6_spendNext 21 = .ok (.iinc 3 1, 3) := by decide +kernel
theorem dX6_spendNext_24 : decode cX6_spendNext 24 = .ok (.goto (-20), 3) := by decide +kernel
theorem dX6_spendNext_27 : decode cX6_spendNext 27 = .ok (.aload_n 0, 1) := by decide +kernel
theorem dX6_spendNext_28 : decode cX6_spendNext 28 = .ok (.getfield 24, 3) := by decide +kernel
theorem dX6_spendNext_31 : decode cX6_spendNext 31 = .ok (.iconst 1, 1) := by decide +kernel
theorem dX6_spendNext_32 : decode cX6_spendNext 32 = .ok (.isub, 1) := by decide +kernel
theorem dX6_spendNext_33 : decode cX6_spendNext 33 = .ok (.istore_n 3, 1) := by decide +kernel
theorem dX6_spendNext_34 : decode cX6_spendNext 34 = .ok (.iload_n 3, 1) := by decide +kernel
theorem dX6_spendNext_35 : decode cX6_spendNext 35 = .ok (.ifCond .lt 76, 3) := by decide +kernel
theorem dX6_spendNext_38 : decode cX6_spendNext 38 = .ok (.iload_n 2, 1) := by decide +kernel
theorem dX6_spendNext_39 : decode cX6_spendNext 39 = .ok (.iload_n 1, 1) := by decide +kernel
theorem dX6_spendNext_40 : decode cX6_spendNext 40 = .ok (.if_icmp .ge 34, 3) := by decide +kernel
theorem dX6_spendNext_43 : decode cX6_spendNext 43 = .ok (.aload_n 0, 1) := by decide +kernel
theorem dX6_spendNext_44 : decode cX6_spendNext 44 = .ok (.getfield 15, 3) := by decide +kernel
theorem dX6_spendNext_47 : decode cX6_spendNext 47 = .ok (.iload_n 3, 1) := by decide +kernel
theorem dX6_spendNext_48 : decode cX6_spendNext 48 = .ok (.iaload, 1) := by decide +kernel
theorem dX6_spendNext_49 : decode cX6_spendNext 49 = .ok (.ifCond .le 25, 3) := by decide +kernel
theorem dX6_spendNext_52 : decode cX6_spendNext 52 = .ok (.aload_n 0, 1) := by decide +kernel
theorem dX6_spendNext_53 : decode cX6_spendNext 53 = .ok (.getfield 18, 3) := by decide +kernel
theorem dX6_spendNext_56 : decode cX6_spendNext 56 = .ok (.iload_n 3, 1) := by decide +kernel
theorem dX6_spendNext_57 : decode cX6_spendNext 57 = .ok (.dup2, 1) := by decide +kernel
theorem dX6_spendNext_58 : decode cX6_spendNext 58 = .ok (.iaload, 1) := by decide +kernel
theorem dX6_spendNext_59 : decode cX6_spendNext 59 = .ok (.iconst 1, 1) := by decide +kernel
theorem dX6_spendNext_60 : decode cX6_spendNext 60 = .ok (.iadd, 1) := by decide +kernel
theorem dX6_spendNext_61 : decode cX6_spendNext 61 = .ok (.iastore, 1) := by decide +kernel
theorem dX6_spendNext_62 : decode cX6_spendNext 62 = .ok (.aload_n 0, 1) := by decide +kernel
theorem dX6_spendNext_63 : decode cX6_spendNext 63 = .ok (.getfield 15, 3) := by decide +kernel
theorem dX6_spendNext_66 : decode cX6_spendNext 66 = .ok (.iload_n 3, 1) := by decide +kernel
theorem dX6_spendNext_67 : decode cX6_spendNext 67 = .ok (.dup2, 1) := by decide +kernel
theorem dX6_spendNext_68 : decode cX6_spendNext 68 = .ok (.iaload, 1) := by decide +kernel
theorem dX6_spendNext_69 : decode cX6_spendNext 69 = .ok (.iconst 1, 1) := by decide +kernel
theorem dX6_spendNext_70 : decode cX6_spendNext 70 = .ok (.isub, 1) := by decide +kernel
theorem dX6_spendNext_71 : decode cX6_spendNext 71 = .ok (.iastore, 1) := by decide +kernel
theorem dX6_spendNext_72 : decode cX6_spendNext 72 = .ok (.iconst 1, 1) := by decide +kernel
theorem dX6_spendNext_73 : decode cX6_spendNext 73 = .ok (.ireturn, 1) := by decide +kernel
theorem dX6_spendNext_74 : decode cX6_spendNext 74 = .ok (.iload_n 2, 1) := by decide +kernel
theorem dX6_spendNext_75 : decode cX6_spendNext 75 = .ok (.aload_n 0, 1) := by decide +kernel
theorem dX6_spendNext_76 : decode cX6_spendNext 76 = .ok (.getfield 18, 3) := by decide +kernel
theorem dX6_spendNext_79 : decode cX6_spendNext 79 = .ok (.iload_n 3, 1) := by decide +kernel
theorem dX6_spendNext_80 : decode cX6_spendNext 80 = .ok (.iaload, 1) := by decide +kernel
theorem dX6_spendNext_81 : decode cX6_spendNext 81 = .ok (.isub, 1) := by decide +kernel
theorem dX6_spendNext_82 : decode cX6_spendNext 82 = .ok (.istore_n 2, 1) := by decide +kernel
theorem dX6_spendNext_83 : decode cX6_spendNext 83 = .ok (.aload_n 0, 1) := by decide +kernel
theorem dX6_spendNext_84 : decode cX6_spendNext 84 = .ok (.getfield 15, 3) := by decide +kernel
theorem dX6_spendNext_87 : decode cX6_spendNext 87 = .ok (.iload_n 3, 1) := by decide +kernel
theorem dX6_spendNext_88 : decode cX6_spendNext 88 = .ok (.dup2, 1) := by decide +kernel
theorem dX6_spendNext_89 : decode cX6_spendNext 89 = .ok (.iaload, 1) := by decide +kernel
theorem dX6_spendNext_90 : decode cX6_spendNext 90 = .ok (.aload_n 0, 1) := by decide +kernel
theorem dX6_spendNext_91 : decode cX6_spendNext 91 = .ok (.getfield 18, 3) := by decide +kernel
theorem dX6_spendNext_94 : decode cX6_spendNext 94 = .ok (.iload_n 3, 1) := by decide +kernel
theorem dX6_spendNext_95 : decode cX6_spendNext 95 = .ok (.iaload, 1) := by decide +kernel
theorem dX6_spendNext_96 : decode cX6_spendNext 96 = .ok (.iadd, 1) := by decide +kernel
theorem dX6_spendNext_97 : decode cX6_spendNext 97 = .ok (.iastore, 1) := by decide +kernel
theorem dX6_spendNext_98 : decode cX6_spendNext 98 = .ok (.aload_n 0, 1) := by decide +kernel
theorem dX6_spendNext_99 : decode cX6_spendNext 99 = .ok (.getfield 18, 3) := by decide +kernel
theorem dX6_spendNext_102 : decode cX6_spendNext 102 = .ok (.iload_n 3, 1) := by decide +kernel
theorem dX6_spendNext_103 : decode cX6_spendNext 103 = .ok (.iconst 0, 1) := by decide +kernel
theorem dX6_spendNext_104 : decode cX6_spendNext 104 = .ok (.iastore, 1) := by decide +kernel
theorem dX6_spendNext_105 : decode cX6_spendNext 105 = .ok (.iinc 3 (-1), 3) := by decide +kernel
theorem dX6_spendNext_108 : decode cX6_spendNext 108 = .ok (.goto (-74), 3) := by decide +kernel
theorem dX6_spendNext_111 : decode cX6_spendNext 111 = .ok (.iconst 0, 1) := by decide +kernel
theorem dX6_spendNext_112 : decode cX6_spendNext 112 = .ok (.ireturn, 1) := by decide +kernel
theorem dX7_init_0 : decode cX7_init 0 = .ok (.aload_n 0, 1) := by decide +kernel
theorem dX7_init_1 : decode cX7_init 1 = .ok (.invokespecial 3, 3) := by decide +kernel
theorem dX7_init_4 : decode cX7_init 4 = .ok (.aload_n 0, 1) := by decide +kernel
theorem dX7_init_5 : decode cX7_init 5 = .ok (.new 9, 3) := by decide +kernel
theorem dX7_init_8 : decode cX7_init 8 = .ok (.dup, 1) := by decide +kernel
theorem dX7_init_9 : decode cX7_init 9 = .ok (.invokespecial 11, 3) := by decide +kernel
theorem dX7_init_12 : decode cX7_init 12 = .ok (.putfield 12, 3) := by decide +kernel
theorem dX7_init_15 : decode cX7_init 15 = .ok (.aload_n 0, 1) := by decide +kernel
theorem dX7_init_16 : decode cX7_init 16 = .ok (.new 16, 3) := by decide +kernel
theorem dX7_init_19 : decode cX7_init 19 = .ok (.dup, 1) := by decide +kernel
theorem dX7_init_20 : decode cX7_init 20 = .ok (.invokespecial 18, 3) := by decide +kernel
theorem dX7_init_23 : decode cX7_init 23 = .ok (.putfield 19, 3) := by decide +kernel
theorem dX7_init_26 : decode cX7_init 26 = .ok (.aload_n 0, 1) := by decide +kernel
theorem dX7_init_27 : decode cX7_init 27 = .ok (.bipush 8, 2) := by decide +kernel
theorem dX7_init_29 : decode cX7_init 29 = .ok (.anewarray 23, 3) := by decide +kernel
theorem dX7_init_32 : decode cX7_init 32 = .ok (.putfield 25, 3) := by decide +kernel
theorem dX7_init_35 : decode cX7_init 35 = .ok (.iconst 0, 1) := by decide +kernel
theorem dX7_init_36 : decode cX7_init 36 = .ok (.istore_n 1, 1) := by decide +kernel
theorem dX7_init_37 : decode cX7_init 37 = .ok (.iload_n 1, 1) := by decide +kernel
theorem dX7_init_38 : decode cX7_init 38 = .ok (.bipush 8, 2) := by decide +kernel
theorem dX7_init_40 : decode cX7_init 40 = .ok (.if_icmp .ge 22, 3) := by decide +kernel
theorem dX7_init_43 : decode cX7_init 43 = .ok (.aload_n 0, 1) := by decide +kernel
theorem dX7_init_44 : decode cX7_init 44 = .ok (.getfield 25, 3) := by decide +kernel
theorem dX7_init_47 : decode cX7_init 47 = .ok (.iload_n 1, 1) := by decide +kernel
theorem dX7_init_48 : decode cX7_init 48 = .ok (.new 23, 3) := by decide +kernel
theorem dX7_init_51 : decode cX7_init 51 = .ok (.dup, 1) := by decide +kernel
theorem dX7_init_52 : decode cX7_init 52 = .ok (.invokespecial 29, 3) := by decide +kernel
theorem dX7_init_55 : decode cX7_init 55 = .ok (.aastore, 1) := by decide +kernel
theorem dX7_init_56 : decode cX7_init 56 = .ok (.iinc 1 1, 3) := by decide +kernel
theorem dX7_init_59 : decode cX7_init 59 = .ok (.goto (-22), 3) := by decide +kernel
theorem dX7_init_62 : decode cX7_init 62 = .ok (.aload_n 0, 1) := by decide +kernel
theorem dX7_init_63 : decode cX7_init 63 = .ok (.new 30, 3) := by decide +kernel
theorem dX7_init_66 : decode cX7_init 66 = .ok (.dup, 1) := by decide +kernel
theorem dX7_init_67 : decode cX7_init 67 = .ok (.invokespecial 32, 3) := by decide +kernel
theorem dX7_init_70 : decode cX7_init 70 = .ok (.putfield 33, 3) := by decide +kernel
theorem dX7_init_73 : decode cX7_init 73 = .ok (.aload_n 0, 1) := by decide +kernel
theorem dX7_init_74 : decode cX7_init 74 = .ok (.new 37, 3) := by decide +kernel
theorem dX7_init_77 : decode cX7_init 77 = .ok (.dup, 1) := by decide +kernel
theorem dX7_init_78 : decode cX7_init 78 = .ok (.invokespecial 39, 3) := by decide +kernel
theorem dX7_init_81 : decode cX7_init 81 = .ok (.putfield 40, 3) := by decide +kernel
theorem dX7_init_84 : decode cX7_init 84 = .ok (.aload_n 0, 1) := by decide +kernel
theorem dX7_init_85 : decode cX7_init 85 = .ok (.new 44, 3) := by decide +kernel
theorem dX7_init_88 : decode cX7_init 88 = .ok (.dup, 1) := by decide +kernel
theorem dX7_init_89 : decode cX7_init 89 = .ok (.aload_n 0, 1) := by decide +kernel
theorem dX7_init_90 : decode cX7_init 90 = .ok (.getfield 19, 3) := by decide +kernel
theorem dX7_init_93 : decode cX7_init 93 = .ok (.invokespecial 46, 3) := by decide +kernel
theorem dX7_init_96 : decode cX7_init 96 = .ok (.putfield 49, 3) := by decide +kernel
theorem dX7_init_99 : decode cX7_init 99 = .ok (.aload_n 0, 1) := by decide +kernel
theorem dX7_init_100 : decode cX7_init 100 = .ok (.new 53, 3) := by decide +kernel
theorem dX7_init_103 : decode cX7_init 103 = .ok (.dup, 1) := by decide +kernel
theorem dX7_init_104 : decode cX7_init 104 = .ok (.invokespecial 55, 3) := by decide +kernel
theorem dX7_init_107 : decode cX7_init 107 = .ok (.putfield 56, 3) := by decide +kernel
theorem dX7_init_110 : decode cX7_init 110 = .ok (.aload_n 0, 1) := by decide +kernel
theorem dX7_init_111 : decode cX7_init 111 = .ok (.iconst 4, 1) := by decide +kernel
theorem dX7_init_112 : decode cX7_init 112 = .ok (.newarray .int, 2) := by decide +kernel
theorem dX7_init_114 : decode cX7_init 114 = .ok (.putfield 60, 3) := by decide +kernel
theorem dX7_init_117 : decode cX7_init 117 = .ok (.aload_n 0, 1) := by decide +kernel
theorem dX7_init_118 : decode cX7_init 118 = .ok (.iconst 4, 1) := by decide +kernel
theorem dX7_init_119 : decode cX7_init 119 = .ok (.newarray .int, 2) := by decide +kernel
theorem dX7_init_121 : decode cX7_init 121 = .ok (.putfield 64, 3) := by decide +kernel
theorem dX7_init_124 : decode cX7_init 124 = .ok (.aload_n 0, 1) := by decide +kernel
theorem dX7_init_125 : decode cX7_init 125 = .ok (.iconst 0, 1) := by decide +kernel
theorem dX7_init_126 : decode cX7_init 126 = .ok (.putfield 67, 3) := by decide +kernel
theorem dX7_init_129 : decode cX7_init 129 = .ok (.aload_n 0, 1) := by decide +kernel
theorem dX7_init_130 : decode cX7_init 130 = .ok (.bipush 9, 2) := by decide +kernel
theorem dX7_init_132 : decode cX7_init 132 = .ok (.putfield 71, 3) := by decide +kernel
theorem dX7_init_135 : decode cX7_init 135 = .ok (.return_, 1) := by decide +kernel
theorem dX7_letters_0 : decode cX7_letters 0 = .ok (.iconst 0, 1) := by decide +kernel
theorem dX7_letters_1 : decode cX7_letters 1 = .ok (.istore_n 3, 1) := by decide +kernel
theorem dX7_letters_2 : decode cX7_letters 2 = .ok (.iconst 0, 1) := by decide +kernel
theorem dX7_letters_3 : decode cX7_letters 3 = .ok (.istore 4, 2) := by decide +kernel
theorem dX7_letters_5 : decode cX7_letters 5 = .ok (.iconst 0, 1) := by decide +kernel
theorem dX7_letters_6 : decode cX7_letters 6 = .ok (.istore 5, 2) := by decide +kernel
theorem dX7_letters_8 : decode cX7_letters 8 = .ok (.iload 5, 2) := by decide +kernel
theorem dX7_letters_10 : decode cX7_letters 10 = .ok (.bipush 8, 2) := by decide +kernel
theorem dX7_letters_12 : decode cX7_letters 12 = .ok (.if_icmp .ge 51, 3) := by decide +kernel
theorem dX7_letters_15 : decode cX7_letters 15 = .ok (.lload_n 1, 1) := by decide +kernel
theorem dX7_letters_16 : decode cX7_letters 16 = .ok (.iload 5, 2) := by decide +kernel
theorem dX7_letters_18 : decode cX7_letters 18 = .ok (.invokestatic 74, 3) := by decide +kernel
theorem dX7_letters_21 : decode cX7_letters 21 = .ok (.istore 6, 2) := by decide +kernel
theorem dX7_letters_23 : decode cX7_letters 23 = .ok (.iload 6, 2) := by decide +kernel
theorem dX7_letters_25 : decode cX7_letters 25 = .ok (.bipush 126, 2) := by decide +kernel
theorem dX7_letters_27 : decode cX7_letters 27 = .ok (.if_icmp .gt 13, 3) := by decide +kernel
theorem dX7_letters_30 : decode cX7_letters 30 = .ok (.iload 4, 2) := by decide +kernel
theorem dX7_letters_32 : decode cX7_letters 32 = .ok (.ifCond .eq 11, 3) := by decide +kernel
theorem dX7_letters_35 : decode cX7_letters 35 = .ok (.iload 6, 2) := by decide +kernel
theorem dX7_letters_37 : decode cX7_letters 37 = .ok (.ifCond .eq 6, 3) := by decide +kernel
theorem dX7_letters_40 : decode cX7_letters 40 = .ok (.bipush (-102), 2) := by decide +kernel
theorem dX7_letters_42 : decode cX7_letters 42 = .ok (.ireturn, 1) := by decide +kernel
theorem dX7_letters_43 : decode cX7_letters 43 = .ok (.iload 6, 2) := by decide +kernel
theorem dX7_letters_45 : decode cX7_letters 45 = .ok (.ifCond .ne 9, 3) := by decide +kernel
theorem dX7_letters_48 : decode cX7_letters 48 = .ok (.iconst 1, 1) := by decide +kernel
theorem dX7_letters_49 : decode cX7_letters 49 = .ok (.istore 4, 2) := by decide +kernel
theorem dX7_letters_51 : decode cX7_letters 51 = .ok (.goto 6, 3) := by decide +kernel
theorem dX7_letters_54 : decode cX7_letters 54 = .ok (.iinc 3 1, 3) := by decide +kernel
theorem dX7_letters_57 : decode cX7_letters 57 = .ok (.iinc 5 1, 3) := by decide +kernel
theorem dX7_letters_60 : decode cX7_letters 60 = .ok (.goto (-52), 3) := by decide +kernel
theorem dX7_letters_63 : decode cX7_letters 63 = .ok (.aload_n 0, 1) := by decide +kernel
theorem dX7_letters_64 : decode cX7_letters 64 = .ok (.getfield 12, 3) := by decide +kernel
theorem dX7_letters_67 : decode cX7_letters 67 = .ok (.getfield 78, 3) := by decide +kernel
theorem dX7_letters_70 : decode cX7_letters 70 = .ok (.iload_n 3, 1) := by decide +kernel
theorem dX7_letters_71 : decode cX7_letters 71 = .ok (.iadd, 1) := by decide +kernel
theorem dX7_letters_72 : decode cX7_letters 72 = .ok (.bipush 50, 2) := by decide +kernel
theorem dX7_letters_74 : decode cX7_letters 74 = .ok (.if_icmp .le 6, 3) := by decide +kernel
theorem dX7_letters_77 : decode cX7_letters 77 = .ok (.bipush (-104), 2) := by decide +kernel
theorem dX7_letters_79 : decode cX7_letters 79 = .ok (.ireturn, 1) := by decide +kernel
theorem dX7_letters_80 : decode cX7_letters 80 = .ok (.iconst 0, 1) := by decide +kernel
theorem dX7_letters_81 : decode cX7_letters 81 = .ok (.istore 5, 2) := by decide +kernel
theorem dX7_letters_83 : decode cX7_letters 83 = .ok (.iload 5, 2) := by decide +kernel
theorem dX7_letters_85 : decode cX7_letters 85 = .ok (.iload_n 3, 1) := by decide +kernel
theorem dX7_letters_86 : decode cX7_letters 86 = .ok (.if_icmp .ge 22, 3) := by decide +kernel
theorem dX7_letters_89 : decode cX7_letters 89 = .ok (.aload_n 0, 1) := by decide +kernel
theorem dX7_letters_90 : decode cX7_letters 90 = .ok (.getfield 12, 3) := by decide +kernel
theorem dX7_letters_93 : decode cX7_letters 93 = .ok (.lload_n 1, 1) := by decide +kernel
theorem dX7_letters_94 : decode cX7_letters 94 = .ok (.iload 5, 2) := by decide +kernel
theorem dX7_letters_96 : decode cX7_letters 96 = .ok (.invokestatic 74, 3) := by decide +kernel
theorem dX7_letters_99 : decode cX7_letters 99 = .ok (.invokevirtual 81, 3) := by decide +kernel
theorem dX7_letters_102 : decode cX7_letters 102 = .ok (.iinc 5 1, 3) := by decide +kernel
theorem dX7_letters_105 : decode cX7_letters 105 = .ok (.goto (-22), 3) := by decide +kernel
theorem dX7_letters_108 : decode cX7_letters 108 = .ok (.aload_n 0, 1) := by decide +kernel
theorem dX7_letters_109 : decode cX7_letters 109 = .ok (.getfield 12, 3) := by decide +kernel
theorem dX7_letters_112 : decode cX7_letters 112 = .ok (.getfield 78, 3) := by decide +kernel
theorem dX7_letters_115 : decode cX7_letters 115 = .ok (.ireturn, 1) := by decide +kernel
theorem dX7_blank_0 : decode cX7_blank 0 = .ok (.aload_n 0, 1) := by decide +kernel
theorem dX7_blank_1 : decode cX7_blank 1 = .ok (.getfield 12, 3) := by decide +kernel
theorem dX7_blank_4 : decode cX7_blank 4 = .ok (.getfield 78, 3) := by decide +kernel
theorem dX7_blank_7 : decode cX7_blank 7 = .ok (.istore_n 1, 1) := by decide +kernel
theorem dX7_blank_8 : decode cX7_blank 8 = .ok (.aload_n 0, 1) := by decide +kernel
theorem dX7_blank_9 : decode cX7_blank 9 = .ok (.getfield 12, 3) := by decide +kernel
theorem dX7_blank_12 : decode cX7_blank 12 = .ok (.iconst 0, 1) := by decide +kernel
theorem dX7_blank_13 : decode cX7_blank 13 = .ok (.putfield 78, 3) := by decide +kernel
theorem dX7_blank_16 : decode cX7_blank 16 = .ok (.iload_n 1, 1) := by decide +kernel
theorem dX7_blank_17 : decode cX7_blank 17 = .ok (.ireturn, 1) := by decide +kernel
theorem dX7_fault_0 : decode cX7_fault 0 = .ok (.iload_n 1, 1) := by decide +kernel
theorem dX7_fault_1 : decode cX7_fault 1 = .ok (.ifCond .ne 11, 3) := by decide +kernel
theorem dX7_fault_4 : decode cX7_fault 4 = .ok (.aload_n 0, 1) := by decide +kernel
theorem dX7_fault_5 : decode cX7_fault 5 = .ok (.getfield 12, 3) := by decide +kernel
theorem dX7_fault_8 : decode cX7_fault 8 = .ok (.invokevirtual 85, 3) := by decide +kernel
theorem dX7_fault_11 : decode cX7_fault 11 = .ok (.ireturn, 1) := by decide +kernel
theorem dX7_fault_12 : decode cX7_fault 12 = .ok (.iload_n 1, 1) := by decide +kernel
theorem dX7_fault_13 : decode cX7_fault 13 = .ok (.iconst 1, 1) := by decide +kernel
theorem dX7_fault_14 : decode cX7_fault 14 = .ok (.if_icmp .ne 13, 3) := by decide +kernel
theorem dX7_fault_17 : decode cX7_fault 17 = .ok (.aload_n 0, 1) := by decide +kernel
theorem dX7_fault_18 : decode cX7_fault 18 = .ok (.getfield 12, 3) := by decide +kernel
theorem dX7_fault_21 : decode cX7_fault 21 = .ok (.invokevirtual 89, 3) := by decide +kernel
theorem dX7_fault_24 : decode cX7_fault 24 = .ok (.goto 5, 3) := by decide +kernel
theorem dX7_fault_27 : decode cX7_fault 27 = .ok (.bipush (-102), 2) := by decide +kernel
theorem dX7_fault_29 : decode cX7_fault 29 = .ok (.ireturn, 1) := by decide +kernel
theorem dX7_hill_0 : decode cX7_hill 0 = .ok (.aload_n 0, 1) := by decide +kernel
theorem dX7_hill_1 : decode cX7_hill 1 = .ok (.getfield 12, 3) := by decide +kernel
theorem dX7_hill_4 : decode cX7_hill 4 = .ok (.invokevirtual 92, 3) := by decide +kernel
theorem dX7_hill_7 : decode cX7_hill 7 = .ok (.ifCond .ne 6, 3) := by decide +kernel
theorem dX7_hill_10 : decode cX7_hill 10 = .ok (.bipush (-103), 2) := by decide +kernel
theorem dX7_hill_12 : decode cX7_hill 12 = .ok (.ireturn, 1) := by decide +kernel
theorem dX7_hill_13 : decode cX7_hill 13 = .ok (.aload_n 0, 1) := by decide +kernel
theorem dX7_hill_14 : decode cX7_hill 14 = .ok (.getfield 19, 3) := by decide +kernel
theorem dX7_hill_17 : decode cX7_hill 17 = .ok (.aload_n 0, 1) := by decide +kernel
theorem dX7_hill_18 : decode cX7_hill 18 = .ok (.getfield 12, 3) := by decide +kernel
theorem dX7_hill_21 : decode cX7_hill 21 = .ok (.invokevirtual 96, 3) := by decide +kernel
theorem dX7_hill_24 : decode cX7_hill 24 = .ok (.aload_n 0, 1) := by decide +kernel
theorem dX7_hill_25 : decode cX7_hill 25 = .ok (.getfield 12, 3) := by decide +kernel
theorem dX7_hill_28 : decode cX7_hill 28 = .ok (.iconst 0, 1) := by decide +kernel
theorem dX7_hill_29 : decode cX7_hill 29 = .ok (.putfield 78, 3) := by decide +kernel
theorem dX7_hill_32 : decode cX7_hill 32 = .ok (.aload_n 0, 1) := by decide +kernel
theorem dX7_hill_33 : decode cX7_hill 33 = .ok (.getfield 19, 3) := by decide +kernel
theorem dX7_hill_36 : decode cX7_hill 36 = .ok (.getfield 100, 3) := by decide +kernel
theorem dX7_hill_39 : decode cX7_hill 39 = .ok (.ireturn, 1) := by decide +kernel
theorem dX7_cart_0 : decode cX7_cart 0 = .ok (.aload_n 0, 1) := by decide +kernel
theorem dX7_cart_1 : decode cX7_cart 1 = .ok (.getfield 12, 3) := by decide +kernel
theorem dX7_cart_4 : decode cX7_cart 4 = .ok (.invokevirtual 101, 3) := by decide +kernel
theorem dX7_cart_7 : decode cX7_cart 7 = .ok (.ifCond .ne 6, 3) := by decide +kernel
theorem dX7_cart_10 : decode cX7_cart 10 = .ok (.bipush (-103), 2) := by decide +kernel
theorem dX7_cart_12 : decode cX7_cart 12 = .ok (.ireturn, 1) := by decide +kernel
theorem dX7_cart_13 : decode cX7_cart 13 = .ok (.aload_n 0, 1) := by decide +kernel
theorem dX7_cart_14 : decode cX7_cart 14 = .ok (.getfield 67, 3) := by decide +kernel
theorem dX7_cart_17 : decode cX7_cart 17 = .ok (.bipush 8, 2) := by decide +kernel
theorem dX7_cart_19 : decode cX7_cart 19 = .ok (.if_icmp .lt 6, 3) := by decide +kernel
theorem dX7_cart_22 : decode cX7_cart 22 = .ok (.bipush (-104), 2) := by decide +kernel
theorem dX7_cart_24 : decode cX7_cart 24 = .ok (.ireturn, 1) := by decide +kernel
theorem dX7_cart_25 : decode cX7_cart 25 = .ok (.aload_n 0, 1) := by decide +kernel
theorem dX7_cart_26 : decode cX7_cart 26 = .ok (.getfield 25, 3) := by decide +kernel
theorem dX7_cart_29 : decode cX7_cart 29 = .ok (.aload_n 0, 1) := by decide +kernel
theorem dX7_cart_30 : decode cX7_cart 30 = .ok (.getfield 67, 3) := by decide +kernel
theorem dX7_cart_33 : decode cX7_cart 33 = .ok (.aaload, 1) := by decide +kernel
theorem dX7_cart_34 : decode cX7_cart 34 = .ok (.aload_n 0, 1) := by decide +kernel
theorem dX7_cart_35 : decode cX7_cart 35 = .ok (.getfield 12, 3) := by decide +kernel
theorem dX7_cart_38 : decode cX7_cart 38 = .ok (.invokevirtual 104, 3) := by decide +kernel
theorem dX7_cart_41 : decode cX7_cart 41 = .ok (.aload_n 0, 1) := by decide +kernel
theorem dX7_cart_42 : decode cX7_cart 42 = .ok (.getfield 12, 3) := by decide +kernel
theorem dX7_cart_45 : decode cX7_cart 45 = .ok (.iconst 0, 1) := by decide +kernel
theorem dX7_cart_46 : decode cX7_cart 46 = .ok (.putfield 78, 3) := by decide +kernel
theorem dX7_cart_49 : decode cX7_cart 49 = .ok (.aload_n 0, 1) := by decide +kernel
theorem dX7_cart_50 : decode cX7_cart 50 = .ok (.dup, 1) := by decide +kernel
theorem dX7_cart_51 : decode cX7_cart 51 = .ok (.getfield 67, 3) := by decide +kernel
theorem dX7_cart_54 : decode cX7_cart 54 = .ok (.iconst 1, 1) := by decide +kernel
theorem dX7_cart_55 : decode cX7_cart 55 = .ok (.iadd, 1) := by decide +kernel
theorem dX7_cart_56 : decode cX7_cart 56 = .ok (.putfield 67, 3) := by decide +kernel
theorem dX7_cart_59 : decode cX7_cart 59 = .ok (.aload_n 0, 1) := by decide +kernel
theorem dX7_cart_60 : decode cX7_cart 60 = .ok (.getfield 67, 3) := by decide +kernel
theorem dX7_cart_63 : decode cX7_cart 63 = .ok (.iconst 1, 1) := by decide +kernel
theorem dX7_cart_64 : decode cX7_cart 64 = .ok (.isub, 1) := by decide +kernel
theorem dX7_cart_65 : decode cX7_cart 65 = .ok (.ireturn, 1) := by decide +kernel
theorem dX7_cell_0 : decode cX7_cell 0 = .ok (.aload_n 0, 1) := by decide +kernel
theorem dX7_cell_1 : decode cX7_cell 1 = .ok (.iload_n 1, 1) := by decide +kernel
theorem dX7_cell_2 : decode cX7_cell 2 = .ok (.invokevirtual 105, 3) := by decide +kernel
theorem dX7_cell_5 : decode cX7_cell 5 = .ok (.ifCond .ne 6, 3) := by decide +kernel
theorem dX7_cell_8 : decode cX7_cell 8 = .ok (.bipush (-101), 2) := by decide +kernel
theorem dX7_cell_10 : decode cX7_cell 10 = .ok (.ireturn, 1) := by decide +kernel
theorem dX7_cell_11 : decode cX7_cell 11 = .ok (.iload_n 2, 1) := by decide +kernel
theorem dX7_cell_12 : decode cX7_cell 12 = .ok (.tableswitch 72 0 3 #[32, 42, 52, 62], 32) := by decide +kernel
theorem dX7_cell_44 : decode cX7_cell 44 = .ok (.aload_n 0, 1) := by decide +kernel
theorem dX7_cell_45 : decode cX7_cell 45 = .ok (.getfield 19, 3) := by decide +kernel
theorem dX7_cell_48 : decode cX7_cell 48 = .ok (.getfield 109, 3) := by decide +kernel
theorem dX7_cell_51 : decode cX7_cell 51 = .ok (.iload_n 1, 1) := by decide +kernel
theorem dX7_cell_52 : decode cX7_cell 52 = .ok (.iaload, 1) := by decide +kernel
theorem dX7_cell_53 : decode cX7_cell 53 = .ok (.ireturn, 1) := by decide +kernel
theorem dX7_cell_54 : decode cX7_cell 54 = .ok (.aload_n 0, 1) := by decide +kernel
theorem dX7_cell_55 : decode cX7_cell 55 = .ok (.getfield 19, 3) := by decide +kernel
theorem dX7_cell_58 : decode cX7_cell 58 = .ok (.getfield 112, 3) := by decide +kernel
theorem dX7_cell_61 : decode cX7_cell 61 = .ok (.iload_n 1, 1) := by decide +kernel
theorem dX7_cell_62 : decode cX7_cell 62 = .ok (.iaload, 1) := by decide +kernel
theorem dX7_cell_63 : decode cX7_cell 63 = .ok (.ireturn, 1) := by decide +kernel
theorem dX7_cell_64 : decode cX7_cell 64 = .ok (.aload_n 0, 1) := by decide +kernel
theorem dX7_cell_65 : decode cX7_cell 65 = .ok (.getfield 19, 3) := by decide +kernel
theorem dX7_cell_68 : decode cX7_cell 68 = .ok (.getfield 115, 3) := by decide +kernel
theorem dX7_cell_71 : decode cX7_cell 71 = .ok (.iload_n 1, 1) := by decide +kernel
theorem dX7_cell_72 : decode cX7_cell 72 = .ok (.iaload, 1) := by decide +kernel
theorem dX7_cell_73 : decode cX7_cell 73 = .ok (.ireturn, 1) := by decide +kernel
theorem dX7_cell_74 : decode cX7_cell 74 = .ok (.aload_n 0, 1) := by decide +kernel
theorem dX7_cell_75 : decode cX7_cell 75 = .ok (.getfield 19, 3) := by decide +kernel
theorem dX7_cell_78 : decode cX7_cell 78 = .ok (.getfield 118, 3) := by decide +kernel
theorem dX7_cell_81 : decode cX7_cell 81 = .ok (.iload_n 1, 1) := by decide +kernel
theorem dX7_cell_82 : decode cX7_cell 82 = .ok (.iaload, 1) := by decide +kernel
theorem dX7_cell_83 : decode cX7_cell 83 = .ok (.ireturn, 1) := by decide +kernel
theorem dX7_cell_84 : decode cX7_cell 84 = .ok (.bipush (-102), 2) := by decide +kernel
theorem dX7_cell_86 : decode cX7_cell 86 = .ok (.ireturn, 1) := by decide +kernel
theorem dX7_about_0 : decode cX7_about 0 = .ok (.aload_n 0, 1) := by decide +kernel
theorem dX7_about_1 : decode cX7_about 1 = .ok (.iload_n 1, 1) := by decide +kernel
theorem dX7_about_2 : decode cX7_about 2 = .ok (.invokevirtual 121, 3) := by decide +kernel
theorem dX7_about_5 : decode cX7_about 5 = .ok (.ifCond .ne 6, 3) := by decide +kernel
theorem dX7_about_8 : decode cX7_about 8 = .ok (.bipush (-101), 2) := by decide +kernel
theorem dX7_about_10 : decode cX7_about 10 = .ok (.ireturn, 1) := by decide +kernel
theorem dX7_about_11 : decode cX7_about 11 = .ok (.iload_n 2, 1) := by decide +kernel
theorem dX7_about_12 : decode cX7_about 12 = .ok (.lookupswitch 48 #[(0, 28), (1, 38)], 28) := by decide +kernel
theorem dX7_about_40 : decode cX7_about 40 = .ok (.aload_n 0, 1) := by decide +kernel
theorem dX7_about_41 : decode cX7_about 41 = .ok (.getfield 25, 3) := by decide +kernel
theorem dX7_about_44 : decode cX7_about 44 = .ok (.iload_n 1, 1) := by decide +kernel
theorem dX7_about_45 : decode cX7_about 45 = .ok (.aaload, 1) := by decide +kernel
theorem dX7_about_46 : decode cX7_about 46 = .ok (.getfield 123, 3) := by decide +kernel
theorem dX7_about_49 : decode cX7_about 49 = .ok (.ireturn, 1) := by decide +kernel
theorem dX7_about_50 : decode cX7_about 50 = .ok (.aload_n 0, 1) := by decide +kernel
theorem dX7_about_51 : decode cX7_about 51 = .ok (.getfield 25, 3) := by decide +kernel
theorem dX7_about_54 : decode cX7_about 54 = .ok (.iload_n 1, 1) := by decide +kernel
theorem dX7_about_55 : decode cX7_about 55 = .ok (.aaload, 1) := by decide +kernel
theorem dX7_about_56 : decode cX7_about 56 = .ok (.getfield 126, 3) := by decide +kernel
theorem dX7_about_59 : decode cX7_about 59 = .ok (.ireturn, 1) := by decide +kernel
theorem dX7_about_60 : decode cX7_about 60 = .ok (.bipush (-102), 2) := by decide +kernel
theorem dX7_about_62 : decode cX7_about 62 = .ok (.ireturn, 1) := by decide +kernel
theorem dX7_loss_0 : decode cX7_loss 0 = .ok (.aload_n 0, 1) := by decide +kernel
theorem dX7_loss_1 : decode cX7_loss 1 = .ok (.iload_n 1, 1) := by decide +kernel
theorem dX7_loss_2 : decode cX7_loss 2 = .ok (.iload_n 2, 1) := by decide +kernel
theorem dX7_loss_3 : decode cX7_loss 3 = .ok (.invokevirtual 127, 3) := by decide +kernel
theorem dX7_loss_6 : decode cX7_loss 6 = .ok (.ifCond .ne 6, 3) := by decide +kernel
theorem dX7_loss_9 : decode cX7_loss 9 = .ok (.bipush (-101), 2) := by decide +kernel
theorem dX7_loss_11 : decode cX7_loss 11 = .ok (.ireturn, 1) := by decide +kernel
theorem dX7_loss_12 : decode cX7_loss 12 = .ok (.iload_n 3, 1) := by decide +kernel
theorem dX7_loss_13 : decode cX7_loss 13 = .ok (.lookupswitch 51 #[(0, 27), (1, 39)], 27) := by decide +kernel
theorem dX7_loss_40 : decode cX7_loss 40 = .ok (.aload_n 0, 1) := by decide +kernel
theorem dX7_loss_41 : decode cX7_loss 41 = .ok (.getfield 25, 3) := by decide +kernel
theorem dX7_loss_44 : decode cX7_loss 44 = .ok (.iload_n 1, 1) := by decide +kernel
theorem dX7_loss_45 : decode cX7_loss 45 = .ok (.aaload, 1) := by decide +kernel
theorem dX7_loss_46 : decode cX7_loss 46 = .ok (.getfield 131, 3) := by decide +kernel
theorem dX7_loss_49 : decode cX7_loss 49 = .ok (.iload_n 2, 1) := by decide +kernel
theorem dX7_loss_50 : decode cX7_loss 50 = .ok (.iaload, 1) := by decide +kernel
theorem dX7_loss_51 : decode cX7_loss 51 = .ok (.ireturn, 1) := by decide +kernel
theorem dX7_loss_52 : decode cX7_loss 52 = .ok (.aload_n 0, 1) := by decide +kernel
theorem dX7_loss_53 : decode cX7_loss 53 = .ok (.getfield 25, 3) := by decide +kernel
theorem dX7_loss_56 : decode cX7_loss 56 = .ok (.iload_n 1, 1) := by decide +kernel
theorem dX7_loss_57 : decode cX7_loss 57 = .ok (.aaload, 1) := by decide +kernel
theorem dX7_loss_58 : decode cX7_loss 58 = .ok (.getfield 134, 3) := by decide +kernel
theorem dX7_loss_61 : decode cX7_loss 61 = .ok (.iload_n 2, 1) := by decide +kernel
theorem dX7_loss_62 : decode cX7_loss 62 = .ok (.iaload, 1) := by decide +kernel
theorem dX7_loss_63 : decode cX7_loss 63 = .ok (.ireturn, 1) := by decide +kernel
theorem dX7_loss_64 : decode cX7_loss 64 = .ok (.bipush (-102), 2) := by decide +kernel
theorem dX7_loss_66 : decode cX7_loss 66 = .ok (.ireturn, 1) := by decide +kernel
theorem dX7_as_0 : decode cX7_as 0 = .ok (.aload_n 0, 1) := by decide +kernel
theorem dX7_as_1 : decode cX7_as 1 = .ok (.iload_n 1, 1) := by decide +kernel
theorem dX7_as_2 : decode cX7_as 2 = .ok (.iload_n 2, 1) := by decide +kernel
theorem dX7_as_3 : decode cX7_as 3 = .ok (.invokevirtual 127, 3) := by decide +kernel
theorem dX7_as_6 : decode cX7_as 6 = .ok (.ifCond .ne 6, 3) := by decide +kernel
theorem dX7_as_9 : decode cX7_as 9 = .ok (.bipush (-101), 2) := by decide +kernel
theorem dX7_as_11 : decode cX7_as 11 = .ok (.ireturn, 1) := by decide +kernel
theorem dX7_as_12 : decode cX7_as 12 = .ok (.iload_n 3, 1) := by decide +kernel
theorem dX7_as_13 : decode cX7_as 13 = .ok (.iconst 0, 1) := by decide +kernel
theorem dX7_as_14 : decode cX7_as 14 = .ok (.iconst 5, 1) := by decide +kernel
theorem dX7_as_15 : decode cX7_as 15 = .ok (.invokestatic 137, 3) := by decide +kernel
theorem dX7_as_18 : decode cX7_as 18 = .ok (.ifCond .ne 6, 3) := by decide +kernel
theorem dX7_as_21 : decode cX7_as 21 = .ok (.bipush (-102), 2) := by decide +kernel
theorem dX7_as_23 : decode cX7_as 23 = .ok (.ireturn, 1) := by decide +kernel
theorem dX7_as_24 : decode cX7_as 24 = .ok (.aload_n 0, 1) := by decide +kernel
theorem dX7_as_25 : decode cX7_as 25 = .ok (.getfield 25, 3) := by decide +kernel
theorem dX7_as_28 : decode cX7_as 28 = .ok (.iload_n 1, 1) := by decide +kernel
theorem dX7_as_29 : decode cX7_as 29 = .ok (.aaload, 1) := by decide +kernel
theorem dX7_as_30 : decode cX7_as 30 = .ok (.getfield 131, 3) := by decide +kernel
theorem dX7_as_33 : decode cX7_as 33 = .ok (.iload_n 2, 1) := by decide +kernel
theorem dX7_as_34 : decode cX7_as 34 = .ok (.iaload, 1) := by decide +kernel
theorem dX7_as_35 : decode cX7_as 35 = .ok (.iload_n 3, 1) := by decide +kernel
theorem dX7_as_36 : decode cX7_as 36 = .ok (.invokestatic 141, 3) := by decide +kernel
theorem dX7_as_39 : decode cX7_as 39 = .ok (.ifCond .eq 7, 3) := by decide +kernel
theorem dX7_as_42 : decode cX7_as 42 = .ok (.iload_n 2, 1) := by decide +kernel
theorem dX7_as_43 : decode cX7_as 43 = .ok (.goto 4, 3) := by decide +kernel
theorem dX7_as_46 : decode cX7_as 46 = .ok (.iconst (-1), 1) := by decide +kernel
theorem dX7_as_47 : decode cX7_as 47 = .ok (.ireturn, 1) := by decide +kernel
theorem dX7_weigh_0 : decode cX7_weigh 0 = .ok (.aload_n 0, 1) := by decide +kernel
theorem dX7_weigh_1 : decode cX7_weigh 1 = .ok (.iload_n 1, 1) := by decide +kernel
theorem dX7_weigh_2 : decode cX7_weigh 2 = .ok (.invokevirtual 121, 3) := by decide +kernel
theorem dX7_weigh_5 : decode cX7_weigh 5 = .ok (.ifCond .ne 6, 3) := by decide +kernel
theorem dX7_weigh_8 : decode cX7_weigh 8 = .ok (.bipush (-101), 2) := by decide +kernel
theorem dX7_weigh_10 : decode cX7_weigh 10 = .ok (.ireturn, 1) := by decide +kernel
theorem dX7_weigh_11 : decode cX7_weigh 11 = .ok (.iload_n 2, 1) := by decide +kernel
theorem dX7_weigh_12 : decode cX7_weigh 12 = .ok (.bipush 10, 2) := by decide +kernel
theorem dX7_weigh_14 : decode cX7_weigh 14 = .ok (.bipush 99, 2) := by decide +kernel
theorem dX7_weigh_16 : decode cX7_weigh 16 = .ok (.invokestatic 137, 3) := by decide +kernel
theorem dX7_weigh_19 : decode cX7_weigh 19 = .ok (.ifCond .ne 6, 3) := by decide +kernel
theorem dX7_weigh_22 : decode cX7_weigh 22 = .ok (.bipush (-102), 2) := by decide +kernel
theorem dX7_weigh_24 : decode cX7_weigh 24 = .ok (.ireturn, 1) := by decide +kernel
theorem dX7_weigh_25 : decode cX7_weigh 25 = .ok (.aload_n 0, 1) := by decide +kernel
theorem dX7_weigh_26 : decode cX7_weigh 26 = .ok (.getfield 25, 3) := by decide +kernel
theorem dX7_weigh_29 : decode cX7_weigh 29 = .ok (.iload_n 1, 1) := by decide +kernel
theorem dX7_weigh_30 : decode cX7_weigh 30 = .ok (.aaload, 1) := by decide +kernel
theorem dX7_weigh_31 : decode cX7_weigh 31 = .ok (.getfield 123, 3) := by decide +kernel
theorem dX7_weigh_34 : decode cX7_weigh 34 = .ok (.istore_n 3, 1) := by decide +kernel
theorem dX7_weigh_35 : decode cX7_weigh 35 = .ok (.aload_n 0, 1) := by decide +kernel
theorem dX7_weigh_36 : decode cX7_weigh 36 = .ok (.getfield 25, 3) := by decide +kernel
theorem dX7_weigh_39 : decode cX7_weigh 39 = .ok (.iload_n 1, 1) := by decide +kernel
theorem dX7_weigh_40 : decode cX7_weigh 40 = .ok (.aaload, 1) := by decide +kernel
theorem dX7_weigh_41 : decode cX7_weigh 41 = .ok (.iload_n 2, 1) := by decide +kernel
theorem dX7_weigh_42 : decode cX7_weigh 42 = .ok (.putfield 123, 3) := by decide +kernel
theorem dX7_weigh_45 : decode cX7_weigh 45 = .ok (.iload_n 3, 1) := by decide +kernel
theorem dX7_weigh_46 : decode cX7_weigh 46 = .ok (.ireturn, 1) := by decide +kernel
theorem dX7_grip_0 : decode cX7_grip 0 = .ok (.iload_n 1, 1) := by decide +kernel
theorem dX7_grip_1 : decode cX7_grip 1 = .ok (.iconst 1, 1) := by decide +kernel
theorem dX7_grip_2 : decode cX7_grip 2 = .ok (.bipush 99, 2) := by decide +kernel
theorem dX7_grip_4 : decode cX7_grip 4 = .ok (.invokestatic 137, 3) := by decide +kernel
theorem dX7_grip_7 : decode cX7_grip 7 = .ok (.ifCond .ne 6, 3) := by decide +kernel
theorem dX7_grip_10 : decode cX7_grip 10 = .ok (.bipush (-102), 2) := by decide +kernel
theorem dX7_grip_12 : decode cX7_grip 12 = .ok (.ireturn, 1) := by decide +kernel
theorem dX7_grip_13 : decode cX7_grip 13 = .ok (.aload_n 0, 1) := by decide +kernel
theorem dX7_grip_14 : decode cX7_grip 14 = .ok (.getfield 71, 3) := by decide +kernel
theorem dX7_grip_17 : decode cX7_grip 17 = .ok (.istore_n 2, 1) := by decide +kernel
theorem dX7_grip_18 : decode cX7_grip 18 = .ok (.aload_n 0, 1) := by decide +kernel
theorem dX7_grip_19 : decode cX7_grip 19 = .ok (.iload_n 1, 1) := by decide +kernel
theorem dX7_grip_20 : decode cX7_grip 20 = .ok (.putfield 71, 3) := by decide +kernel
theorem dX7_grip_23 : decode cX7_grip 23 = .ok (.iload_n 2, 1) := by decide +kernel
theorem dX7_grip_24 : decode cX7_grip 24 = .ok (.ireturn, 1) := by decide +kernel
theorem dX7_brake_0 : decode cX7_brake 0 = .ok (.aload_n 0, 1) := by decide +kernel
theorem dX7_brake_1 : decode cX7_brake 1 = .ok (.iload_n 1, 1) := by decide +kernel
theorem dX7_brake_2 : decode cX7_brake 2 = .ok (.invokevirtual 105, 3) := by decide +kernel
theorem dX7_brake_5 : decode cX7_brake 5 = .ok (.ifCond .ne 6, 3) := by decide +kernel
theorem dX7_brake_8 : decode cX7_brake 8 = .ok (.bipush (-101), 2) := by decide +kernel
theorem dX7_brake_10 : decode cX7_brake 10 = .ok (.ireturn, 1) := by decide +kernel
theorem dX7_brake_11 : decode cX7_brake 11 = .ok (.iload_n 2, 1) := by decide +kernel
theorem dX7_brake_12 : decode cX7_brake 12 = .ok (.iconst 0, 1) := by decide +kernel
theorem dX7_brake_13 : decode cX7_brake 13 = .ok (.bipush 9, 2) := by decide +kernel
theorem dX7_brake_15 : decode cX7_brake 15 = .ok (.invokestatic 137, 3) := by decide +kernel
theorem dX7_brake_18 : decode cX7_brake 18 = .ok (.ifCond .ne 6, 3) := by decide +kernel
theorem dX7_brake_21 : decode cX7_brake 21 = .ok (.bipush (-102), 2) := by decide +kernel
theorem dX7_brake_23 : decode cX7_brake 23 = .ok (.ireturn, 1) := by decide +kernel
theorem dX7_brake_24 : decode cX7_brake 24 = .ok (.aload_n 0, 1) := by decide +kernel
theorem dX7_brake_25 : decode cX7_brake 25 = .ok (.getfield 19, 3) := by decide +kernel
theorem dX7_brake_28 : decode cX7_brake 28 = .ok (.getfield 118, 3) := by decide +kernel
theorem dX7_brake_31 : decode cX7_brake 31 = .ok (.iload_n 1, 1) := by decide +kernel
theorem dX7_brake_32 : decode cX7_brake 32 = .ok (.iaload, 1) := by decide +kernel
theorem dX7_brake_33 : decode cX7_brake 33 = .ok (.istore_n 3, 1) := by decide +kernel
theorem dX7_brake_34 : decode cX7_brake 34 = .ok (.aload_n 0, 1) := by decide +kernel
theorem dX7_brake_35 : decode cX7_brake 35 = .ok (.getfield 19, 3) := by decide +kernel
theorem dX7_brake_38 : decode cX7_brake 38 = .ok (.getfield 118, 3) := by decide +kernel
theorem dX7_brake_41 : decode cX7_brake 41 = .ok (.iload_n 1, 1) := by decide +kernel
theorem dX7_brake_42 : decode cX7_brake 42 = .ok (.iload_n 2, 1) := by decide +kernel
theorem dX7_brake_43 : decode cX7_brake 43 = .ok (.iastore, 1) := by decide +kernel
theorem dX7_brake_44 : decode cX7_brake 44 = .ok (.iload_n 3, 1) := by decide +kernel
theorem dX7_brake_45 : decode cX7_brake 45 = .ok (.ireturn, 1) := by decide +kernel
theorem dX7_run_0 : decode cX7_run 0 = .ok (.aload_n 0, 1) := by decide +kernel
theorem dX7_run_1 : decode cX7_run 1 = .ok (.iload_n 1, 1) := by decide +kernel
theorem dX7_run_2 : decode cX7_run 2 = .ok (.iload_n 2, 1) := by decide +kernel
theorem dX7_run_3 : decode cX7_run 3 = .ok (.iload_n 3, 1) := by decide +kernel
theorem dX7_run_4 : decode cX7_run 4 = .ok (.iconst 0, 1) := by decide +kernel
theorem dX7_run_5 : decode cX7_run 5 = .ok (.iconst 3, 1) := by decide +kernel
theorem dX7_run_6 : decode cX7_run 6 = .ok (.invokestatic 137, 3) := by decide +kernel
theorem dX7_run_9 : decode cX7_run 9 = .ok (.invokevirtual 144, 3) := by decide +kernel
theorem dX7_run_12 : decode cX7_run 12 = .ok (.istore 4, 2) := by decide +kernel
theorem dX7_run_14 : decode cX7_run 14 = .ok (.iload 4, 2) := by decide +kernel
theorem dX7_run_16 : decode cX7_run 16 = .ok (.ifCond .eq 6, 3) := by decide +kernel
theorem dX7_run_19 : decode cX7_run 19 = .ok (.iload 4, 2) := by decide +kernel
theorem dX7_run_21 : decode cX7_run 21 = .ok (.ireturn, 1) := by decide +kernel
theorem dX7_run_22 : decode cX7_run 22 = .ok (.aload_n 0, 1) := by decide +kernel
theorem dX7_run_23 : decode cX7_run 23 = .ok (.iload_n 1, 1) := by decide +kernel
theorem dX7_run_24 : decode cX7_run 24 = .ok (.iload_n 2, 1) := by decide +kernel
theorem dX7_run_25 : decode cX7_run 25 = .ok (.invokevirtual 148, 3) := by decide +kernel
theorem dX7_run_28 : decode cX7_run 28 = .ok (.aload_n 0, 1) := by decide +kernel
theorem dX7_run_29 : decode cX7_run 29 = .ok (.getfield 49, 3) := by decide +kernel
theorem dX7_run_32 : decode cX7_run 32 = .ok (.iload_n 3, 1) := by decide +kernel
theorem dX7_run_33 : decode cX7_run 33 = .ok (.invokevirtual 152, 3) := by decide +kernel
theorem dX7_run_36 : decode cX7_run 36 = .ok (.ireturn, 1) := by decide +kernel
theorem dX7_pace_0 : decode cX7_pace 0 = .ok (.aload_n 0, 1) := by decide +kernel
theorem dX7_pace_1 : decode cX7_pace 1 = .ok (.iload_n 1, 1) := by decide +kernel
theorem dX7_pace_2 : decode cX7_pace 2 = .ok (.invokevirtual 121, 3) := by decide +kernel
theorem dX7_pace_5 : decode cX7_pace 5 = .ok (.ifCond .eq 11, 3) := by decide +kernel
theorem dX7_pace_8 : decode cX7_pace 8 = .ok (.aload_n 0, 1) := by decide +kernel
theorem dX7_pace_9 : decode cX7_pace 9 = .ok (.iload_n 3, 1) := by decide +kernel
theorem dX7_pace_10 : decode cX7_pace 10 = .ok (.invokevirtual 105, 3) := by decide +kernel
theorem dX7_pace_13 : decode cX7_pace 13 = .ok (.ifCond .ne 6, 3) := by decide +kernel
theorem dX7_pace_16 : decode cX7_pace 16 = .ok (.bipush (-101), 2) := by decide +kernel
theorem dX7_pace_18 : decode cX7_pace 18 = .ok (.ireturn, 1) := by decide +kernel
theorem dX7_pace_19 : decode cX7_pace 19 = .ok (.iload_n 2, 1) := by decide +kernel
theorem dX7_pace_20 : decode cX7_pace 20 = .ok (.invokestatic 156, 3) := by decide +kernel
theorem dX7_pace_23 : decode cX7_pace 23 = .ok (.ifCond .ne 6, 3) := by decide +kernel
theorem dX7_pace_26 : decode cX7_pace 26 = .ok (.bipush (-102), 2) := by decide +kernel
theorem dX7_pace_28 : decode cX7_pace 28 = .ok (.ireturn, 1) := by decide +kernel
theorem dX7_pace_29 : decode cX7_pace 29 = .ok (.aload_n 0, 1) := by decide +kernel
theorem dX7_pace_30 : decode cX7_pace 30 = .ok (.iload_n 1, 1) := by decide +kernel
theorem dX7_pace_31 : decode cX7_pace 31 = .ok (.iload_n 2, 1) := by decide +kernel
theorem dX7_pace_32 : decode cX7_pace 32 = .ok (.invokevirtual 148, 3) := by decide +kernel
theorem dX7_pace_35 : decode cX7_pace 35 = .ok (.aload_n 0, 1) := by decide +kernel
theorem dX7_pace_36 : decode cX7_pace 36 = .ok (.getfield 49, 3) := by decide +kernel
theorem dX7_pace_39 : decode cX7_pace 39 = .ok (.getfield 159, 3) := by decide +kernel
theorem dX7_pace_42 : decode cX7_pace 42 = .ok (.iload_n 3, 1) := by decide +kernel
theorem dX7_pace_43 : decode cX7_pace 43 = .ok (.iaload, 1) := by decide +kernel
theorem dX7_pace_44 : decode cX7_pace 44 = .ok (.ireturn, 1) := by decide +kernel
theorem dX7_lost_0 : decode cX7_lost 0 = .ok (.iload_n 3, 1) := by decide +kernel
theorem dX7_lost_1 : decode cX7_lost 1 = .ok (.iconst (-1), 1) := by decide +kernel
theorem dX7_lost_2 : decode cX7_lost 2 = .ok (.if_icmp .eq 15, 3) := by decide +kernel
theorem dX7_lost_5 : decode cX7_lost 5 = .ok (.aload_n 0, 1) := by decide +kernel
theorem dX7_lost_6 : decode cX7_lost 6 = .ok (.iload_n 1, 1) := by decide +kernel
theorem dX7_lost_7 : decode cX7_lost 7 = .ok (.iload_n 3, 1) := by decide +kernel
theorem dX7_lost_8 : decode cX7_lost 8 = .ok (.invokevirtual 127, 3) := by decide +kernel
theorem dX7_lost_11 : decode cX7_lost 11 = .ok (.ifCond .ne 6, 3) := by decide +kernel
theorem dX7_lost_14 : decode cX7_lost 14 = .ok (.bipush (-101), 2) := by decide +kernel
theorem dX7_lost_16 : decode cX7_lost 16 = .ok (.ireturn, 1) := by decide +kernel
theorem dX7_lost_17 : decode cX7_lost 17 = .ok (.aload_n 0, 1) := by decide +kernel
theorem dX7_lost_18 : decode cX7_lost 18 = .ok (.iload_n 1, 1) := by decide +kernel
theorem dX7_lost_19 : decode cX7_lost 19 = .ok (.iload_n 2, 1) := by decide +kernel
theorem dX7_lost_20 : decode cX7_lost 20 = .ok (.iconst 1, 1) := by decide +kernel
theorem dX7_lost_21 : decode cX7_lost 21 = .ok (.invokevirtual 144, 3) := by decide +kernel
theorem dX7_lost_24 : decode cX7_lost 24 = .ok (.istore 4, 2) := by decide +kernel
theorem dX7_lost_26 : decode cX7_lost 26 = .ok (.iload 4, 2) := by decide +kernel
theorem dX7_lost_28 : decode cX7_lost 28 = .ok (.ifCond .eq 6, 3) := by decide +kernel
theorem dX7_lost_31 : decode cX7_lost 31 = .ok (.iload 4, 2) := by decide +kernel
theorem dX7_lost_33 : decode cX7_lost 33 = .ok (.ireturn, 1) := by decide +kernel
theorem dX7_lost_34 : decode cX7_lost 34 = .ok (.aload_n 0, 1) := by decide +kernel
theorem dX7_lost_35 : decode cX7_lost 35 = .ok (.iload_n 1, 1) := by decide +kernel
theorem dX7_lost_36 : decode cX7_lost 36 = .ok (.iload_n 2, 1) := by decide +kernel
theorem dX7_lost_37 : decode cX7_lost 37 = .ok (.invokevirtual 148, 3) := by decide +kernel
theorem dX7_lost_40 : decode cX7_lost 40 = .ok (.iload_n 3, 1) := by decide +kernel
theorem dX7_lost_41 : decode cX7_lost 41 = .ok (.iconst (-1), 1) := by decide +kernel
theorem dX7_lost_42 : decode cX7_lost 42 = .ok (.if_icmp .ne 13, 3) := by decide +kernel
theorem dX7_lost_45 : decode cX7_lost 45 = .ok (.aload_n 0, 1) := by decide +kernel
theorem dX7_lost_46 : decode cX7_lost 46 = .ok (.getfield 49, 3) := by decide +kernel
theorem dX7_lost_49 : decode cX7_lost 49 = .ok (.getfield 162, 3) := by decide +kernel
theorem dX7_lost_52 : decode cX7_lost 52 = .ok (.goto 12, 3) := by decide +kernel
theorem dX7_lost_55 : decode cX7_lost 55 = .ok (.aload_n 0, 1) := by decide +kernel
theorem dX7_lost_56 : decode cX7_lost 56 = .ok (.getfield 49, 3) := by decide +kernel
theorem dX7_lost_59 : decode cX7_lost 59 = .ok (.getfield 165, 3) := by decide +kernel
theorem dX7_lost_62 : decode cX7_lost 62 = .ok (.iload_n 3, 1) := by decide +kernel
theorem dX7_lost_63 : decode cX7_lost 63 = .ok (.iaload, 1) := by decide +kernel
theorem dX7_lost_64 : decode cX7_lost 64 = .ok (.ireturn, 1) := by decide +kernel
theorem dX7_bestBrakes_0 : decode cX7_bestBrakes 0 = .ok (.aload_n 0, 1) := by decide +kernel
theorem dX7_bestBrakes_1 : decode cX7_bestBrakes 1 = .ok (.iload_n 1, 1) := by decide +kernel
theorem dX7_bestBrakes_2 : decode cX7_bestBrakes 2 = .ok (.iload_n 2, 1) := by decide +kernel
theorem dX7_bestBrakes_3 : decode cX7_bestBrakes 3 = .ok (.iload_n 3, 1) := by decide +kernel
theorem dX7_bestBrakes_4 : decode cX7_bestBrakes 4 = .ok (.iconst 0, 1) := by decide +kernel
theorem dX7_bestBrakes_5 : decode cX7_bestBrakes 5 = .ok (.iconst 4, 1) := by decide +kernel
theorem dX7_bestBrakes_6 : decode cX7_bestBrakes 6 = .ok (.invokestatic 137, 3) := by decide +kernel
theorem dX7_bestBrakes_9 : decode cX7_bestBrakes 9 = .ok (.invokevirtual 144, 3) := by decide +kernel
theorem dX7_bestBrakes_12 : decode cX7_bestBrakes 12 = .ok (.istore 4, 2) := by decide +kernel
theorem dX7_bestBrakes_14 : decode cX7_bestBrakes 14 = .ok (.iload 4, 2) := by decide +kernel
theorem dX7_bestBrakes_16 : decode cX7_bestBrakes 16 = .ok (.ifCond .eq 6, 3) := by decide +kernel
theorem dX7_bestBrakes_19 : decode cX7_bestBrakes 19 = .ok (.iload 4, 2) := by decide +kernel
theorem dX7_bestBrakes_21 : decode cX7_bestBrakes 21 = .ok (.ireturn, 1) := by decide +kernel
theorem dX7_bestBrakes_22 : decode cX7_bestBrakes 22 = .ok (.aload_n 0, 1) := by decide +kernel
theorem dX7_bestBrakes_23 : decode cX7_bestBrakes 23 = .ok (.getfield 49, 3) := by decide +kernel
theorem dX7_bestBrakes_26 : decode cX7_bestBrakes 26 = .ok (.aload_n 0, 1) := by decide +kernel
theorem dX7_bestBrakes_27 : decode cX7_bestBrakes 27 = .ok (.getfield 25, 3) := by decide +kernel
theorem dX7_bestBrakes_30 : decode cX7_bestBrakes 30 = .ok (.iload_n 1, 1) := by decide +kernel
theorem dX7_bestBrakes_31 : decode cX7_bestBrakes 31 = .ok (.aaload, 1) := by decide +kernel
theorem dX7_bestBrakes_32 : decode cX7_bestBrakes 32 = .ok (.aload_n 0, 1) := by decide +kernel
theorem dX7_bestBrakes_33 : decode cX7_bestBrakes 33 = .ok (.getfield 71, 3) := by decide +kernel
theorem dX7_bestBrakes_36 : decode cX7_bestBrakes 36 = .ok (.invokevirtual 168, 3) := by decide +kernel
theorem dX7_bestBrakes_39 : decode cX7_bestBrakes 39 = .ok (.aload_n 0, 1) := by decide +kernel
theorem dX7_bestBrakes_40 : decode cX7_bestBrakes 40 = .ok (.getfield 56, 3) := by decide +kernel
theorem dX7_bestBrakes_43 : decode cX7_bestBrakes 43 = .ok (.invokevirtual 172, 3) := by decide +kernel
theorem dX7_bestBrakes_46 : decode cX7_bestBrakes 46 = .ok (.iconst 0, 1) := by decide +kernel
theorem dX7_bestBrakes_47 : decode cX7_bestBrakes 47 = .ok (.istore 5, 2) := by decide +kernel
theorem dX7_bestBrakes_49 : decode cX7_bestBrakes 49 = .ok (.iload 5, 2) := by decide +kernel
theorem dX7_bestBrakes_51 : decode cX7_bestBrakes 51 = .ok (.sipush 256, 3) := by decide +kernel
theorem dX7_bestBrakes_54 : decode cX7_bestBrakes 54 = .ok (.if_icmp .ge 16, 3) := by decide +kernel
theorem dX7_bestBrakes_57 : decode cX7_bestBrakes 57 = .ok (.aload_n 0, 1) := by decide +kernel
theorem dX7_bestBrakes_58 : decode cX7_bestBrakes 58 = .ok (.iload 5, 2) := by decide +kernel
theorem dX7_bestBrakes_60 : decode cX7_bestBrakes 60 = .ok (.iload_n 2, 1) := by decide +kernel
theorem dX7_bestBrakes_61 : decode cX7_bestBrakes 61 = .ok (.invokevirtual 175, 3) := by decide +kernel
theorem dX7_bestBrakes_64 : decode cX7_bestBrakes 64 = .ok (.iinc 5 1, 3) := by decide +kernel
theorem dX7_bestBrakes_67 : decode cX7_bestBrakes 67 = .ok (.goto (-18), 3) := by decide +kernel
theorem dX7_bestBrakes_70 : decode cX7_bestBrakes 70 = .ok (.iload_n 3, 1) := by decide +kernel
theorem dX7_bestBrakes_71 : decode cX7_bestBrakes 71 = .ok (.ifCond .eq 14, 3) := by decide +kernel
theorem dX7_bestBrakes_74 : decode cX7_bestBrakes 74 = .ok (.aload_n 0, 1) := by decide +kernel
theorem dX7_bestBrakes_75 : decode cX7_bestBrakes 75 = .ok (.getfield 56, 3) := by decide +kernel
theorem dX7_bestBrakes_78 : decode cX7_bestBrakes 78 = .ok (.getfield 178, 3) := by decide +kernel
theorem dX7_bestBrakes_81 : decode cX7_bestBrakes 81 = .ok (.iconst (-1), 1) := by decide +kernel
theorem dX7_bestBrakes_82 : decode cX7_bestBrakes 82 = .ok (.if_icmp .ne 11, 3) := by decide +kernel
theorem dX7_bestBrakes_85 : decode cX7_bestBrakes 85 = .ok (.aload_n 0, 1) := by decide +kernel
theorem dX7_bestBrakes_86 : decode cX7_bestBrakes 86 = .ok (.getfield 56, 3) := by decide +kernel
theorem dX7_bestBrakes_89 : decode cX7_bestBrakes 89 = .ok (.getfield 178, 3) := by decide +kernel
theorem dX7_bestBrakes_92 : decode cX7_bestBrakes 92 = .ok (.ireturn, 1) := by decide +kernel
theorem dX7_bestBrakes_93 : decode cX7_bestBrakes 93 = .ok (.aload_n 0, 1) := by decide +kernel
theorem dX7_bestBrakes_94 : decode cX7_bestBrakes 94 = .ok (.iload_n 3, 1) := by decide +kernel
theorem dX7_bestBrakes_95 : decode cX7_bestBrakes 95 = .ok (.iconst 1, 1) := by decide +kernel
theorem dX7_bestBrakes_96 : decode cX7_bestBrakes 96 = .ok (.isub, 1) := by decide +kernel
theorem dX7_bestBrakes_97 : decode cX7_bestBrakes 97 = .ok (.invokevirtual 181, 3) := by decide +kernel
theorem dX7_bestBrakes_100 : decode cX7_bestBrakes 100 = .ok (.ifCond .eq 21, 3) := by decide +kernel
theorem dX7_bestBrakes_103 : decode cX7_bestBrakes 103 = .ok (.iconst 3, 1) := by decide +kernel
theorem dX7_bestBrakes_104 : decode cX7_bestBrakes 104 = .ok (.aload_n 0, 1) := by decide +kernel
theorem dX7_bestBrakes_105 : decode cX7_bestBrakes 105 = .ok (.getfield 56, 3) := by decide +kernel
theorem dX7_bestBrakes_108 : decode cX7_bestBrakes 108 = .ok (.getfield 184, 3) := by decide +kernel
theorem dX7_bestBrakes_111 : decode cX7_bestBrakes 111 = .ok (.iload_n 3, 1) := by decide +kernel
theorem dX7_bestBrakes_112 : decode cX7_bestBrakes 112 = .ok (.iconst 1, 1) := by decide +kernel
theorem dX7_bestBrakes_113 : decode cX7_bestBrakes 113 = .ok (.isub, 1) := by decide +kernel
theorem dX7_bestBrakes_114 : decode cX7_bestBrakes 114 = .ok (.invokestatic 187, 3) := by decide +kernel
theorem dX7_bestBrakes_117 : decode cX7_bestBrakes 117 = .ok (.imul, 1) := by decide +kernel
theorem dX7_bestBrakes_118 : decode cX7_bestBrakes 118 = .ok (.goto 4, 3) := by decide +kernel
theorem dX7_bestBrakes_121 : decode cX7_bestBrakes 121 = .ok (.iconst (-1), 1) := by decide +kernel
theorem dX7_bestBrakes_122 : decode cX7_bestBrakes 122 = .ok (.ireturn, 1) := by decide +kernel
theorem dX7_bestPush_0 : decode cX7_bestPush 0 = .ok (.aload_n 0, 1) := by decide +kernel
theorem dX7_bestPush_1 : decode cX7_bestPush 1 = .ok (.iload_n 1, 1) := by decide +kernel
theorem dX7_bestPush_2 : decode cX7_bestPush 2 = .ok (.iconst 0, 1) := by decide +kernel
theorem dX7_bestPush_3 : decode cX7_bestPush 3 = .ok (.iload_n 2, 1) := by decide +kernel
theorem dX7_bestPush_4 : decode cX7_bestPush 4 = .ok (.iconst 1, 1) := by decide +kernel
theorem dX7_bestPush_5 : decode cX7_bestPush 5 = .ok (.bipush 99, 2) := by decide +kernel
theorem dX7_bestPush_7 : decode cX7_bestPush 7 = .ok (.invokestatic 137, 3) := by decide +kernel
theorem dX7_bestPush_10 : decode cX7_bestPush 10 = .ok (.ifCond .eq 16, 3) := by decide +kernel
theorem dX7_bestPush_13 : decode cX7_bestPush 13 = .ok (.iload_n 3, 1) := by decide +kernel
theorem dX7_bestPush_14 : decode cX7_bestPush 14 = .ok (.iconst 0, 1) := by decide +kernel
theorem dX7_bestPush_15 : decode cX7_bestPush 15 = .ok (.iconst 1, 1) := by decide +kernel
theorem dX7_bestPush_16 : decode cX7_bestPush 16 = .ok (.invokestatic 137, 3) := by decide +kernel
theorem dX7_bestPush_19 : decode cX7_bestPush 19 = .ok (.ifCond .eq 7, 3) := by decide +kernel
theorem dX7_bestPush_22 : decode cX7_bestPush 22 = .ok (.iconst 1, 1) := by decide +kernel
theorem dX7_bestPush_23 : decode cX7_bestPush 23 = .ok (.goto 4, 3) := by decide +kernel
theorem dX7_bestPush_26 : decode cX7_bestPush 26 = .ok (.iconst 0, 1) := by decide +kernel
theorem dX7_bestPush_27 : decode cX7_bestPush 27 = .ok (.invokevirtual 144, 3) := by decide +kernel
theorem dX7_bestPush_30 : decode cX7_bestPush 30 = .ok (.istore 4, 2) := by decide +kernel
theorem dX7_bestPush_32 : decode cX7_bestPush 32 = .ok (.iload 4, 2) := by decide +kernel
theorem dX7_bestPush_34 : decode cX7_bestPush 34 = .ok (.ifCond .eq 6, 3) := by decide +kernel
theorem dX7_bestPush_37 : decode cX7_bestPush 37 = .ok (.iload 4, 2) := by decide +kernel
theorem dX7_bestPush_39 : decode cX7_bestPush 39 = .ok (.ireturn, 1) := by decide +kernel
theorem dX7_bestPush_40 : decode cX7_bestPush 40 = .ok (.aload_n 0, 1) := by decide +kernel
theorem dX7_bestPush_41 : decode cX7_bestPush 41 = .ok (.getfield 49, 3) := by decide +kernel
theorem dX7_bestPush_44 : decode cX7_bestPush 44 = .ok (.aload_n 0, 1) := by decide +kernel
theorem dX7_bestPush_45 : decode cX7_bestPush 45 = .ok (.getfield 25, 3) := by decide +kernel
theorem dX7_bestPush_48 : decode cX7_bestPush 48 = .ok (.iload_n 1, 1) := by decide +kernel
theorem dX7_bestPush_49 : decode cX7_bestPush 49 = .ok (.aaload, 1) := by decide +kernel
theorem dX7_bestPush_50 : decode cX7_bestPush 50 = .ok (.aload_n 0, 1) := by decide +kernel
theorem dX7_bestPush_51 : decode cX7_bestPush 51 = .ok (.getfield 71, 3) := by decide +kernel
theorem dX7_bestPush_54 : decode cX7_bestPush 54 = .ok (.invokevirtual 168, 3) := by decide +kernel
theorem dX7_bestPush_57 : decode cX7_bestPush 57 = .ok (.aload_n 0, 1) := by decide +kernel
theorem dX7_bestPush_58 : decode cX7_bestPush 58 = .ok (.getfield 56, 3) := by decide +kernel
theorem dX7_bestPush_61 : decode cX7_bestPush 61 = .ok (.invokevirtual 172, 3) := by decide +kernel
theorem dX7_bestPush_64 : decode cX7_bestPush 64 = .ok (.iconst 0, 1) := by decide +kernel
theorem dX7_bestPush_65 : decode cX7_bestPush 65 = .ok (.istore 5, 2) := by decide +kernel
theorem dX7_bestPush_67 : decode cX7_bestPush 67 = .ok (.iload 5, 2) := by decide +kernel
theorem dX7_bestPush_69 : decode cX7_bestPush 69 = .ok (.bipush 20, 2) := by decide +kernel
theorem dX7_bestPush_71 : decode cX7_bestPush 71 = .ok (.if_icmp .gt 66, 3) := by decide +kernel
theorem dX7_bestPush_74 : decode cX7_bestPush 74 = .ok (.aload_n 0, 1) := by decide +kernel
theorem dX7_bestPush_75 : decode cX7_bestPush 75 = .ok (.getfield 49, 3) := by decide +kernel
theorem dX7_bestPush_78 : decode cX7_bestPush 78 = .ok (.iload 5, 2) := by decide +kernel
theorem dX7_bestPush_80 : decode cX7_bestPush 80 = .ok (.iload_n 2, 1) := by decide +kernel
theorem dX7_bestPush_81 : decode cX7_bestPush 81 = .ok (.imul, 1) := by decide +kernel
theorem dX7_bestPush_82 : decode cX7_bestPush 82 = .ok (.bipush 10, 2) := by decide +kernel
theorem dX7_bestPush_84 : decode cX7_bestPush 84 = .ok (.imul, 1) := by decide +kernel
theorem dX7_bestPush_85 : decode cX7_bestPush 85 = .ok (.aload_n 0, 1) := by decide +kernel
theorem dX7_bestPush_86 : decode cX7_bestPush 86 = .ok (.getfield 49, 3) := by decide +kernel
theorem dX7_bestPush_89 : decode cX7_bestPush 89 = .ok (.getfield 191, 3) := by decide +kernel
theorem dX7_bestPush_92 : decode cX7_bestPush 92 = .ok (.invokestatic 192, 3) := by decide +kernel
theorem dX7_bestPush_95 : decode cX7_bestPush 95 = .ok (.invokevirtual 195, 3) := by decide +kernel
theorem dX7_bestPush_98 : decode cX7_bestPush 98 = .ok (.aload_n 0, 1) := by decide +kernel
theorem dX7_bestPush_99 : decode cX7_bestPush 99 = .ok (.getfield 49, 3) := by decide +kernel
theorem dX7_bestPush_102 : decode cX7_bestPush 102 = .ok (.getfield 198, 3) := by decide +kernel
theorem dX7_bestPush_105 : decode cX7_bestPush 105 = .ok (.ifCond .ne 26, 3) := by decide +kernel
theorem dX7_bestPush_108 : decode cX7_bestPush 108 = .ok (.aload_n 0, 1) := by decide +kernel
theorem dX7_bestPush_109 : decode cX7_bestPush 109 = .ok (.getfield 56, 3) := by decide +kernel
theorem dX7_bestPush_112 : decode cX7_bestPush 112 = .ok (.aload_n 0, 1) := by decide +kernel
theorem dX7_bestPush_113 : decode cX7_bestPush 113 = .ok (.getfield 49, 3) := by decide +kernel
theorem dX7_bestPush_116 : decode cX7_bestPush 116 = .ok (.getfield 201, 3) := by decide +kernel
theorem dX7_bestPush_119 : decode cX7_bestPush 119 = .ok (.bipush 60, 2) := by decide +kernel
theorem dX7_bestPush_121 : decode cX7_bestPush 121 = .ok (.iload 5, 2) := by decide +kernel
theorem dX7_bestPush_123 : decode cX7_bestPush 123 = .ok (.imul, 1) := by decide +kernel
theorem dX7_bestPush_124 : decode cX7_bestPush 124 = .ok (.iadd, 1) := by decide +kernel
theorem dX7_bestPush_125 : decode cX7_bestPush 125 = .ok (.iload 5, 2) := by decide +kernel
theorem dX7_bestPush_127 : decode cX7_bestPush 127 = .ok (.invokevirtual 202, 3) := by decide +kernel
theorem dX7_bestPush_130 : decode cX7_bestPush 130 = .ok (.pop, 1) := by decide +kernel
theorem dX7_bestPush_131 : decode cX7_bestPush 131 = .ok (.iinc 5 1, 3) := by decide +kernel
theorem dX7_bestPush_134 : decode cX7_bestPush 134 = .ok (.goto (-67), 3) := by decide +kernel
theorem dX7_bestPush_137 : decode cX7_bestPush 137 = .ok (.iload_n 3, 1) := by decide +kernel
theorem dX7_bestPush_138 : decode cX7_bestPush 138 = .ok (.ifCond .ne 13, 3) := by decide +kernel
theorem dX7_bestPush_141 : decode cX7_bestPush 141 = .ok (.aload_n 0, 1) := by decide +kernel
theorem dX7_bestPush_142 : decode cX7_bestPush 142 = .ok (.getfield 56, 3) := by decide +kernel
theorem dX7_bestPush_145 : decode cX7_bestPush 145 = .ok (.getfield 184, 3) := by decide +kernel
theorem dX7_bestPush_148 : decode cX7_bestPush 148 = .ok (.goto 10, 3) := by decide +kernel
theorem dX7_bestPush_151 : decode cX7_bestPush 151 = .ok (.aload_n 0, 1) := by decide +kernel
theorem dX7_bestPush_152 : decode cX7_bestPush 152 = .ok (.getfield 56, 3) := by decide +kernel
theorem dX7_bestPush_155 : decode cX7_bestPush 155 = .ok (.getfield 178, 3) := by decide +kernel
theorem dX7_bestPush_158 : decode cX7_bestPush 158 = .ok (.ireturn, 1) := by decide +kernel
theorem dX7_work_0 : decode cX7_work 0 = .ok (.aload_n 0, 1) := by decide +kernel
theorem dX7_work_1 : decode cX7_work 1 = .ok (.iload_n 1, 1) := by decide +kernel
theorem dX7_work_2 : decode cX7_work 2 = .ok (.iload_n 2, 1) := by decide +kernel
theorem dX7_work_3 : decode cX7_work 3 = .ok (.iload_n 3, 1) := by decide +kernel
theorem dX7_work_4 : decode cX7_work 4 = .ok (.iconst 0, 1) := by decide +kernel
theorem dX7_work_5 : decode cX7_work 5 = .ok (.bipush 6, 2) := by decide +kernel
theorem dX7_work_7 : decode cX7_work 7 = .ok (.invokestatic 137, 3) := by decide +kernel
theorem dX7_work_10 : decode cX7_work 10 = .ok (.ifCond .eq 17, 3) := by decide +kernel
theorem dX7_work_13 : decode cX7_work 13 = .ok (.iload 4, 2) := by decide +kernel
theorem dX7_work_15 : decode cX7_work 15 = .ok (.iconst 0, 1) := by decide +kernel
theorem dX7_work_16 : decode cX7_work 16 = .ok (.iconst 5, 1) := by decide +kernel
theorem dX7_work_17 : decode cX7_work 17 = .ok (.invokestatic 137, 3) := by decide +kernel
theorem dX7_work_20 : decode cX7_work 20 = .ok (.ifCond .eq 7, 3) := by decide +kernel
theorem dX7_work_23 : decode cX7_work 23 = .ok (.iconst 1, 1) := by decide +kernel
theorem dX7_work_24 : decode cX7_work 24 = .ok (.goto 4, 3) := by decide +kernel
theorem dX7_work_27 : decode cX7_work 27 = .ok (.iconst 0, 1) := by decide +kernel
theorem dX7_work_28 : decode cX7_work 28 = .ok (.invokevirtual 144, 3) := by decide +kernel
theorem dX7_work_31 : decode cX7_work 31 = .ok (.istore 5, 2) := by decide +kernel
theorem dX7_work_33 : decode cX7_work 33 = .ok (.iload 5, 2) := by decide +kernel
theorem dX7_work_35 : decode cX7_work 35 = .ok (.ifCond .eq 6, 3) := by decide +kernel
theorem dX7_work_38 : decode cX7_work 38 = .ok (.iload 5, 2) := by decide +kernel
theorem dX7_work_40 : decode cX7_work 40 = .ok (.ireturn, 1) := by decide +kernel
theorem dX7_work_41 : decode cX7_work 41 = .ok (.aload_n 0, 1) := by decide +kernel
theorem dX7_work_42 : decode cX7_work 42 = .ok (.getfield 49, 3) := by decide +kernel
theorem dX7_work_45 : decode cX7_work 45 = .ok (.aload_n 0, 1) := by decide +kernel
theorem dX7_work_46 : decode cX7_work 46 = .ok (.getfield 25, 3) := by decide +kernel
theorem dX7_work_49 : decode cX7_work 49 = .ok (.iload_n 1, 1) := by decide +kernel
theorem dX7_work_50 : decode cX7_work 50 = .ok (.aaload, 1) := by decide +kernel
theorem dX7_work_51 : decode cX7_work 51 = .ok (.aload_n 0, 1) := by decide +kernel
theorem dX7_work_52 : decode cX7_work 52 = .ok (.getfield 71, 3) := by decide +kernel
theorem dX7_work_55 : decode cX7_work 55 = .ok (.invokevirtual 168, 3) := by decide +kernel
theorem dX7_work_58 : decode cX7_work 58 = .ok (.aload_n 0, 1) := by decide +kernel
theorem dX7_work_59 : decode cX7_work 59 = .ok (.getfield 56, 3) := by decide +kernel
theorem dX7_work_62 : decode cX7_work 62 = .ok (.invokevirtual 172, 3) := by decide +kernel
theorem dX7_work_65 : decode cX7_work 65 = .ok (.iconst 1, 1) := by decide +kernel
theorem dX7_work_66 : decode cX7_work 66 = .ok (.istore 6, 2) := by decide +kernel
theorem dX7_work_68 : decode cX7_work 68 = .ok (.iconst 0, 1) := by decide +kernel
theorem dX7_work_69 : decode cX7_work 69 = .ok (.istore 7, 2) := by decide +kernel
theorem dX7_work_71 : decode cX7_work 71 = .ok (.iload 6, 2) := by decide +kernel
theorem dX7_work_73 : decode cX7_work 73 = .ok (.ifCond .eq 78, 3) := by decide +kernel
theorem dX7_work_76 : decode cX7_work 76 = .ok (.iload 7, 2) := by decide +kernel
theorem dX7_work_78 : decode cX7_work 78 = .ok (.sipush 1000, 3) := by decide +kernel
theorem dX7_work_81 : decode cX7_work 81 = .ok (.if_icmp .ge 70, 3) := by decide +kernel
theorem dX7_work_84 : decode cX7_work 84 = .ok (.aload_n 0, 1) := by decide +kernel
theorem dX7_work_85 : decode cX7_work 85 = .ok (.getfield 49, 3) := by decide +kernel
theorem dX7_work_88 : decode cX7_work 88 = .ok (.iload_n 2, 1) := by decide +kernel
theorem dX7_work_89 : decode cX7_work 89 = .ok (.invokevirtual 195, 3) := by decide +kernel
theorem dX7_work_92 : decode cX7_work 92 = .ok (.aload_n 0, 1) := by decide +kernel
theorem dX7_work_93 : decode cX7_work 93 = .ok (.getfield 49, 3) := by decide +kernel
theorem dX7_work_96 : decode cX7_work 96 = .ok (.getfield 198, 3) := by decide +kernel
theorem dX7_work_99 : decode cX7_work 99 = .ok (.ifCond .ne 36, 3) := by decide +kernel
theorem dX7_work_102 : decode cX7_work 102 = .ok (.aload_n 0, 1) := by decide +kernel
theorem dX7_work_103 : decode cX7_work 103 = .ok (.getfield 56, 3) := by decide +kernel
theorem dX7_work_106 : decode cX7_work 106 = .ok (.aload_n 0, 1) := by decide +kernel
theorem dX7_work_107 : decode cX7_work 107 = .ok (.getfield 49, 3) := by decide +kernel
theorem dX7_work_110 : decode cX7_work 110 = .ok (.getfield 201, 3) := by decide +kernel
theorem dX7_work_113 : decode cX7_work 113 = .ok (.iload 7, 2) := by decide +kernel
theorem dX7_work_115 : decode cX7_work 115 = .ok (.invokevirtual 202, 3) := by decide +kernel
theorem dX7_work_118 : decode cX7_work 118 = .ok (.ifCond .eq 17, 3) := by decide +kernel
theorem dX7_work_121 : decode cX7_work 121 = .ok (.aload_n 0, 1) := by decide +kernel
theorem dX7_work_122 : decode cX7_work 122 = .ok (.getfield 56, 3) := by decide +kernel
theorem dX7_work_125 : decode cX7_work 125 = .ok (.aload_n 0, 1) := by decide +kernel
theorem dX7_work_126 : decode cX7_work 126 = .ok (.getfield 49, 3) := by decide +kernel
theorem dX7_work_129 : decode cX7_work 129 = .ok (.getfield 205, 3) := by decide +kernel
theorem dX7_work_132 : decode cX7_work 132 = .ok (.invokevirtual 208, 3) := by decide +kernel
theorem dX7_work_135 : decode cX7_work 135 = .ok (.aload_n 0, 1) := by decide +kernel
theorem dX7_work_136 : decode cX7_work 136 = .ok (.getfield 49, 3) := by decide +kernel
theorem dX7_work_139 : decode cX7_work 139 = .ok (.iload_n 3, 1) := by decide +kernel
theorem dX7_work_140 : decode cX7_work 140 = .ok (.invokevirtual 212, 3) := by decide +kernel
theorem dX7_work_143 : decode cX7_work 143 = .ok (.istore 6, 2) := by decide +kernel
theorem dX7_work_145 : decode cX7_work 145 = .ok (.iinc 7 1, 3) := by decide +kernel
theorem dX7_work_148 : decode cX7_work 148 = .ok (.goto (-77), 3) := by decide +kernel
theorem dX7_work_151 : decode cX7_work 151 = .ok (.iload 4, 2) := by decide +kernel
theorem dX7_work_153 : decode cX7_work 153 = .ok (.ifCond .eq 14, 3) := by decide +kernel
theorem dX7_work_156 : decode cX7_work 156 = .ok (.aload_n 0, 1) := by decide +kernel
theorem dX7_work_157 : decode cX7_work 157 = .ok (.getfield 56, 3) := by decide +kernel
theorem dX7_work_160 : decode cX7_work 160 = .ok (.getfield 178, 3) := by decide +kernel
theorem dX7_work_163 : decode cX7_work 163 = .ok (.iconst (-1), 1) := by decide +kernel
theorem dX7_work_164 : decode cX7_work 164 = .ok (.if_icmp .ne 11, 3) := by decide +kernel
theorem dX7_work_167 : decode cX7_work 167 = .ok (.aload_n 0, 1) := by decide +kernel
theorem dX7_work_168 : decode cX7_work 168 = .ok (.getfield 56, 3) := by decide +kernel
theorem dX7_work_171 : decode cX7_work 171 = .ok (.getfield 178, 3) := by decide +kernel
theorem dX7_work_174 : decode cX7_work 174 = .ok (.ireturn, 1) := by decide +kernel
theorem dX7_work_175 : decode cX7_work 175 = .ok (.iload 4, 2) := by decide +kernel
theorem dX7_work_177 : decode cX7_work 177 = .ok (.aload_n 0, 1) := by decide +kernel
theorem dX7_work_178 : decode cX7_work 178 = .ok (.getfield 49, 3) := by decide +kernel
theorem dX7_work_181 : decode cX7_work 181 = .ok (.getfield 215, 3) := by decide +kernel
theorem dX7_work_184 : decode cX7_work 184 = .ok (.if_icmp .gt 18, 3) := by decide +kernel
theorem dX7_work_187 : decode cX7_work 187 = .ok (.aload_n 0, 1) := by decide +kernel
theorem dX7_work_188 : decode cX7_work 188 = .ok (.getfield 56, 3) := by decide +kernel
theorem dX7_work_191 : decode cX7_work 191 = .ok (.getfield 216, 3) := by decide +kernel
theorem dX7_work_194 : decode cX7_work 194 = .ok (.iload 4, 2) := by decide +kernel
theorem dX7_work_196 : decode cX7_work 196 = .ok (.iconst 1, 1) := by decide +kernel
theorem dX7_work_197 : decode cX7_work 197 = .ok (.isub, 1) := by decide +kernel
theorem dX7_work_198 : decode cX7_work 198 = .ok (.iaload, 1) := by decide +kernel
theorem dX7_work_199 : decode cX7_work 199 = .ok (.goto 4, 3) := by decide +kernel
theorem dX7_work_202 : decode cX7_work 202 = .ok (.iconst (-1), 1) := by decide +kernel
theorem dX7_work_203 : decode cX7_work 203 = .ok (.ireturn, 1) := by decide +kernel
theorem dX7_weighed_0 : decode cX7_weighed 0 = .ok (.aload_n 0, 1) := by decide +kernel
theorem dX7_weighed_1 : decode cX7_weighed 1 = .ok (.iload_n 1, 1) := by decide +kernel
theorem dX7_weighed_2 : decode cX7_weighed 2 = .ok (.iload_n 2, 1) := by decide +kernel
theorem dX7_weighed_3 : decode cX7_weighed 3 = .ok (.iload_n 3, 1) := by decide +kernel
theorem dX7_weighed_4 : decode cX7_weighed 4 = .ok (.bipush 10, 2) := by decide +kernel
theorem dX7_weighed_6 : decode cX7_weighed 6 = .ok (.bipush 99, 2) := by decide +kernel
theorem dX7_weighed_8 : decode cX7_weighed 8 = .ok (.invokestatic 137, 3) := by decide +kernel
theorem dX7_weighed_11 : decode cX7_weighed 11 = .ok (.invokevirtual 144, 3) := by decide +kernel
theorem dX7_weighed_14 : decode cX7_weighed 14 = .ok (.istore 4, 2) := by decide +kernel
theorem dX7_weighed_16 : decode cX7_weighed 16 = .ok (.iload 4, 2) := by decide +kernel
theorem dX7_weighed_18 : decode cX7_weighed 18 = .ok (.ifCond .eq 6, 3) := by decide +kernel
theorem dX7_weighed_21 : decode cX7_weighed 21 = .ok (.iload 4, 2) := by decide +kernel
theorem dX7_weighed_23 : decode cX7_weighed 23 = .ok (.ireturn, 1) := by decide +kernel
theorem dX7_weighed_24 : decode cX7_weighed 24 = .ok (.aload_n 0, 1) := by decide +kernel
theorem dX7_weighed_25 : decode cX7_weighed 25 = .ok (.iload_n 1, 1) := by decide +kernel
theorem dX7_weighed_26 : decode cX7_weighed 26 = .ok (.iload_n 2, 1) := by decide +kernel
theorem dX7_weighed_27 : decode cX7_weighed 27 = .ok (.iload_n 3, 1) := by decide +kernel
theorem dX7_weighed_28 : decode cX7_weighed 28 = .ok (.invokevirtual 219, 3) := by decide +kernel
theorem dX7_weighed_31 : decode cX7_weighed 31 = .ok (.ireturn, 1) := by decide +kernel
theorem dX7_close_0 : decode cX7_close 0 = .ok (.aload_n 0, 1) := by decide +kernel
theorem dX7_close_1 : decode cX7_close 1 = .ok (.getfield 19, 3) := by decide +kernel
theorem dX7_close_4 : decode cX7_close 4 = .ok (.getfield 100, 3) := by decide +kernel
theorem dX7_close_7 : decode cX7_close 7 = .ok (.ifCond .eq 10, 3) := by decide +kernel
theorem dX7_close_10 : decode cX7_close 10 = .ok (.aload_n 0, 1) := by decide +kernel
theorem dX7_close_11 : decode cX7_close 11 = .ok (.getfield 67, 3) := by decide +kernel
theorem dX7_close_14 : decode cX7_close 14 = .ok (.ifCond .ne 6, 3) := by decide +kernel
theorem dX7_close_17 : decode cX7_close 17 = .ok (.bipush (-103), 2) := by decide +kernel
theorem dX7_close_19 : decode cX7_close 19 = .ok (.ireturn, 1) := by decide +kernel
theorem dX7_close_20 : decode cX7_close 20 = .ok (.iload_n 1, 1) := by decide +kernel
theorem dX7_close_21 : decode cX7_close 21 = .ok (.invokestatic 156, 3) := by decide +kernel
theorem dX7_close_24 : decode cX7_close 24 = .ok (.ifCond .eq 12, 3) := by decide +kernel
theorem dX7_close_27 : decode cX7_close 27 = .ok (.iload_n 2, 1) := by decide +kernel
theorem dX7_close_28 : decode cX7_close 28 = .ok (.iconst 0, 1) := by decide +kernel
theorem dX7_close_29 : decode cX7_close 29 = .ok (.iconst 1, 1) := by decide +kernel
theorem dX7_close_30 : decode cX7_close 30 = .ok (.invokestatic 137, 3) := by decide +kernel
theorem dX7_close_33 : decode cX7_close 33 = .ok (.ifCond .ne 6, 3) := by decide +kernel
theorem dX7_close_36 : decode cX7_close 36 = .ok (.bipush (-102), 2) := by decide +kernel
theorem dX7_close_38 : decode cX7_close 38 = .ok (.ireturn, 1) := by decide +kernel
theorem dX7_close_39 : decode cX7_close 39 = .ok (.aload_n 0, 1) := by decide +kernel
theorem dX7_close_40 : decode cX7_close 40 = .ok (.getfield 56, 3) := by decide +kernel
theorem dX7_close_43 : decode cX7_close 43 = .ok (.invokevirtual 172, 3) := by decide +kernel
theorem dX7_close_46 : decode cX7_close 46 = .ok (.bipush 99, 2) := by decide +kernel
theorem dX7_close_48 : decode cX7_close 48 = .ok (.istore_n 3, 1) := by decide +kernel
theorem dX7_close_49 : decode cX7_close 49 = .ok (.iload_n 3, 1) := by decide +kernel
theorem dX7_close_50 : decode cX7_close 50 = .ok (.bipush 10, 2) := by decide +kernel
theorem dX7_close_52 : decode cX7_close 52 = .ok (.if_icmp .lt 34, 3) := by decide +kernel
theorem dX7_close_55 : decode cX7_close 55 = .ok (.aload_n 0, 1) := by decide +kernel
theorem dX7_close_56 : decode cX7_close 56 = .ok (.iload_n 3, 1) := by decide +kernel
theorem dX7_close_57 : decode cX7_close 57 = .ok (.iload_n 1, 1) := by decide +kernel
theorem dX7_close_58 : decode cX7_close 58 = .ok (.invokevirtual 223, 3) := by decide +kernel
theorem dX7_close_61 : decode cX7_close 61 = .ok (.istore 4, 2) := by decide +kernel
theorem dX7_close_63 : decode cX7_close 63 = .ok (.iload 4, 2) := by decide +kernel
theorem dX7_close_65 : decode cX7_close 65 = .ok (.iconst (-1), 1) := by decide +kernel
theorem dX7_close_66 : decode cX7_close 66 = .ok (.if_icmp .eq 14, 3) := by decide +kernel
theorem dX7_close_69 : decode cX7_close 69 = .ok (.aload_n 0, 1) := by decide +kernel
theorem dX7_close_70 : decode cX7_close 70 = .ok (.getfield 56, 3) := by decide +kernel
theorem dX7_close_73 : decode cX7_close 73 = .ok (.iload 4, 2) := by decide +kernel
theorem dX7_close_75 : decode cX7_close 75 = .ok (.iload_n 3, 1) := by decide +kernel
theorem dX7_close_76 : decode cX7_close 76 = .ok (.invokevirtual 202, 3) := by decide +kernel
theorem dX7_close_79 : decode cX7_close 79 = .ok (.pop, 1) := by decide +kernel
theorem dX7_close_80 : decode cX7_close 80 = .ok (.iinc 3 (-1), 3) := by decide +kernel
theorem dX7_close_83 : decode cX7_close 83 = .ok (.goto (-34), 3) := by decide +kernel
theorem dX7_close_86 : decode cX7_close 86 = .ok (.iload_n 2, 1) := by decide +kernel
theorem dX7_close_87 : decode cX7_close 87 = .ok (.ifCond .ne 13, 3) := by decide +kernel
theorem dX7_close_90 : decode cX7_close 90 = .ok (.aload_n 0, 1) := by decide +kernel
theorem dX7_close_91 : decode cX7_close 91 = .ok (.getfield 56, 3) := by decide +kernel
theorem dX7_close_94 : decode cX7_close 94 = .ok (.getfield 184, 3) := by decide +kernel
theorem dX7_close_97 : decode cX7_close 97 = .ok (.goto 10, 3) := by decide +kernel
theorem dX7_close_100 : decode cX7_close 100 = .ok (.aload_n 0, 1) := by decide +kernel
theorem dX7_close_101 : decode cX7_close 101 = .ok (.getfield 56, 3) := by decide +kernel
theorem dX7_close_104 : decode cX7_close 104 = .ok (.getfield 178, 3) := by decide +kernel
theorem dX7_close_107 : decode cX7_close 107 = .ok (.ireturn, 1) := by decide +kernel
theorem dX7_farthest_0 : decode cX7_farthest 0 = .ok (.aload_n 0, 1) := by decide +kernel
theorem dX7_farthest_1 : decode cX7_farthest 1 = .ok (.iload_n 1, 1) := by decide +kernel
theorem dX7_farthest_2 : decode cX7_farthest 2 = .ok (.invokevirtual 121, 3) := by decide +kernel
theorem dX7_farthest_5 : decode cX7_farthest 5 = .ok (.ifCond .ne 6, 3) := by decide +kernel
theorem dX7_farthest_8 : decode cX7_farthest 8 = .ok (.bipush (-101), 2) := by decide +kernel
theorem dX7_farthest_10 : decode cX7_farthest 10 = .ok (.ireturn, 1) := by decide +kernel
theorem dX7_farthest_11 : decode cX7_farthest 11 = .ok (.iload_n 2, 1) := by decide +kernel
theorem dX7_farthest_12 : decode cX7_farthest 12 = .ok (.invokestatic 156, 3) := by decide +kernel
theorem dX7_farthest_15 : decode cX7_farthest 15 = .ok (.ifCond .ne 6, 3) := by decide +kernel
theorem dX7_farthest_18 : decode cX7_farthest 18 = .ok (.bipush (-102), 2) := by decide +kernel
theorem dX7_farthest_20 : decode cX7_farthest 20 = .ok (.ireturn, 1) := by decide +kernel
theorem dX7_farthest_21 : decode cX7_farthest 21 = .ok (.aload_n 0, 1) := by decide +kernel
theorem dX7_farthest_22 : decode cX7_farthest 22 = .ok (.iload_n 1, 1) := by decide +kernel
theorem dX7_farthest_23 : decode cX7_farthest 23 = .ok (.iload_n 2, 1) := by decide +kernel
theorem dX7_farthest_24 : decode cX7_farthest 24 = .ok (.invokevirtual 226, 3) := by decide +kernel
theorem dX7_farthest_27 : decode cX7_farthest 27 = .ok (.ireturn, 1) := by decide +kernel
theorem dX7_coast_0 : decode cX7_coast 0 = .ok (.aload_n 0, 1) := by decide +kernel
theorem dX7_coast_1 : decode cX7_coast 1 = .ok (.iload_n 1, 1) := by decide +kernel
theorem dX7_coast_2 : decode cX7_coast 2 = .ok (.invokevirtual 121, 3) := by decide +kernel
theorem dX7_coast_5 : decode cX7_coast 5 = .ok (.ifCond .ne 6, 3) := by decide +kernel
theorem dX7_coast_8 : decode cX7_coast 8 = .ok (.bipush (-101), 2) := by decide +kernel
theorem dX7_coast_10 : decode cX7_coast 10 = .ok (.ireturn, 1) := by decide +kernel
theorem dX7_coast_11 : decode cX7_coast 11 = .ok (.iload_n 2, 1) := by decide +kernel
theorem dX7_coast_12 : decode cX7_coast 12 = .ok (.invokestatic 156, 3) := by decide +kernel
theorem dX7_coast_15 : decode cX7_coast 15 = .ok (.ifCond .eq 13, 3) := by decide +kernel

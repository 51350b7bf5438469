theorem dX8_cart_61 : decode cX8_cart 61 = .ok (.iconst 0, 1) := by decide +kernel
theorem dX8_cart_62 : decode cX8_cart 62 = .ok (.istore_n 1, 1) := by decide +kernel
theorem dX8_cart_63 : decode cX8_cart 63 = .ok (.iload_n 1, 1) := by decide +kernel
theorem dX8_cart_64 : decode cX8_cart 64 = .ok (.bipush 10, 2) := by decide +kernel
theorem dX8_cart_66 : decode cX8_cart 66 = .ok (.if_icmp .ge 29, 3) := by decide +kernel
theorem dX8_cart_69 : decode cX8_cart 69 = .ok (.aload_n 0, 1) := by decide +kernel
theorem dX8_cart_70 : decode cX8_cart 70 = .ok (.getfield 34, 3) := by decide +kernel
theorem dX8_cart_73 : decode cX8_cart 73 = .ok (.bipush 10, 2) := by decide +kernel
theorem dX8_cart_75 : decode cX8_cart 75 = .ok (.aload_n 0, 1) := by decide +kernel
theorem dX8_cart_76 : decode cX8_cart 76 = .ok (.getfield 122, 3) := by decide +kernel
theorem dX8_cart_79 : decode cX8_cart 79 = .ok (.imul, 1) := by decide +kernel
theorem dX8_cart_80 : decode cX8_cart 80 = .ok (.iload_n 1, 1) := by decide +kernel
theorem dX8_cart_81 : decode cX8_cart 81 = .ok (.iadd, 1) := by decide +kernel
theorem dX8_cart_82 : decode cX8_cart 82 = .ok (.aload_n 0, 1) := by decide +kernel
theorem dX8_cart_83 : decode cX8_cart 83 = .ok (.getfield 13, 3) := by decide +kernel
theorem dX8_cart_86 : decode cX8_cart 86 = .ok (.iload_n 1, 1) := by decide +kernel
theorem dX8_cart_87 : decode cX8_cart 87 = .ok (.iaload, 1) := by decide +kernel
theorem dX8_cart_88 : decode cX8_cart 88 = .ok (.iastore, 1) := by decide +kernel
theorem dX8_cart_89 : decode cX8_cart 89 = .ok (.iinc 1 1, 3) := by decide +kernel
theorem dX8_cart_92 : decode cX8_cart 92 = .ok (.goto (-29), 3) := by decide +kernel
theorem dX8_cart_95 : decode cX8_cart 95 = .ok (.aload_n 0, 1) := by decide +kernel
theorem dX8_cart_96 : decode cX8_cart 96 = .ok (.dup, 1) := by decide +kernel
theorem dX8_cart_97 : decode cX8_cart 97 = .ok (.getfield 122, 3) := by decide +kernel
theorem dX8_cart_100 : decode cX8_cart 100 = .ok (.iconst 1, 1) := by decide +kernel
theorem dX8_cart_101 : decode cX8_cart 101 = .ok (.iadd, 1) := by decide +kernel
theorem dX8_cart_102 : decode cX8_cart 102 = .ok (.putfield 122, 3) := by decide +kernel
theorem dX8_cart_105 : decode cX8_cart 105 = .ok (.aload_n 0, 1) := by decide +kernel
theorem dX8_cart_106 : decode cX8_cart 106 = .ok (.iconst 0, 1) := by decide +kernel
theorem dX8_cart_107 : decode cX8_cart 107 = .ok (.putfield 76, 3) := by decide +kernel
theorem dX8_cart_110 : decode cX8_cart 110 = .ok (.aload_n 0, 1) := by decide +kernel
theorem dX8_cart_111 : decode cX8_cart 111 = .ok (.getfield 122, 3) := by decide +kernel
theorem dX8_cart_114 : decode cX8_cart 114 = .ok (.iconst 1, 1) := by decide +kernel
theorem dX8_cart_115 : decode cX8_cart 115 = .ok (.isub, 1) := by decide +kernel
theorem dX8_cart_116 : decode cX8_cart 116 = .ok (.ireturn, 1) := by decide +kernel
theorem dX8_isCell_0 : decode cX8_isCell 0 = .ok (.iload_n 1, 1) := by decide +kernel
theorem dX8_isCell_1 : decode cX8_isCell 1 = .ok (.i2l, 1) := by decide +kernel
theorem dX8_isCell_2 : decode cX8_isCell 2 = .ok (.lconst 0, 1) := by decide +kernel
theorem dX8_isCell_3 : decode cX8_isCell 3 = .ok (.aload_n 0, 1) := by decide +kernel
theorem dX8_isCell_4 : decode cX8_isCell 4 = .ok (.getfield 116, 3) := by decide +kernel
theorem dX8_isCell_7 : decode cX8_isCell 7 = .ok (.iconst 1, 1) := by decide +kernel
theorem dX8_isCell_8 : decode cX8_isCell 8 = .ok (.isub, 1) := by decide +kernel
theorem dX8_isCell_9 : decode cX8_isCell 9 = .ok (.i2l, 1) := by decide +kernel
theorem dX8_isCell_10 : decode cX8_isCell 10 = .ok (.invokestatic 89, 3) := by decide +kernel
theorem dX8_isCell_13 : decode cX8_isCell 13 = .ok (.ireturn, 1) := by decide +kernel
theorem dX8_isCart_0 : decode cX8_isCart 0 = .ok (.iload_n 1, 1) := by decide +kernel
theorem dX8_isCart_1 : decode cX8_isCart 1 = .ok (.i2l, 1) := by decide +kernel
theorem dX8_isCart_2 : decode cX8_isCart 2 = .ok (.lconst 0, 1) := by decide +kernel
theorem dX8_isCart_3 : decode cX8_isCart 3 = .ok (.aload_n 0, 1) := by decide +kernel
theorem dX8_isCart_4 : decode cX8_isCart 4 = .ok (.getfield 122, 3) := by decide +kernel
theorem dX8_isCart_7 : decode cX8_isCart 7 = .ok (.iconst 1, 1) := by decide +kernel
theorem dX8_isCart_8 : decode cX8_isCart 8 = .ok (.isub, 1) := by decide +kernel
theorem dX8_isCart_9 : decode cX8_isCart 9 = .ok (.i2l, 1) := by decide +kernel
theorem dX8_isCart_10 : decode cX8_isCart 10 = .ok (.invokestatic 89, 3) := by decide +kernel
theorem dX8_isCart_13 : decode cX8_isCart 13 = .ok (.ireturn, 1) := by decide +kernel
theorem dX8_cellOf_0 : decode cX8_cellOf 0 = .ok (.iload_n 2, 1) := by decide +kernel
theorem dX8_cellOf_1 : decode cX8_cellOf 1 = .ok (.tableswitch 59 0 3 #[31, 38, 45, 52], 31) := by decide +kernel
theorem dX8_cellOf_32 : decode cX8_cellOf 32 = .ok (.aload_n 0, 1) := by decide +kernel
theorem dX8_cellOf_33 : decode cX8_cellOf 33 = .ok (.getfield 16, 3) := by decide +kernel
theorem dX8_cellOf_36 : decode cX8_cellOf 36 = .ok (.iload_n 1, 1) := by decide +kernel
theorem dX8_cellOf_37 : decode cX8_cellOf 37 = .ok (.iaload, 1) := by decide +kernel
theorem dX8_cellOf_38 : decode cX8_cellOf 38 = .ok (.ireturn, 1) := by decide +kernel
theorem dX8_cellOf_39 : decode cX8_cellOf 39 = .ok (.aload_n 0, 1) := by decide +kernel
theorem dX8_cellOf_40 : decode cX8_cellOf 40 = .ok (.getfield 19, 3) := by decide +kernel
theorem dX8_cellOf_43 : decode cX8_cellOf 43 = .ok (.iload_n 1, 1) := by decide +kernel
theorem dX8_cellOf_44 : decode cX8_cellOf 44 = .ok (.iaload, 1) := by decide +kernel
theorem dX8_cellOf_45 : decode cX8_cellOf 45 = .ok (.ireturn, 1) := by decide +kernel
theorem dX8_cellOf_46 : decode cX8_cellOf 46 = .ok (.aload_n 0, 1) := by decide +kernel
theorem dX8_cellOf_47 : decode cX8_cellOf 47 = .ok (.getfield 22, 3) := by decide +kernel
theorem dX8_cellOf_50 : decode cX8_cellOf 50 = .ok (.iload_n 1, 1) := by decide +kernel
theorem dX8_cellOf_51 : decode cX8_cellOf 51 = .ok (.iaload, 1) := by decide +kernel
theorem dX8_cellOf_52 : decode cX8_cellOf 52 = .ok (.ireturn, 1) := by decide +kernel
theorem dX8_cellOf_53 : decode cX8_cellOf 53 = .ok (.aload_n 0, 1) := by decide +kernel
theorem dX8_cellOf_54 : decode cX8_cellOf 54 = .ok (.getfield 25, 3) := by decide +kernel
theorem dX8_cellOf_57 : decode cX8_cellOf 57 = .ok (.iload_n 1, 1) := by decide +kernel
theorem dX8_cellOf_58 : decode cX8_cellOf 58 = .ok (.iaload, 1) := by decide +kernel
theorem dX8_cellOf_59 : decode cX8_cellOf 59 = .ok (.ireturn, 1) := by decide +kernel
theorem dX8_cellOf_60 : decode cX8_cellOf 60 = .ok (.bipush (-102), 2) := by decide +kernel
theorem dX8_cellOf_62 : decode cX8_cellOf 62 = .ok (.ireturn, 1) := by decide +kernel
theorem dX8_cell_0 : decode cX8_cell 0 = .ok (.aload_n 0, 1) := by decide +kernel
theorem dX8_cell_1 : decode cX8_cell 1 = .ok (.iload_n 1, 1) := by decide +kernel
theorem dX8_cell_2 : decode cX8_cell 2 = .ok (.invokevirtual 125, 3) := by decide +kernel
theorem dX8_cell_5 : decode cX8_cell 5 = .ok (.ifCond .eq 12, 3) := by decide +kernel
theorem dX8_cell_8 : decode cX8_cell 8 = .ok (.aload_n 0, 1) := by decide +kernel
theorem dX8_cell_9 : decode cX8_cell 9 = .ok (.iload_n 1, 1) := by decide +kernel
theorem dX8_cell_10 : decode cX8_cell 10 = .ok (.iload_n 2, 1) := by decide +kernel
theorem dX8_cell_11 : decode cX8_cell 11 = .ok (.invokevirtual 128, 3) := by decide +kernel
theorem dX8_cell_14 : decode cX8_cell 14 = .ok (.goto 5, 3) := by decide +kernel
theorem dX8_cell_17 : decode cX8_cell 17 = .ok (.bipush (-101), 2) := by decide +kernel
theorem dX8_cell_19 : decode cX8_cell 19 = .ok (.ireturn, 1) := by decide +kernel
theorem dX8_about_0 : decode cX8_about 0 = .ok (.aload_n 0, 1) := by decide +kernel
theorem dX8_about_1 : decode cX8_about 1 = .ok (.iload_n 1, 1) := by decide +kernel
theorem dX8_about_2 : decode cX8_about 2 = .ok (.invokevirtual 132, 3) := by decide +kernel
theorem dX8_about_5 : decode cX8_about 5 = .ok (.ifCond .ne 6, 3) := by decide +kernel
theorem dX8_about_8 : decode cX8_about 8 = .ok (.bipush (-101), 2) := by decide +kernel
theorem dX8_about_10 : decode cX8_about 10 = .ok (.ireturn, 1) := by decide +kernel
theorem dX8_about_11 : decode cX8_about 11 = .ok (.iload_n 2, 1) := by decide +kernel
theorem dX8_about_12 : decode cX8_about 12 = .ok (.ifCond .ne 12, 3) := by decide +kernel
theorem dX8_about_15 : decode cX8_about 15 = .ok (.aload_n 0, 1) := by decide +kernel
theorem dX8_about_16 : decode cX8_about 16 = .ok (.getfield 28, 3) := by decide +kernel
theorem dX8_about_19 : decode cX8_about 19 = .ok (.iload_n 1, 1) := by decide +kernel
theorem dX8_about_20 : decode cX8_about 20 = .ok (.iaload, 1) := by decide +kernel
theorem dX8_about_21 : decode cX8_about 21 = .ok (.goto 19, 3) := by decide +kernel
theorem dX8_about_24 : decode cX8_about 24 = .ok (.iload_n 2, 1) := by decide +kernel
theorem dX8_about_25 : decode cX8_about 25 = .ok (.iconst 1, 1) := by decide +kernel
theorem dX8_about_26 : decode cX8_about 26 = .ok (.if_icmp .ne 12, 3) := by decide +kernel
theorem dX8_about_29 : decode cX8_about 29 = .ok (.aload_n 0, 1) := by decide +kernel
theorem dX8_about_30 : decode cX8_about 30 = .ok (.getfield 31, 3) := by decide +kernel
theorem dX8_about_33 : decode cX8_about 33 = .ok (.iload_n 1, 1) := by decide +kernel
theorem dX8_about_34 : decode cX8_about 34 = .ok (.iaload, 1) := by decide +kernel
theorem dX8_about_35 : decode cX8_about 35 = .ok (.goto 5, 3) := by decide +kernel
theorem dX8_about_38 : decode cX8_about 38 = .ok (.bipush (-102), 2) := by decide +kernel
theorem dX8_about_40 : decode cX8_about 40 = .ok (.ireturn, 1) := by decide +kernel
theorem dX8_isLoss_0 : decode cX8_isLoss 0 = .ok (.aload_n 0, 1) := by decide +kernel
theorem dX8_isLoss_1 : decode cX8_isLoss 1 = .ok (.iload_n 1, 1) := by decide +kernel
theorem dX8_isLoss_2 : decode cX8_isLoss 2 = .ok (.invokevirtual 132, 3) := by decide +kernel
theorem dX8_isLoss_5 : decode cX8_isLoss 5 = .ok (.ifCond .eq 25, 3) := by decide +kernel
theorem dX8_isLoss_8 : decode cX8_isLoss 8 = .ok (.iload_n 2, 1) := by decide +kernel
theorem dX8_isLoss_9 : decode cX8_isLoss 9 = .ok (.i2l, 1) := by decide +kernel
theorem dX8_isLoss_10 : decode cX8_isLoss 10 = .ok (.lconst 0, 1) := by decide +kernel
theorem dX8_isLoss_11 : decode cX8_isLoss 11 = .ok (.aload_n 0, 1) := by decide +kernel
theorem dX8_isLoss_12 : decode cX8_isLoss 12 = .ok (.getfield 31, 3) := by decide +kernel
theorem dX8_isLoss_15 : decode cX8_isLoss 15 = .ok (.iload_n 1, 1) := by decide +kernel
theorem dX8_isLoss_16 : decode cX8_isLoss 16 = .ok (.iaload, 1) := by decide +kernel
theorem dX8_isLoss_17 : decode cX8_isLoss 17 = .ok (.iconst 1, 1) := by decide +kernel
theorem dX8_isLoss_18 : decode cX8_isLoss 18 = .ok (.isub, 1) := by decide +kernel
theorem dX8_isLoss_19 : decode cX8_isLoss 19 = .ok (.i2l, 1) := by decide +kernel
theorem dX8_isLoss_20 : decode cX8_isLoss 20 = .ok (.invokestatic 89, 3) := by decide +kernel
theorem dX8_isLoss_23 : decode cX8_isLoss 23 = .ok (.ifCond .eq 7, 3) := by decide +kernel
theorem dX8_isLoss_26 : decode cX8_isLoss 26 = .ok (.iconst 1, 1) := by decide +kernel
theorem dX8_isLoss_27 : decode cX8_isLoss 27 = .ok (.goto 4, 3) := by decide +kernel
theorem dX8_isLoss_30 : decode cX8_isLoss 30 = .ok (.iconst 0, 1) := by decide +kernel
theorem dX8_isLoss_31 : decode cX8_isLoss 31 = .ok (.ireturn, 1) := by decide +kernel
theorem dX8_loss_0 : decode cX8_loss 0 = .ok (.aload_n 0, 1) := by decide +kernel
theorem dX8_loss_1 : decode cX8_loss 1 = .ok (.iload_n 1, 1) := by decide +kernel
theorem dX8_loss_2 : decode cX8_loss 2 = .ok (.iload_n 2, 1) := by decide +kernel
theorem dX8_loss_3 : decode cX8_loss 3 = .ok (.invokevirtual 135, 3) := by decide +kernel
theorem dX8_loss_6 : decode cX8_loss 6 = .ok (.ifCond .ne 6, 3) := by decide +kernel
theorem dX8_loss_9 : decode cX8_loss 9 = .ok (.bipush (-101), 2) := by decide +kernel
theorem dX8_loss_11 : decode cX8_loss 11 = .ok (.ireturn, 1) := by decide +kernel
theorem dX8_loss_12 : decode cX8_loss 12 = .ok (.iload_n 3, 1) := by decide +kernel
theorem dX8_loss_13 : decode cX8_loss 13 = .ok (.i2l, 1) := by decide +kernel
theorem dX8_loss_14 : decode cX8_loss 14 = .ok (.lconst 0, 1) := by decide +kernel
theorem dX8_loss_15 : decode cX8_loss 15 = .ok (.lconst 1, 1) := by decide +kernel
theorem dX8_loss_16 : decode cX8_loss 16 = .ok (.invokestatic 89, 3) := by decide +kernel
theorem dX8_loss_19 : decode cX8_loss 19 = .ok (.ifCond .eq 21, 3) := by decide +kernel
theorem dX8_loss_22 : decode cX8_loss 22 = .ok (.aload_n 0, 1) := by decide +kernel
theorem dX8_loss_23 : decode cX8_loss 23 = .ok (.getfield 34, 3) := by decide +kernel
theorem dX8_loss_26 : decode cX8_loss 26 = .ok (.bipush 10, 2) := by decide +kernel
theorem dX8_loss_28 : decode cX8_loss 28 = .ok (.iload_n 1, 1) := by decide +kernel
theorem dX8_loss_29 : decode cX8_loss 29 = .ok (.imul, 1) := by decide +kernel
theorem dX8_loss_30 : decode cX8_loss 30 = .ok (.iconst 2, 1) := by decide +kernel
theorem dX8_loss_31 : decode cX8_loss 31 = .ok (.iload_n 2, 1) := by decide +kernel
theorem dX8_loss_32 : decode cX8_loss 32 = .ok (.imul, 1) := by decide +kernel
theorem dX8_loss_33 : decode cX8_loss 33 = .ok (.iadd, 1) := by decide +kernel
theorem dX8_loss_34 : decode cX8_loss 34 = .ok (.iload_n 3, 1) := by decide +kernel
theorem dX8_loss_35 : decode cX8_loss 35 = .ok (.iadd, 1) := by decide +kernel
theorem dX8_loss_36 : decode cX8_loss 36 = .ok (.iaload, 1) := by decide +kernel
theorem dX8_loss_37 : decode cX8_loss 37 = .ok (.goto 5, 3) := by decide +kernel
theorem dX8_loss_40 : decode cX8_loss 40 = .ok (.bipush (-102), 2) := by decide +kernel
theorem dX8_loss_42 : decode cX8_loss 42 = .ok (.ireturn, 1) := by decide +kernel
theorem dX8_as_0 : decode cX8_as 0 = .ok (.aload_n 0, 1) := by decide +kernel
theorem dX8_as_1 : decode cX8_as 1 = .ok (.iload_n 1, 1) := by decide +kernel
theorem dX8_as_2 : decode cX8_as 2 = .ok (.iload_n 2, 1) := by decide +kernel
theorem dX8_as_3 : decode cX8_as 3 = .ok (.invokevirtual 135, 3) := by decide +kernel
theorem dX8_as_6 : decode cX8_as 6 = .ok (.ifCond .ne 6, 3) := by decide +kernel
theorem dX8_as_9 : decode cX8_as 9 = .ok (.bipush (-101), 2) := by decide +kernel
theorem dX8_as_11 : decode cX8_as 11 = .ok (.ireturn, 1) := by decide +kernel
theorem dX8_as_12 : decode cX8_as 12 = .ok (.iload_n 3, 1) := by decide +kernel
theorem dX8_as_13 : decode cX8_as 13 = .ok (.i2l, 1) := by decide +kernel
theorem dX8_as_14 : decode cX8_as 14 = .ok (.lconst 0, 1) := by decide +kernel
theorem dX8_as_15 : decode cX8_as 15 = .ok (.ldc2_w 138, 3) := by decide +kernel
theorem dX8_as_18 : decode cX8_as 18 = .ok (.invokestatic 89, 3) := by decide +kernel
theorem dX8_as_21 : decode cX8_as 21 = .ok (.ifCond .ne 6, 3) := by decide +kernel
theorem dX8_as_24 : decode cX8_as 24 = .ok (.bipush (-102), 2) := by decide +kernel
theorem dX8_as_26 : decode cX8_as 26 = .ok (.ireturn, 1) := by decide +kernel
theorem dX8_as_27 : decode cX8_as 27 = .ok (.aload_n 0, 1) := by decide +kernel
theorem dX8_as_28 : decode cX8_as 28 = .ok (.getfield 34, 3) := by decide +kernel
theorem dX8_as_31 : decode cX8_as 31 = .ok (.bipush 10, 2) := by decide +kernel
theorem dX8_as_33 : decode cX8_as 33 = .ok (.iload_n 1, 1) := by decide +kernel
theorem dX8_as_34 : decode cX8_as 34 = .ok (.imul, 1) := by decide +kernel
theorem dX8_as_35 : decode cX8_as 35 = .ok (.iconst 2, 1) := by decide +kernel
theorem dX8_as_36 : decode cX8_as 36 = .ok (.iload_n 2, 1) := by decide +kernel
theorem dX8_as_37 : decode cX8_as 37 = .ok (.imul, 1) := by decide +kernel
theorem dX8_as_38 : decode cX8_as 38 = .ok (.iadd, 1) := by decide +kernel
theorem dX8_as_39 : decode cX8_as 39 = .ok (.iaload, 1) := by decide +kernel
theorem dX8_as_40 : decode cX8_as 40 = .ok (.istore 4, 2) := by decide +kernel
theorem dX8_as_42 : decode cX8_as 42 = .ok (.iload_n 3, 1) := by decide +kernel
theorem dX8_as_43 : decode cX8_as 43 = .ok (.ifCond .eq 20, 3) := by decide +kernel
theorem dX8_as_46 : decode cX8_as 46 = .ok (.iload_n 3, 1) := by decide +kernel
theorem dX8_as_47 : decode cX8_as 47 = .ok (.iload 4, 2) := by decide +kernel
theorem dX8_as_49 : decode cX8_as 49 = .ok (.if_icmp .eq 14, 3) := by decide +kernel
theorem dX8_as_52 : decode cX8_as 52 = .ok (.iload_n 3, 1) := by decide +kernel
theorem dX8_as_53 : decode cX8_as 53 = .ok (.iconst 1, 1) := by decide +kernel
theorem dX8_as_54 : decode cX8_as 54 = .ok (.if_icmp .ne 13, 3) := by decide +kernel
theorem dX8_as_57 : decode cX8_as 57 = .ok (.iload 4, 2) := by decide +kernel
theorem dX8_as_59 : decode cX8_as 59 = .ok (.iconst 2, 1) := by decide +kernel
theorem dX8_as_60 : decode cX8_as 60 = .ok (.if_icmp .ne 7, 3) := by decide +kernel
theorem dX8_as_63 : decode cX8_as 63 = .ok (.iconst 1, 1) := by decide +kernel
theorem dX8_as_64 : decode cX8_as 64 = .ok (.goto 4, 3) := by decide +kernel
theorem dX8_as_67 : decode cX8_as 67 = .ok (.iconst 0, 1) := by decide +kernel
theorem dX8_as_68 : decode cX8_as 68 = .ok (.istore 5, 2) := by decide +kernel
theorem dX8_as_70 : decode cX8_as 70 = .ok (.iload 5, 2) := by decide +kernel
theorem dX8_as_72 : decode cX8_as 72 = .ok (.ifCond .eq 7, 3) := by decide +kernel
theorem dX8_as_75 : decode cX8_as 75 = .ok (.iload_n 2, 1) := by decide +kernel
theorem dX8_as_76 : decode cX8_as 76 = .ok (.goto 4, 3) := by decide +kernel
theorem dX8_as_79 : decode cX8_as 79 = .ok (.iconst (-1), 1) := by decide +kernel
theorem dX8_as_80 : decode cX8_as 80 = .ok (.ireturn, 1) := by decide +kernel
theorem dX8_weigh_0 : decode cX8_weigh 0 = .ok (.aload_n 0, 1) := by decide +kernel
theorem dX8_weigh_1 : decode cX8_weigh 1 = .ok (.iload_n 1, 1) := by decide +kernel
theorem dX8_weigh_2 : decode cX8_weigh 2 = .ok (.invokevirtual 132, 3) := by decide +kernel
theorem dX8_weigh_5 : decode cX8_weigh 5 = .ok (.ifCond .ne 6, 3) := by decide +kernel
theorem dX8_weigh_8 : decode cX8_weigh 8 = .ok (.bipush (-101), 2) := by decide +kernel
theorem dX8_weigh_10 : decode cX8_weigh 10 = .ok (.ireturn, 1) := by decide +kernel
theorem dX8_weigh_11 : decode cX8_weigh 11 = .ok (.iload_n 2, 1) := by decide +kernel
theorem dX8_weigh_12 : decode cX8_weigh 12 = .ok (.i2l, 1) := by decide +kernel
theorem dX8_weigh_13 : decode cX8_weigh 13 = .ok (.ldc2_w 140, 3) := by decide +kernel
theorem dX8_weigh_16 : decode cX8_weigh 16 = .ok (.ldc2_w 142, 3) := by decide +kernel
theorem dX8_weigh_19 : decode cX8_weigh 19 = .ok (.invokestatic 89, 3) := by decide +kernel
theorem dX8_weigh_22 : decode cX8_weigh 22 = .ok (.ifCond .ne 6, 3) := by decide +kernel
theorem dX8_weigh_25 : decode cX8_weigh 25 = .ok (.bipush (-102), 2) := by decide +kernel
theorem dX8_weigh_27 : decode cX8_weigh 27 = .ok (.ireturn, 1) := by decide +kernel
theorem dX8_weigh_28 : decode cX8_weigh 28 = .ok (.aload_n 0, 1) := by decide +kernel
theorem dX8_weigh_29 : decode cX8_weigh 29 = .ok (.getfield 28, 3) := by decide +kernel
theorem dX8_weigh_32 : decode cX8_weigh 32 = .ok (.iload_n 1, 1) := by decide +kernel
theorem dX8_weigh_33 : decode cX8_weigh 33 = .ok (.iaload, 1) := by decide +kernel
theorem dX8_weigh_34 : decode cX8_weigh 34 = .ok (.istore_n 3, 1) := by decide +kernel
theorem dX8_weigh_35 : decode cX8_weigh 35 = .ok (.aload_n 0, 1) := by decide +kernel
theorem dX8_weigh_36 : decode cX8_weigh 36 = .ok (.getfield 28, 3) := by decide +kernel
theorem dX8_weigh_39 : decode cX8_weigh 39 = .ok (.iload_n 1, 1) := by decide +kernel
theorem dX8_weigh_40 : decode cX8_weigh 40 = .ok (.iload_n 2, 1) := by decide +kernel
theorem dX8_weigh_41 : decode cX8_weigh 41 = .ok (.iastore, 1) := by decide +kernel
theorem dX8_weigh_42 : decode cX8_weigh 42 = .ok (.iload_n 3, 1) := by decide +kernel
theorem dX8_weigh_43 : decode cX8_weigh 43 = .ok (.ireturn, 1) := by decide +kernel
theorem dX8_grip_0 : decode cX8_grip 0 = .ok (.iload_n 1, 1) := by decide +kernel
theorem dX8_grip_1 : decode cX8_grip 1 = .ok (.i2l, 1) := by decide +kernel
theorem dX8_grip_2 : decode cX8_grip 2 = .ok (.lconst 1, 1) := by decide +kernel
theorem dX8_grip_3 : decode cX8_grip 3 = .ok (.ldc2_w 142, 3) := by decide +kernel
theorem dX8_grip_6 : decode cX8_grip 6 = .ok (.invokestatic 89, 3) := by decide +kernel
theorem dX8_grip_9 : decode cX8_grip 9 = .ok (.ifCond .ne 6, 3) := by decide +kernel
theorem dX8_grip_12 : decode cX8_grip 12 = .ok (.bipush (-102), 2) := by decide +kernel
theorem dX8_grip_14 : decode cX8_grip 14 = .ok (.ireturn, 1) := by decide +kernel
theorem dX8_grip_15 : decode cX8_grip 15 = .ok (.aload_n 0, 1) := by decide +kernel
theorem dX8_grip_16 : decode cX8_grip 16 = .ok (.getfield 67, 3) := by decide +kernel
theorem dX8_grip_19 : decode cX8_grip 19 = .ok (.istore_n 2, 1) := by decide +kernel
theorem dX8_grip_20 : decode cX8_grip 20 = .ok (.aload_n 0, 1) := by decide +kernel
theorem dX8_grip_21 : decode cX8_grip 21 = .ok (.iload_n 1, 1) := by decide +kernel
theorem dX8_grip_22 : decode cX8_grip 22 = .ok (.putfield 67, 3) := by decide +kernel
theorem dX8_grip_25 : decode cX8_grip 25 = .ok (.iload_n 2, 1) := by decide +kernel
theorem dX8_grip_26 : decode cX8_grip 26 = .ok (.ireturn, 1) := by decide +kernel
theorem dX8_brake_0 : decode cX8_brake 0 = .ok (.aload_n 0, 1) := by decide +kernel
theorem dX8_brake_1 : decode cX8_brake 1 = .ok (.iload_n 1, 1) := by decide +kernel
theorem dX8_brake_2 : decode cX8_brake 2 = .ok (.invokevirtual 125, 3) := by decide +kernel
theorem dX8_brake_5 : decode cX8_brake 5 = .ok (.ifCond .ne 6, 3) := by decide +kernel
theorem dX8_brake_8 : decode cX8_brake 8 = .ok (.bipush (-101), 2) := by decide +kernel
theorem dX8_brake_10 : decode cX8_brake 10 = .ok (.ireturn, 1) := by decide +kernel
theorem dX8_brake_11 : decode cX8_brake 11 = .ok (.iload_n 2, 1) := by decide +kernel
theorem dX8_brake_12 : decode cX8_brake 12 = .ok (.i2l, 1) := by decide +kernel
theorem dX8_brake_13 : decode cX8_brake 13 = .ok (.lconst 0, 1) := by decide +kernel
theorem dX8_brake_14 : decode cX8_brake 14 = .ok (.ldc2_w 144, 3) := by decide +kernel
theorem dX8_brake_17 : decode cX8_brake 17 = .ok (.invokestatic 89, 3) := by decide +kernel
theorem dX8_brake_20 : decode cX8_brake 20 = .ok (.ifCond .ne 6, 3) := by decide +kernel
theorem dX8_brake_23 : decode cX8_brake 23 = .ok (.bipush (-102), 2) := by decide +kernel
theorem dX8_brake_25 : decode cX8_brake 25 = .ok (.ireturn, 1) := by decide +kernel
theorem dX8_brake_26 : decode cX8_brake 26 = .ok (.aload_n 0, 1) := by decide +kernel
theorem dX8_brake_27 : decode cX8_brake 27 = .ok (.getfield 25, 3) := by decide +kernel
theorem dX8_brake_30 : decode cX8_brake 30 = .ok (.iload_n 1, 1) := by decide +kernel
theorem dX8_brake_31 : decode cX8_brake 31 = .ok (.iaload, 1) := by decide +kernel
theorem dX8_brake_32 : decode cX8_brake 32 = .ok (.istore_n 3, 1) := by decide +kernel
theorem dX8_brake_33 : decode cX8_brake 33 = .ok (.aload_n 0, 1) := by decide +kernel
theorem dX8_brake_34 : decode cX8_brake 34 = .ok (.getfield 25, 3) := by decide +kernel
theorem dX8_brake_37 : decode cX8_brake 37 = .ok (.iload_n 1, 1) := by decide +kernel
theorem dX8_brake_38 : decode cX8_brake 38 = .ok (.iload_n 2, 1) := by decide +kernel
theorem dX8_brake_39 : decode cX8_brake 39 = .ok (.iastore, 1) := by decide +kernel
theorem dX8_brake_40 : decode cX8_brake 40 = .ok (.iload_n 3, 1) := by decide +kernel
theorem dX8_brake_41 : decode cX8_brake 41 = .ok (.ireturn, 1) := by decide +kernel
theorem dX8_take_0 : decode cX8_take 0 = .ok (.aload_n 0, 1) := by decide +kernel
theorem dX8_take_1 : decode cX8_take 1 = .ok (.aload_n 0, 1) := by decide +kernel
theorem dX8_take_2 : decode cX8_take 2 = .ok (.getfield 28, 3) := by decide +kernel
theorem dX8_take_5 : decode cX8_take 5 = .ok (.iload_n 1, 1) := by decide +kernel
theorem dX8_take_6 : decode cX8_take 6 = .ok (.iaload, 1) := by decide +kernel
theorem dX8_take_7 : decode cX8_take 7 = .ok (.putfield 146, 3) := by decide +kernel
theorem dX8_take_10 : decode cX8_take 10 = .ok (.aload_n 0, 1) := by decide +kernel
theorem dX8_take_11 : decode cX8_take 11 = .ok (.aload_n 0, 1) := by decide +kernel
theorem dX8_take_12 : decode cX8_take 12 = .ok (.getfield 31, 3) := by decide +kernel
theorem dX8_take_15 : decode cX8_take 15 = .ok (.iload_n 1, 1) := by decide +kernel
theorem dX8_take_16 : decode cX8_take 16 = .ok (.iaload, 1) := by decide +kernel
theorem dX8_take_17 : decode cX8_take 17 = .ok (.putfield 149, 3) := by decide +kernel
theorem dX8_take_20 : decode cX8_take 20 = .ok (.iconst 0, 1) := by decide +kernel
theorem dX8_take_21 : decode cX8_take 21 = .ok (.istore_n 2, 1) := by decide +kernel
theorem dX8_take_22 : decode cX8_take 22 = .ok (.iload_n 2, 1) := by decide +kernel
theorem dX8_take_23 : decode cX8_take 23 = .ok (.aload_n 0, 1) := by decide +kernel
theorem dX8_take_24 : decode cX8_take 24 = .ok (.getfield 149, 3) := by decide +kernel
theorem dX8_take_27 : decode cX8_take 27 = .ok (.if_icmp .ge 49, 3) := by decide +kernel
theorem dX8_take_30 : decode cX8_take 30 = .ok (.aload_n 0, 1) := by decide +kernel
theorem dX8_take_31 : decode cX8_take 31 = .ok (.getfield 37, 3) := by decide +kernel
theorem dX8_take_34 : decode cX8_take 34 = .ok (.iload_n 2, 1) := by decide +kernel
theorem dX8_take_35 : decode cX8_take 35 = .ok (.aload_n 0, 1) := by decide +kernel
theorem dX8_take_36 : decode cX8_take 36 = .ok (.getfield 34, 3) := by decide +kernel
theorem dX8_take_39 : decode cX8_take 39 = .ok (.bipush 10, 2) := by decide +kernel
theorem dX8_take_41 : decode cX8_take 41 = .ok (.iload_n 1, 1) := by decide +kernel
theorem dX8_take_42 : decode cX8_take 42 = .ok (.imul, 1) := by decide +kernel
theorem dX8_take_43 : decode cX8_take 43 = .ok (.iconst 2, 1) := by decide +kernel
theorem dX8_take_44 : decode cX8_take 44 = .ok (.iload_n 2, 1) := by decide +kernel
theorem dX8_take_45 : decode cX8_take 45 = .ok (.imul, 1) := by decide +kernel
theorem dX8_take_46 : decode cX8_take 46 = .ok (.iadd, 1) := by decide +kernel
theorem dX8_take_47 : decode cX8_take 47 = .ok (.iaload, 1) := by decide +kernel
theorem dX8_take_48 : decode cX8_take 48 = .ok (.iastore, 1) := by decide +kernel
theorem dX8_take_49 : decode cX8_take 49 = .ok (.aload_n 0, 1) := by decide +kernel
theorem dX8_take_50 : decode cX8_take 50 = .ok (.getfield 40, 3) := by decide +kernel
theorem dX8_take_53 : decode cX8_take 53 = .ok (.iload_n 2, 1) := by decide +kernel
theorem dX8_take_54 : decode cX8_take 54 = .ok (.aload_n 0, 1) := by decide +kernel
theorem dX8_take_55 : decode cX8_take 55 = .ok (.getfield 34, 3) := by decide +kernel
theorem dX8_take_58 : decode cX8_take 58 = .ok (.bipush 10, 2) := by decide +kernel
theorem dX8_take_60 : decode cX8_take 60 = .ok (.iload_n 1, 1) := by decide +kernel
theorem dX8_take_61 : decode cX8_take 61 = .ok (.imul, 1) := by decide +kernel
theorem dX8_take_62 : decode cX8_take 62 = .ok (.iconst 2, 1) := by decide +kernel
theorem dX8_take_63 : decode cX8_take 63 = .ok (.iload_n 2, 1) := by decide +kernel
theorem dX8_take_64 : decode cX8_take 64 = .ok (.imul, 1) := by decide +kernel
theorem dX8_take_65 : decode cX8_take 65 = .ok (.iadd, 1) := by decide +kernel
theorem dX8_take_66 : decode cX8_take 66 = .ok (.iconst 1, 1) := by decide +kernel
theorem dX8_take_67 : decode cX8_take 67 = .ok (.iadd, 1) := by decide +kernel
theorem dX8_take_68 : decode cX8_take 68 = .ok (.iaload, 1) := by decide +kernel
theorem dX8_take_69 : decode cX8_take 69 = .ok (.iastore, 1) := by decide +kernel
theorem dX8_take_70 : decode cX8_take 70 = .ok (.iinc 2 1, 3) := by decide +kernel
theorem dX8_take_73 : decode cX8_take 73 = .ok (.goto (-51), 3) := by decide +kernel
theorem dX8_take_76 : decode cX8_take 76 = .ok (.iconst 0, 1) := by decide +kernel
theorem dX8_take_77 : decode cX8_take 77 = .ok (.istore_n 2, 1) := by decide +kernel
theorem dX8_take_78 : decode cX8_take 78 = .ok (.iload_n 2, 1) := by decide +kernel
theorem dX8_take_79 : decode cX8_take 79 = .ok (.bipush 12, 2) := by decide +kernel
theorem dX8_take_81 : decode cX8_take 81 = .ok (.if_icmp .ge 21, 3) := by decide +kernel
theorem dX8_take_84 : decode cX8_take 84 = .ok (.aload_n 0, 1) := by decide +kernel
theorem dX8_take_85 : decode cX8_take 85 = .ok (.getfield 43, 3) := by decide +kernel
theorem dX8_take_88 : decode cX8_take 88 = .ok (.iload_n 2, 1) := by decide +kernel
theorem dX8_take_89 : decode cX8_take 89 = .ok (.aload_n 0, 1) := by decide +kernel
theorem dX8_take_90 : decode cX8_take 90 = .ok (.getfield 25, 3) := by decide +kernel
theorem dX8_take_93 : decode cX8_take 93 = .ok (.iload_n 2, 1) := by decide +kernel
theorem dX8_take_94 : decode cX8_take 94 = .ok (.iaload, 1) := by decide +kernel
theorem dX8_take_95 : decode cX8_take 95 = .ok (.iastore, 1) := by decide +kernel
theorem dX8_take_96 : decode cX8_take 96 = .ok (.iinc 2 1, 3) := by decide +kernel
theorem dX8_take_99 : decode cX8_take 99 = .ok (.goto (-21), 3) := by decide +kernel
theorem dX8_take_102 : decode cX8_take 102 = .ok (.return_, 1) := by decide +kernel
theorem dX8_takes_0 : decode cX8_takes 0 = .ok (.aload_n 0, 1) := by decide +kernel
theorem dX8_takes_1 : decode cX8_takes 1 = .ok (.getfield 40, 3) := by decide +kernel
theorem dX8_takes_4 : decode cX8_takes 4 = .ok (.iload_n 1, 1) := by decide +kernel
theorem dX8_takes_5 : decode cX8_takes 5 = .ok (.iaload, 1) := by decide +kernel
theorem dX8_takes_6 : decode cX8_takes 6 = .ok (.istore 6, 2) := by decide +kernel
theorem dX8_takes_8 : decode cX8_takes 8 = .ok (.aload_n 0, 1) := by decide +kernel
theorem dX8_takes_9 : decode cX8_takes 9 = .ok (.getfield 37, 3) := by decide +kernel
theorem dX8_takes_12 : decode cX8_takes 12 = .ok (.iload_n 1, 1) := by decide +kernel
theorem dX8_takes_13 : decode cX8_takes 13 = .ok (.iaload, 1) := by decide +kernel
theorem dX8_takes_14 : decode cX8_takes 14 = .ok (.tableswitch 82 0 4 #[34, 37, 42, 51, 64], 34) := by decide +kernel
theorem dX8_takes_48 : decode cX8_takes 48 = .ok (.iload 6, 2) := by decide +kernel
theorem dX8_takes_50 : decode cX8_takes 50 = .ok (.ireturn, 1) := by decide +kernel
theorem dX8_takes_51 : decode cX8_takes 51 = .ok (.iconst 2, 1) := by decide +kernel
theorem dX8_takes_52 : decode cX8_takes 52 = .ok (.iload 6, 2) := by decide +kernel
theorem dX8_takes_54 : decode cX8_takes 54 = .ok (.imul, 1) := by decide +kernel
theorem dX8_takes_55 : decode cX8_takes 55 = .ok (.ireturn, 1) := by decide +kernel
theorem dX8_takes_56 : decode cX8_takes 56 = .ok (.iload 6, 2) := by decide +kernel
theorem dX8_takes_58 : decode cX8_takes 58 = .ok (.iload 6, 2) := by decide +kernel
theorem dX8_takes_60 : decode cX8_takes 60 = .ok (.iload 4, 2) := by decide +kernel
theorem dX8_takes_62 : decode cX8_takes 62 = .ok (.imul, 1) := by decide +kernel
theorem dX8_takes_63 : decode cX8_takes 63 = .ok (.iadd, 1) := by decide +kernel
theorem dX8_takes_64 : decode cX8_takes 64 = .ok (.ireturn, 1) := by decide +kernel
theorem dX8_takes_65 : decode cX8_takes 65 = .ok (.iload_n 2, 1) := by decide +kernel
theorem dX8_takes_66 : decode cX8_takes 66 = .ok (.iload 6, 2) := by decide +kernel
theorem dX8_takes_68 : decode cX8_takes 68 = .ok (.imul, 1) := by decide +kernel
theorem dX8_takes_69 : decode cX8_takes 69 = .ok (.bipush 10, 2) := by decide +kernel
theorem dX8_takes_71 : decode cX8_takes 71 = .ok (.aload_n 0, 1) := by decide +kernel
theorem dX8_takes_72 : decode cX8_takes 72 = .ok (.getfield 146, 3) := by decide +kernel
theorem dX8_takes_75 : decode cX8_takes 75 = .ok (.imul, 1) := by decide +kernel
theorem dX8_takes_76 : decode cX8_takes 76 = .ok (.idiv, 1) := by decide +kernel
theorem dX8_takes_77 : decode cX8_takes 77 = .ok (.ireturn, 1) := by decide +kernel
theorem dX8_takes_78 : decode cX8_takes 78 = .ok (.iload 5, 2) := by decide +kernel
theorem dX8_takes_80 : decode cX8_takes 80 = .ok (.iconst 1, 1) := by decide +kernel
theorem dX8_takes_81 : decode cX8_takes 81 = .ok (.if_icmp .ne 13, 3) := by decide +kernel
theorem dX8_takes_84 : decode cX8_takes 84 = .ok (.iload_n 2, 1) := by decide +kernel
theorem dX8_takes_85 : decode cX8_takes 85 = .ok (.iload 6, 2) := by decide +kernel
theorem dX8_takes_87 : decode cX8_takes 87 = .ok (.imul, 1) := by decide +kernel
theorem dX8_takes_88 : decode cX8_takes 88 = .ok (.bipush 40, 2) := by decide +kernel
theorem dX8_takes_90 : decode cX8_takes 90 = .ok (.idiv, 1) := by decide +kernel
theorem dX8_takes_91 : decode cX8_takes 91 = .ok (.goto 4, 3) := by decide +kernel
theorem dX8_takes_94 : decode cX8_takes 94 = .ok (.iconst 0, 1) := by decide +kernel
theorem dX8_takes_95 : decode cX8_takes 95 = .ok (.ireturn, 1) := by decide +kernel
theorem dX8_takes_96 : decode cX8_takes 96 = .ok (.iload 6, 2) := by decide +kernel
theorem dX8_takes_98 : decode cX8_takes 98 = .ok (.iload_n 3, 1) := by decide +kernel
theorem dX8_takes_99 : decode cX8_takes 99 = .ok (.imul, 1) := by decide +kernel
theorem dX8_takes_100 : decode cX8_takes 100 = .ok (.ireturn, 1) := by decide +kernel
theorem dX8_root_0 : decode cX8_root 0 = .ok (.iconst 0, 1) := by decide +kernel
theorem dX8_root_1 : decode cX8_root 1 = .ok (.istore_n 1, 1) := by decide +kernel
theorem dX8_root_2 : decode cX8_root 2 = .ok (.iload_n 1, 1) := by decide +kernel
theorem dX8_root_3 : decode cX8_root 3 = .ok (.iconst 1, 1) := by decide +kernel
theorem dX8_root_4 : decode cX8_root 4 = .ok (.iadd, 1) := by decide +kernel
theorem dX8_root_5 : decode cX8_root 5 = .ok (.iload_n 1, 1) := by decide +kernel
theorem dX8_root_6 : decode cX8_root 6 = .ok (.iconst 1, 1) := by decide +kernel
theorem dX8_root_7 : decode cX8_root 7 = .ok (.iadd, 1) := by decide +kernel
theorem dX8_root_8 : decode cX8_root 8 = .ok (.imul, 1) := by decide +kernel
theorem dX8_root_9 : decode cX8_root 9 = .ok (.iload_n 0, 1) := by decide +kernel
theorem dX8_root_10 : decode cX8_root 10 = .ok (.if_icmp .gt 9, 3) := by decide +kernel
theorem dX8_root_13 : decode cX8_root 13 = .ok (.iinc 1 1, 3) := by decide +kernel
theorem dX8_root_16 : decode cX8_root 16 = .ok (.goto (-14), 3) := by decide +kernel
theorem dX8_root_19 : decode cX8_root 19 = .ok (.iload_n 1, 1) := by decide +kernel
theorem dX8_root_20 : decode cX8_root 20 = .ok (.ireturn, 1) := by decide +kernel
theorem dX8_bearable_0 : decode cX8_bearable 0 = .ok (.bipush 100, 2) := by decide +kernel
theorem dX8_bearable_2 : decode cX8_bearable 2 = .ok (.aload_n 0, 1) := by decide +kernel
theorem dX8_bearable_3 : decode cX8_bearable 3 = .ok (.getfield 67, 3) := by decide +kernel
theorem dX8_bearable_6 : decode cX8_bearable 6 = .ok (.imul, 1) := by decide +kernel
theorem dX8_bearable_7 : decode cX8_bearable 7 = .ok (.aload_n 0, 1) := by decide +kernel
theorem dX8_bearable_8 : decode cX8_bearable 8 = .ok (.getfield 19, 3) := by decide +kernel
theorem dX8_bearable_11 : decode cX8_bearable 11 = .ok (.iload_n 1, 1) := by decide +kernel
theorem dX8_bearable_12 : decode cX8_bearable 12 = .ok (.iaload, 1) := by decide +kernel
theorem dX8_bearable_13 : decode cX8_bearable 13 = .ok (.idiv, 1) := by decide +kernel
theorem dX8_bearable_14 : decode cX8_bearable 14 = .ok (.ireturn, 1) := by decide +kernel
theorem dX8_goCell_0 : decode cX8_goCell 0 = .ok (.aload_n 0, 1) := by decide +kernel
theorem dX8_goCell_1 : decode cX8_goCell 1 = .ok (.getfield 152, 3) := by decide +kernel
theorem dX8_goCell_4 : decode cX8_goCell 4 = .ok (.bipush 20, 2) := by decide +kernel
theorem dX8_goCell_6 : decode cX8_goCell 6 = .ok (.aload_n 0, 1) := by decide +kernel
theorem dX8_goCell_7 : decode cX8_goCell 7 = .ok (.getfield 16, 3) := by decide +kernel
theorem dX8_goCell_10 : decode cX8_goCell 10 = .ok (.iload_n 1, 1) := by decide +kernel
theorem dX8_goCell_11 : decode cX8_goCell 11 = .ok (.iaload, 1) := by decide +kernel
theorem dX8_goCell_12 : decode cX8_goCell 12 = .ok (.imul, 1) := by decide +kernel
theorem dX8_goCell_13 : decode cX8_goCell 13 = .ok (.iadd, 1) := by decide +kernel
theorem dX8_goCell_14 : decode cX8_goCell 14 = .ok (.istore_n 2, 1) := by decide +kernel
theorem dX8_goCell_15 : decode cX8_goCell 15 = .ok (.iload_n 2, 1) := by decide +kernel
theorem dX8_goCell_16 : decode cX8_goCell 16 = .ok (.istore_n 3, 1) := by decide +kernel
theorem dX8_goCell_17 : decode cX8_goCell 17 = .ok (.iconst 0, 1) := by decide +kernel
theorem dX8_goCell_18 : decode cX8_goCell 18 = .ok (.istore 4, 2) := by decide +kernel
theorem dX8_goCell_20 : decode cX8_goCell 20 = .ok (.iload 4, 2) := by decide +kernel
theorem dX8_goCell_22 : decode cX8_goCell 22 = .ok (.aload_n 0, 1) := by decide +kernel
theorem dX8_goCell_23 : decode cX8_goCell 23 = .ok (.getfield 149, 3) := by decide +kernel
theorem dX8_goCell_26 : decode cX8_goCell 26 = .ok (.if_icmp .ge 53, 3) := by decide +kernel
theorem dX8_goCell_29 : decode cX8_goCell 29 = .ok (.aload_n 0, 1) := by decide +kernel
theorem dX8_goCell_30 : decode cX8_goCell 30 = .ok (.iload 4, 2) := by decide +kernel
theorem dX8_goCell_32 : decode cX8_goCell 32 = .ok (.iload_n 2, 1) := by decide +kernel
theorem dX8_goCell_33 : decode cX8_goCell 33 = .ok (.aload_n 0, 1) := by decide +kernel
theorem dX8_goCell_34 : decode cX8_goCell 34 = .ok (.getfield 16, 3) := by decide +kernel
theorem dX8_goCell_37 : decode cX8_goCell 37 = .ok (.iload_n 1, 1) := by decide +kernel
theorem dX8_goCell_38 : decode cX8_goCell 38 = .ok (.iaload, 1) := by decide +kernel
theorem dX8_goCell_39 : decode cX8_goCell 39 = .ok (.aload_n 0, 1) := by decide +kernel
theorem dX8_goCell_40 : decode cX8_goCell 40 = .ok (.getfield 19, 3) := by decide +kernel
theorem dX8_goCell_43 : decode cX8_goCell 43 = .ok (.iload_n 1, 1) := by decide +kernel
theorem dX8_goCell_44 : decode cX8_goCell 44 = .ok (.iaload, 1) := by decide +kernel
theorem dX8_goCell_45 : decode cX8_goCell 45 = .ok (.aload_n 0, 1) := by decide +kernel
theorem dX8_goCell_46 : decode cX8_goCell 46 = .ok (.getfield 22, 3) := by decide +kernel
theorem dX8_goCell_49 : decode cX8_goCell 49 = .ok (.iload_n 1, 1) := by decide +kernel
theorem dX8_goCell_50 : decode cX8_goCell 50 = .ok (.iaload, 1) := by decide +kernel
theorem dX8_goCell_51 : decode cX8_goCell 51 = .ok (.invokevirtual 155, 3) := by decide +kernel
theorem dX8_goCell_54 : decode cX8_goCell 54 = .ok (.istore 5, 2) := by decide +kernel
theorem dX8_goCell_56 : decode cX8_goCell 56 = .ok (.aload_n 0, 1) := by decide +kernel
theorem dX8_goCell_57 : decode cX8_goCell 57 = .ok (.getfield 49, 3) := by decide +kernel
theorem dX8_goCell_60 : decode cX8_goCell 60 = .ok (.iload 4, 2) := by decide +kernel
theorem dX8_goCell_62 : decode cX8_goCell 62 = .ok (.dup2, 1) := by decide +kernel
theorem dX8_goCell_63 : decode cX8_goCell 63 = .ok (.iaload, 1) := by decide +kernel
theorem dX8_goCell_64 : decode cX8_goCell 64 = .ok (.iload 5, 2) := by decide +kernel
theorem dX8_goCell_66 : decode cX8_goCell 66 = .ok (.iadd, 1) := by decide +kernel
theorem dX8_goCell_67 : decode cX8_goCell 67 = .ok (.iastore, 1) := by decide +kernel
theorem dX8_goCell_68 : decode cX8_goCell 68 = .ok (.iload_n 3, 1) := by decide +kernel
theorem dX8_goCell_69 : decode cX8_goCell 69 = .ok (.iload 5, 2) := by decide +kernel
theorem dX8_goCell_71 : decode cX8_goCell 71 = .ok (.isub, 1) := by decide +kernel
theorem dX8_goCell_72 : decode cX8_goCell 72 = .ok (.istore_n 3, 1) := by decide +kernel
theorem dX8_goCell_73 : decode cX8_goCell 73 = .ok (.iinc 4 1, 3) := by decide +kernel
theorem dX8_goCell_76 : decode cX8_goCell 76 = .ok (.goto (-56), 3) := by decide +kernel
theorem dX8_goCell_79 : decode cX8_goCell 79 = .ok (.iload_n 3, 1) := by decide +kernel
theorem dX8_goCell_80 : decode cX8_goCell 80 = .ok (.ifCond .le 17, 3) := by decide +kernel
theorem dX8_goCell_83 : decode cX8_goCell 83 = .ok (.iload_n 3, 1) := by decide +kernel
theorem dX8_goCell_84 : decode cX8_goCell 84 = .ok (.aload_n 0, 1) := by decide +kernel
theorem dX8_goCell_85 : decode cX8_goCell 85 = .ok (.getfield 43, 3) := by decide +kernel
theorem dX8_goCell_88 : decode cX8_goCell 88 = .ok (.iload_n 1, 1) := by decide +kernel
theorem dX8_goCell_89 : decode cX8_goCell 89 = .ok (.iaload, 1) := by decide +kernel
theorem dX8_goCell_90 : decode cX8_goCell 90 = .ok (.imul, 1) := by decide +kernel
theorem dX8_goCell_91 : decode cX8_goCell 91 = .ok (.bipush 10, 2) := by decide +kernel
theorem dX8_goCell_93 : decode cX8_goCell 93 = .ok (.idiv, 1) := by decide +kernel
theorem dX8_goCell_94 : decode cX8_goCell 94 = .ok (.goto 4, 3) := by decide +kernel
theorem dX8_goCell_97 : decode cX8_goCell 97 = .ok (.iconst 0, 1) := by decide +kernel
theorem dX8_goCell_98 : decode cX8_goCell 98 = .ok (.istore 4, 2) := by decide +kernel
theorem dX8_goCell_100 : decode cX8_goCell 100 = .ok (.aload_n 0, 1) := by decide +kernel
theorem dX8_goCell_101 : decode cX8_goCell 101 = .ok (.dup, 1) := by decide +kernel
theorem dX8_goCell_102 : decode cX8_goCell 102 = .ok (.getfield 159, 3) := by decide +kernel
theorem dX8_goCell_105 : decode cX8_goCell 105 = .ok (.iload 4, 2) := by decide +kernel
theorem dX8_goCell_107 : decode cX8_goCell 107 = .ok (.iadd, 1) := by decide +kernel
theorem dX8_goCell_108 : decode cX8_goCell 108 = .ok (.putfield 159, 3) := by decide +kernel
theorem dX8_goCell_111 : decode cX8_goCell 111 = .ok (.iload_n 3, 1) := by decide +kernel
theorem dX8_goCell_112 : decode cX8_goCell 112 = .ok (.iload 4, 2) := by decide +kernel
theorem dX8_goCell_114 : decode cX8_goCell 114 = .ok (.isub, 1) := by decide +kernel
theorem dX8_goCell_115 : decode cX8_goCell 115 = .ok (.ireturn, 1) := by decide +kernel
theorem dX8_go_0 : decode cX8_go 0 = .ok (.aload_n 0, 1) := by decide +kernel
theorem dX8_go_1 : decode cX8_go 1 = .ok (.iload_n 1, 1) := by decide +kernel
theorem dX8_go_2 : decode cX8_go 2 = .ok (.putfield 152, 3) := by decide +kernel
theorem dX8_go_5 : decode cX8_go 5 = .ok (.aload_n 0, 1) := by decide +kernel
theorem dX8_go_6 : decode cX8_go 6 = .ok (.iconst 0, 1) := by decide +kernel
theorem dX8_go_7 : decode cX8_go 7 = .ok (.putfield 162, 3) := by decide +kernel
theorem dX8_go_10 : decode cX8_go 10 = .ok (.aload_n 0, 1) := by decide +kernel
theorem dX8_go_11 : decode cX8_go 11 = .ok (.iconst 0, 1) := by decide +kernel
theorem dX8_go_12 : decode cX8_go 12 = .ok (.putfield 165, 3) := by decide +kernel
theorem dX8_go_15 : decode cX8_go 15 = .ok (.aload_n 0, 1) := by decide +kernel
theorem dX8_go_16 : decode cX8_go 16 = .ok (.aload_n 0, 1) := by decide +kernel
theorem dX8_go_17 : decode cX8_go 17 = .ok (.getfield 116, 3) := by decide +kernel
theorem dX8_go_20 : decode cX8_go 20 = .ok (.iconst 1, 1) := by decide +kernel
theorem dX8_go_21 : decode cX8_go 21 = .ok (.isub, 1) := by decide +kernel
theorem dX8_go_22 : decode cX8_go 22 = .ok (.putfield 168, 3) := by decide +kernel
theorem dX8_go_25 : decode cX8_go 25 = .ok (.aload_n 0, 1) := by decide +kernel
theorem dX8_go_26 : decode cX8_go 26 = .ok (.iconst 0, 1) := by decide +kernel
theorem dX8_go_27 : decode cX8_go 27 = .ok (.putfield 159, 3) := by decide +kernel
theorem dX8_go_30 : decode cX8_go 30 = .ok (.iconst 0, 1) := by decide +kernel
theorem dX8_go_31 : decode cX8_go 31 = .ok (.istore_n 2, 1) := by decide +kernel
theorem dX8_go_32 : decode cX8_go 32 = .ok (.iload_n 2, 1) := by decide +kernel
theorem dX8_go_33 : decode cX8_go 33 = .ok (.bipush 6, 2) := by decide +kernel
theorem dX8_go_35 : decode cX8_go 35 = .ok (.if_icmp .ge 16, 3) := by decide +kernel
theorem dX8_go_38 : decode cX8_go 38 = .ok (.aload_n 0, 1) := by decide +kernel
theorem dX8_go_39 : decode cX8_go 39 = .ok (.getfield 49, 3) := by decide +kernel
theorem dX8_go_42 : decode cX8_go 42 = .ok (.iload_n 2, 1) := by decide +kernel
theorem dX8_go_43 : decode cX8_go 43 = .ok (.iconst 0, 1) := by decide +kernel
theorem dX8_go_44 : decode cX8_go 44 = .ok (.iastore, 1) := by decide +kernel
theorem dX8_go_45 : decode cX8_go 45 = .ok (.iinc 2 1, 3) := by decide +kernel
theorem dX8_go_48 : decode cX8_go 48 = .ok (.goto (-16), 3) := by decide +kernel
theorem dX8_go_51 : decode cX8_go 51 = .ok (.iconst 0, 1) := by decide +kernel
theorem dX8_go_52 : decode cX8_go 52 = .ok (.istore_n 2, 1) := by decide +kernel
theorem dX8_go_53 : decode cX8_go 53 = .ok (.iload_n 2, 1) := by decide +kernel
theorem dX8_go_54 : decode cX8_go 54 = .ok (.bipush 12, 2) := by decide +kernel
theorem dX8_go_56 : decode cX8_go 56 = .ok (.if_icmp .ge 16, 3) := by decide +kernel
theorem dX8_go_59 : decode cX8_go 59 = .ok (.aload_n 0, 1) := by decide +kernel
theorem dX8_go_60 : decode cX8_go 60 = .ok (.getfield 46, 3) := by decide +kernel
theorem dX8_go_63 : decode cX8_go 63 = .ok (.iload_n 2, 1) := by decide +kernel
theorem dX8_go_64 : decode cX8_go 64 = .ok (.iconst (-1), 1) := by decide +kernel
theorem dX8_go_65 : decode cX8_go 65 = .ok (.iastore, 1) := by decide +kernel
theorem dX8_go_66 : decode cX8_go 66 = .ok (.iinc 2 1, 3) := by decide +kernel
theorem dX8_go_69 : decode cX8_go 69 = .ok (.goto (-16), 3) := by decide +kernel
theorem dX8_go_72 : decode cX8_go 72 = .ok (.iconst 0, 1) := by decide +kernel
theorem dX8_go_73 : decode cX8_go 73 = .ok (.istore_n 2, 1) := by decide +kernel
theorem dX8_go_74 : decode cX8_go 74 = .ok (.iload_n 2, 1) := by decide +kernel
theorem dX8_go_75 : decode cX8_go 75 = .ok (.aload_n 0, 1) := by decide +kernel
theorem dX8_go_76 : decode cX8_go 76 = .ok (.getfield 116, 3) := by decide +kernel
theorem dX8_go_79 : decode cX8_go 79 = .ok (.if_icmp .ge 103, 3) := by decide +kernel
theorem dX8_go_82 : decode cX8_go 82 = .ok (.aload_n 0, 1) := by decide +kernel
theorem dX8_go_83 : decode cX8_go 83 = .ok (.aload_n 0, 1) := by decide +kernel
theorem dX8_go_84 : decode cX8_go 84 = .ok (.iload_n 2, 1) := by decide +kernel
theorem dX8_go_85 : decode cX8_go 85 = .ok (.invokevirtual 171, 3) := by decide +kernel
theorem dX8_go_88 : decode cX8_go 88 = .ok (.putfield 152, 3) := by decide +kernel
theorem dX8_go_91 : decode cX8_go 91 = .ok (.aload_n 0, 1) := by decide +kernel
theorem dX8_go_92 : decode cX8_go 92 = .ok (.getfield 152, 3) := by decide +kernel
theorem dX8_go_95 : decode cX8_go 95 = .ok (.ifCond .gt 19, 3) := by decide +kernel
theorem dX8_go_98 : decode cX8_go 98 = .ok (.aload_n 0, 1) := by decide +kernel
theorem dX8_go_99 : decode cX8_go 99 = .ok (.iconst 0, 1) := by decide +kernel
theorem dX8_go_100 : decode cX8_go 100 = .ok (.putfield 152, 3) := by decide +kernel
theorem dX8_go_103 : decode cX8_go 103 = .ok (.aload_n 0, 1) := by decide +kernel
theorem dX8_go_104 : decode cX8_go 104 = .ok (.iconst 1, 1) := by decide +kernel
theorem dX8_go_105 : decode cX8_go 105 = .ok (.putfield 165, 3) := by decide +kernel
theorem dX8_go_108 : decode cX8_go 108 = .ok (.aload_n 0, 1) := by decide +kernel
theorem dX8_go_109 : decode cX8_go 109 = .ok (.iload_n 2, 1) := by decide +kernel
theorem dX8_go_110 : decode cX8_go 110 = .ok (.putfield 168, 3) := by decide +kernel
theorem dX8_go_113 : decode cX8_go 113 = .ok (.return_, 1) := by decide +kernel
theorem dX8_go_114 : decode cX8_go 114 = .ok (.aload_n 0, 1) := by decide +kernel
theorem dX8_go_115 : decode cX8_go 115 = .ok (.getfield 46, 3) := by decide +kernel
theorem dX8_go_118 : decode cX8_go 118 = .ok (.iload_n 2, 1) := by decide +kernel
theorem dX8_go_119 : decode cX8_go 119 = .ok (.aload_n 0, 1) := by decide +kernel
theorem dX8_go_120 : decode cX8_go 120 = .ok (.getfield 152, 3) := by decide +kernel
theorem dX8_go_123 : decode cX8_go 123 = .ok (.iastore, 1) := by decide +kernel
theorem dX8_go_124 : decode cX8_go 124 = .ok (.aload_n 0, 1) := by decide +kernel
theorem dX8_go_125 : decode cX8_go 125 = .ok (.dup, 1) := by decide +kernel
theorem dX8_go_126 : decode cX8_go 126 = .ok (.getfield 162, 3) := by decide +kernel
theorem dX8_go_129 : decode cX8_go 129 = .ok (.sipush 1000, 3) := by decide +kernel
theorem dX8_go_132 : decode cX8_go 132 = .ok (.aload_n 0, 1) := by decide +kernel
theorem dX8_go_133 : decode cX8_go 133 = .ok (.getfield 152, 3) := by decide +kernel
theorem dX8_go_136 : decode cX8_go 136 = .ok (.invokestatic 174, 3) := by decide +kernel
theorem dX8_go_139 : decode cX8_go 139 = .ok (.idiv, 1) := by decide +kernel
theorem dX8_go_140 : decode cX8_go 140 = .ok (.iadd, 1) := by decide +kernel
theorem dX8_go_141 : decode cX8_go 141 = .ok (.putfield 162, 3) := by decide +kernel
theorem dX8_go_144 : decode cX8_go 144 = .ok (.aload_n 0, 1) := by decide +kernel
theorem dX8_go_145 : decode cX8_go 145 = .ok (.getfield 19, 3) := by decide +kernel
theorem dX8_go_148 : decode cX8_go 148 = .ok (.iload_n 2, 1) := by decide +kernel
theorem dX8_go_149 : decode cX8_go 149 = .ok (.iaload, 1) := by decide +kernel
theorem dX8_go_150 : decode cX8_go 150 = .ok (.ifCond .le 26, 3) := by decide +kernel
theorem dX8_go_153 : decode cX8_go 153 = .ok (.aload_n 0, 1) := by decide +kernel
theorem dX8_go_154 : decode cX8_go 154 = .ok (.getfield 152, 3) := by decide +kernel
theorem dX8_go_157 : decode cX8_go 157 = .ok (.aload_n 0, 1) := by decide +kernel
theorem dX8_go_158 : decode cX8_go 158 = .ok (.iload_n 2, 1) := by decide +kernel
theorem dX8_go_159 : decode cX8_go 159 = .ok (.invokevirtual 177, 3) := by decide +kernel
theorem dX8_go_162 : decode cX8_go 162 = .ok (.if_icmp .le 14, 3) := by decide +kernel
theorem dX8_go_165 : decode cX8_go 165 = .ok (.aload_n 0, 1) := by decide +kernel
theorem dX8_go_166 : decode cX8_go 166 = .ok (.iconst 2, 1) := by decide +kernel
theorem dX8_go_167 : decode cX8_go 167 = .ok (.putfield 165, 3) := by decide +kernel
theorem dX8_go_170 : decode cX8_go 170 = .ok (.aload_n 0, 1) := by decide +kernel
theorem dX8_go_171 : decode cX8_go 171 = .ok (.iload_n 2, 1) := by decide +kernel
theorem dX8_go_172 : decode cX8_go 172 = .ok (.putfield 168, 3) := by decide +kernel
theorem dX8_go_175 : decode cX8_go 175 = .ok (.return_, 1) := by decide +kernel
theorem dX8_go_176 : decode cX8_go 176 = .ok (.iinc 2 1, 3) := by decide +kernel
theorem dX8_go_179 : decode cX8_go 179 = .ok (.goto (-105), 3) := by decide +kernel
theorem dX8_go_182 : decode cX8_go 182 = .ok (.return_, 1) := by decide +kernel
theorem dX8_isSwing_0 : decode cX8_isSwing 0 = .ok (.iload_n 0, 1) := by decide +kernel
theorem dX8_isSwing_1 : decode cX8_isSwing 1 = .ok (.i2l, 1) := by decide +kernel
theorem dX8_isSwing_2 : decode cX8_isSwing 2 = .ok (.lconst 0, 1) := by decide +kernel
theorem dX8_isSwing_3 : decode cX8_isSwing 3 = .ok (.ldc2_w 180, 3) := by decide +kernel
theorem dX8_isSwing_6 : decode cX8_isSwing 6 = .ok (.invokestatic 89, 3) := by decide +kernel
theorem dX8_isSwing_9 : decode cX8_isSwing 9 = .ok (.ireturn, 1) := by decide +kernel
theorem dX8_lacks_0 : decode cX8_lacks 0 = .ok (.aload_n 0, 1) := by decide +kernel
theorem dX8_lacks_1 : decode cX8_lacks 1 = .ok (.getfield 116, 3) := by decide +kernel
theorem dX8_lacks_4 : decode cX8_lacks 4 = .ok (.ifCond .ne 7, 3) := by decide +kernel
theorem dX8_lacks_7 : decode cX8_lacks 7 = .ok (.iconst 1, 1) := by decide +kernel
theorem dX8_lacks_8 : decode cX8_lacks 8 = .ok (.goto 4, 3) := by decide +kernel
theorem dX8_lacks_11 : decode cX8_lacks 11 = .ok (.iconst 0, 1) := by decide +kernel
theorem dX8_lacks_12 : decode cX8_lacks 12 = .ok (.ireturn, 1) := by decide +kernel
theorem dX8_run_0 : decode cX8_run 0 = .ok (.aload_n 0, 1) := by decide +kernel
theorem dX8_run_1 : decode cX8_run 1 = .ok (.iload_n 1, 1) := by decide +kernel
theorem dX8_run_2 : decode cX8_run 2 = .ok (.invokevirtual 132, 3) := by decide +kernel
theorem dX8_run_5 : decode cX8_run 5 = .ok (.ifCond .ne 6, 3) := by decide +kernel
theorem dX8_run_8 : decode cX8_run 8 = .ok (.bipush (-101), 2) := by decide +kernel
theorem dX8_run_10 : decode cX8_run 10 = .ok (.ireturn, 1) := by decide +kernel
theorem dX8_run_11 : decode cX8_run 11 = .ok (.aload_n 0, 1) := by decide +kernel
theorem dX8_run_12 : decode cX8_run 12 = .ok (.invokevirtual 182, 3) := by decide +kernel
theorem dX8_run_15 : decode cX8_run 15 = .ok (.ifCond .eq 6, 3) := by decide +kernel
theorem dX8_run_18 : decode cX8_run 18 = .ok (.bipush (-103), 2) := by decide +kernel
theorem dX8_run_20 : decode cX8_run 20 = .ok (.ireturn, 1) := by decide +kernel
theorem dX8_run_21 : decode cX8_run 21 = .ok (.iload_n 2, 1) := by decide +kernel
theorem dX8_run_22 : decode cX8_run 22 = .ok (.invokestatic 186, 3) := by decide +kernel
theorem dX8_run_25 : decode cX8_run 25 = .ok (.ifCond .eq 15, 3) := by decide +kernel
theorem dX8_run_28 : decode cX8_run 28 = .ok (.iload_n 3, 1) := by decide +kernel
theorem dX8_run_29 : decode cX8_run 29 = .ok (.i2l, 1) := by decide +kernel
theorem dX8_run_30 : decode cX8_run 30 = .ok (.lconst 0, 1) := by decide +kernel
theorem dX8_run_31 : decode cX8_run 31 = .ok (.ldc2_w 189, 3) := by decide +kernel
theorem dX8_run_34 : decode cX8_run 34 = .ok (.invokestatic 89, 3) := by decide +kernel
theorem dX8_run_37 : decode cX8_run 37 = .ok (.ifCond .ne 6, 3) := by decide +kernel
theorem dX8_run_40 : decode cX8_run 40 = .ok (.bipush (-102), 2) := by decide +kernel
theorem dX8_run_42 : decode cX8_run 42 = .ok (.ireturn, 1) := by decide +kernel
theorem dX8_run_43 : decode cX8_run 43 = .ok (.aload_n 0, 1) := by decide +kernel
theorem dX8_run_44 : decode cX8_run 44 = .ok (.iload_n 1, 1) := by decide +kernel
theorem dX8_run_45 : decode cX8_run 45 = .ok (.invokevirtual 191, 3) := by decide +kernel
theorem dX8_run_48 : decode cX8_run 48 = .ok (.aload_n 0, 1) := by decide +kernel
theorem dX8_run_49 : decode cX8_run 49 = .ok (.iload_n 2, 1) := by decide +kernel
theorem dX8_run_50 : decode cX8_run 50 = .ok (.invokevirtual 195, 3) := by decide +kernel
theorem dX8_run_53 : decode cX8_run 53 = .ok (.iload_n 3, 1) := by decide +kernel
theorem dX8_run_54 : decode cX8_run 54 = .ok (.ifCond .ne 10, 3) := by decide +kernel
theorem dX8_run_57 : decode cX8_run 57 = .ok (.aload_n 0, 1) := by decide +kernel
theorem dX8_run_58 : decode cX8_run 58 = .ok (.getfield 165, 3) := by decide +kernel
theorem dX8_run_61 : decode cX8_run 61 = .ok (.goto 31, 3) := by decide +kernel
theorem dX8_run_64 : decode cX8_run 64 = .ok (.iload_n 3, 1) := by decide +kernel
theorem dX8_run_65 : decode cX8_run 65 = .ok (.iconst 1, 1) := by decide +kernel
theorem dX8_run_66 : decode cX8_run 66 = .ok (.if_icmp .ne 10, 3) := by decide +kernel
theorem dX8_run_69 : decode cX8_run 69 = .ok (.aload_n 0, 1) := by decide +kernel
theorem dX8_run_70 : decode cX8_run 70 = .ok (.getfield 168, 3) := by decide +kernel
theorem dX8_run_73 : decode cX8_run 73 = .ok (.goto 19, 3) := by decide +kernel
theorem dX8_run_76 : decode cX8_run 76 = .ok (.iload_n 3, 1) := by decide +kernel
theorem dX8_run_77 : decode cX8_run 77 = .ok (.iconst 2, 1) := by decide +kernel
theorem dX8_run_78 : decode cX8_run 78 = .ok (.if_icmp .ne 10, 3) := by decide +kernel
theorem dX8_run_81 : decode cX8_run 81 = .ok (.aload_n 0, 1) := by decide +kernel
theorem dX8_run_82 : decode cX8_run 82 = .ok (.getfield 162, 3) := by decide +kernel
theorem dX8_run_85 : decode cX8_run 85 = .ok (.goto 7, 3) := by decide +kernel
theorem dX8_run_88 : decode cX8_run 88 = .ok (.aload_n 0, 1) := by decide +kernel
theorem dX8_run_89 : decode cX8_run 89 = .ok (.getfield 152, 3) := by decide +kernel
theorem dX8_run_92 : decode cX8_run 92 = .ok (.ireturn, 1) := by decide +kernel
theorem dX8_pace_0 : decode cX8_pace 0 = .ok (.aload_n 0, 1) := by decide +kernel
theorem dX8_pace_1 : decode cX8_pace 1 = .ok (.iload_n 1, 1) := by decide +kernel
theorem dX8_pace_2 : decode cX8_pace 2 = .ok (.invokevirtual 132, 3) := by decide +kernel
theorem dX8_pace_5 : decode cX8_pace 5 = .ok (.ifCond .eq 11, 3) := by decide +kernel
theorem dX8_pace_8 : decode cX8_pace 8 = .ok (.aload_n 0, 1) := by decide +kernel
theorem dX8_pace_9 : decode cX8_pace 9 = .ok (.iload_n 3, 1) := by decide +kernel
theorem dX8_pace_10 : decode cX8_pace 10 = .ok (.invokevirtual 125, 3) := by decide +kernel
theorem dX8_pace_13 : decode cX8_pace 13 = .ok (.ifCond .ne 6, 3) := by decide +kernel
theorem dX8_pace_16 : decode cX8_pace 16 = .ok (.bipush (-101), 2) := by decide +kernel
theorem dX8_pace_18 : decode cX8_pace 18 = .ok (.ireturn, 1) := by decide +kernel
theorem dX8_pace_19 : decode cX8_pace 19 = .ok (.iload_n 2, 1) := by decide +kernel
theorem dX8_pace_20 : decode cX8_pace 20 = .ok (.invokestatic 186, 3) := by decide +kernel
theorem dX8_pace_23 : decode cX8_pace 23 = .ok (.ifCond .ne 6, 3) := by decide +kernel
theorem dX8_pace_26 : decode cX8_pace 26 = .ok (.bipush (-102), 2) := by decide +kernel
theorem dX8_pace_28 : decode cX8_pace 28 = .ok (.ireturn, 1) := by decide +kernel
theorem dX8_pace_29 : decode cX8_pace 29 = .ok (.aload_n 0, 1) := by decide +kernel
theorem dX8_pace_30 : decode cX8_pace 30 = .ok (.iload_n 1, 1) := by decide +kernel
theorem dX8_pace_31 : decode cX8_pace 31 = .ok (.invokevirtual 191, 3) := by decide +kernel
theorem dX8_pace_34 : decode cX8_pace 34 = .ok (.aload_n 0, 1) := by decide +kernel
theorem dX8_pace_35 : decode cX8_pace 35 = .ok (.iload_n 2, 1) := by decide +kernel
theorem dX8_pace_36 : decode cX8_pace 36 = .ok (.invokevirtual 195, 3) := by decide +kernel
theorem dX8_pace_39 : decode cX8_pace 39 = .ok (.aload_n 0, 1) := by decide +kernel
theorem dX8_pace_40 : decode cX8_pace 40 = .ok (.getfield 46, 3) := by decide +kernel
theorem dX8_pace_43 : decode cX8_pace 43 = .ok (.iload_n 3, 1) := by decide +kernel
theorem dX8_pace_44 : decode cX8_pace 44 = .ok (.iaload, 1) := by decide +kernel
theorem dX8_pace_45 : decode cX8_pace 45 = .ok (.ireturn, 1) := by decide +kernel
theorem dX8_lost_0 : decode cX8_lost 0 = .ok (.aload_n 0, 1) := by decide +kernel
theorem dX8_lost_1 : decode cX8_lost 1 = .ok (.iload_n 1, 1) := by decide +kernel
theorem dX8_lost_2 : decode cX8_lost 2 = .ok (.invokevirtual 132, 3) := by decide +kernel
theorem dX8_lost_5 : decode cX8_lost 5 = .ok (.ifCond .eq 17, 3) := by decide +kernel
theorem dX8_lost_8 : decode cX8_lost 8 = .ok (.iload_n 3, 1) := by decide +kernel
theorem dX8_lost_9 : decode cX8_lost 9 = .ok (.iconst (-1), 1) := by decide +kernel
theorem dX8_lost_10 : decode cX8_lost 10 = .ok (.if_icmp .eq 15, 3) := by decide +kernel
theorem dX8_lost_13 : decode cX8_lost 13 = .ok (.aload_n 0, 1) := by decide +kernel
theorem dX8_lost_14 : decode cX8_lost 14 = .ok (.iload_n 1, 1) := by decide +kernel
theorem dX8_lost_15 : decode cX8_lost 15 = .ok (.iload_n 3, 1) := by decide +kernel
theorem dX8_lost_16 : decode cX8_lost 16 = .ok (.invokevirtual 135, 3) := by decide +kernel
theorem dX8_lost_19 : decode cX8_lost 19 = .ok (.ifCond .ne 6, 3) := by decide +kernel
theorem dX8_lost_22 : decode cX8_lost 22 = .ok (.bipush (-101), 2) := by decide +kernel
theorem dX8_lost_24 : decode cX8_lost 24 = .ok (.ireturn, 1) := by decide +kernel
theorem dX8_lost_25 : decode cX8_lost 25 = .ok (.aload_n 0, 1) := by decide +kernel
theorem dX8_lost_26 : decode cX8_lost 26 = .ok (.invokevirtual 182, 3) := by decide +kernel
theorem dX8_lost_29 : decode cX8_lost 29 = .ok (.ifCond .eq 6, 3) := by decide +kernel
theorem dX8_lost_32 : decode cX8_lost 32 = .ok (.bipush (-103), 2) := by decide +kernel
theorem dX8_lost_34 : decode cX8_lost 34 = .ok (.ireturn, 1) := by decide +kernel
theorem dX8_lost_35 : decode cX8_lost 35 = .ok (.iload_n 2, 1) := by decide +kernel
theorem dX8_lost_36 : decode cX8_lost 36 = .ok (.invokestatic 186, 3) := by decide +kernel
theorem dX8_lost_39 : decode cX8_lost 39 = .ok (.ifCond .ne 6, 3) := by decide +kernel
theorem dX8_lost_42 : decode cX8_lost 42 = .ok (.bipush (-102), 2) := by decide +kernel
theorem dX8_lost_44 : decode cX8_lost 44 = .ok (.ireturn, 1) := by decide +kernel
theorem dX8_lost_45 : decode cX8_lost 45 = .ok (.aload_n 0, 1) := by decide +kernel
theorem dX8_lost_46 : decode cX8_lost 46 = .ok (.iload_n 1, 1) := by decide +kernel
theorem dX8_lost_47 : decode cX8_lost 47 = .ok (.invokevirtual 191, 3) := by decide +kernel
theorem dX8_lost_50 : decode cX8_lost 50 = .ok (.aload_n 0, 1) := by decide +kernel
theorem dX8_lost_51 : decode cX8_lost 51 = .ok (.iload_n 2, 1) := by decide +kernel
theorem dX8_lost_52 : decode cX8_lost 52 = .ok (.invokevirtual 195, 3) := by decide +kernel
theorem dX8_lost_55 : decode cX8_lost 55 = .ok (.iload_n 3, 1) := by decide +kernel
theorem dX8_lost_56 : decode cX8_lost 56 = .ok (.iconst (-1), 1) := by decide +kernel
theorem dX8_lost_57 : decode cX8_lost 57 = .ok (.if_icmp .ne 10, 3) := by decide +kernel
theorem dX8_lost_60 : decode cX8_lost 60 = .ok (.aload_n 0, 1) := by decide +kernel
theorem dX8_lost_61 : decode cX8_lost 61 = .ok (.getfield 159, 3) := by decide +kernel
theorem dX8_lost_64 : decode cX8_lost 64 = .ok (.goto 9, 3) := by decide +kernel
theorem dX8_lost_67 : decode cX8_lost 67 = .ok (.aload_n 0, 1) := by decide +kernel
theorem dX8_lost_68 : decode cX8_lost 68 = .ok (.getfield 49, 3) := by decide +kernel
theorem dX8_lost_71 : decode cX8_lost 71 = .ok (.iload_n 3, 1) := by decide +kernel
theorem dX8_lost_72 : decode cX8_lost 72 = .ok (.iaload, 1) := by decide +kernel
theorem dX8_lost_73 : decode cX8_lost 73 = .ok (.ireturn, 1) := by decide +kernel
theorem dX8_bendAt_0 : decode cX8_bendAt 0 = .ok (.iconst 0, 1) := by decide +kernel
theorem dX8_bendAt_1 : decode cX8_bendAt 1 = .ok (.istore_n 2, 1) := by decide +kernel
theorem dX8_bendAt_2 : decode cX8_bendAt 2 = .ok (.iconst 0, 1) := by decide +kernel
theorem dX8_bendAt_3 : decode cX8_bendAt 3 = .ok (.istore_n 3, 1) := by decide +kernel
theorem dX8_bendAt_4 : decode cX8_bendAt 4 = .ok (.iload_n 3, 1) := by decide +kernel
theorem dX8_bendAt_5 : decode cX8_bendAt 5 = .ok (.aload_n 0, 1) := by decide +kernel
theorem dX8_bendAt_6 : decode cX8_bendAt 6 = .ok (.getfield 116, 3) := by decide +kernel
theorem dX8_bendAt_9 : decode cX8_bendAt 9 = .ok (.if_icmp .ge 28, 3) := by decide +kernel
theorem dX8_bendAt_12 : decode cX8_bendAt 12 = .ok (.aload_n 0, 1) := by decide +kernel
theorem dX8_bendAt_13 : decode cX8_bendAt 13 = .ok (.getfield 19, 3) := by decide +kernel
theorem dX8_bendAt_16 : decode cX8_bendAt 16 = .ok (.iload_n 3, 1) := by decide +kernel
theorem dX8_bendAt_17 : decode cX8_bendAt 17 = .ok (.iaload, 1) := by decide +kernel
theorem dX8_bendAt_18 : decode cX8_bendAt 18 = .ok (.ifCond .le 13, 3) := by decide +kernel
theorem dX8_bendAt_21 : decode cX8_bendAt 21 = .ok (.iload_n 2, 1) := by decide +kernel
theorem dX8_bendAt_22 : decode cX8_bendAt 22 = .ok (.iload_n 1, 1) := by decide +kernel
theorem dX8_bendAt_23 : decode cX8_bendAt 23 = .ok (.if_icmp .ne 5, 3) := by decide +kernel
theorem dX8_bendAt_26 : decode cX8_bendAt 26 = .ok (.iload_n 3, 1) := by decide +kernel
theorem dX8_bendAt_27 : decode cX8_bendAt 27 = .ok (.ireturn, 1) := by decide +kernel
theorem dX8_bendAt_28 : decode cX8_bendAt 28 = .ok (.iinc 2 1, 3) := by decide +kernel
theorem dX8_bendAt_31 : decode cX8_bendAt 31 = .ok (.iinc 3 1, 3) := by decide +kernel
theorem dX8_bendAt_34 : decode cX8_bendAt 34 = .ok (.goto (-30), 3) := by decide +kernel
theorem dX8_bendAt_37 : decode cX8_bendAt 37 = .ok (.iconst (-1), 1) := by decide +kernel
theorem dX8_bendAt_38 : decode cX8_bendAt 38 = .ok (.ireturn, 1) := by decide +kernel
theorem dX8_isBraked_0 : decode cX8_isBraked 0 = .ok (.aload_n 0, 1) := by decide +kernel
theorem dX8_isBraked_1 : decode cX8_isBraked 1 = .ok (.iload_n 1, 1) := by decide +kernel
theorem dX8_isBraked_2 : decode cX8_isBraked 2 = .ok (.invokevirtual 198, 3) := by decide +kernel
theorem dX8_isBraked_5 : decode cX8_isBraked 5 = .ok (.ifCond .le 7, 3) := by decide +kernel
theorem dX8_isBraked_8 : decode cX8_isBraked 8 = .ok (.iconst 1, 1) := by decide +kernel
theorem dX8_isBraked_9 : decode cX8_isBraked 9 = .ok (.goto 4, 3) := by decide +kernel
theorem dX8_isBraked_12 : decode cX8_isBraked 12 = .ok (.iconst 0, 1) := by decide +kernel
theorem dX8_isBraked_13 : decode cX8_isBraked 13 = .ok (.ireturn, 1) := by decide +kernel
theorem dX8_bestBrakes_0 : decode cX8_bestBrakes 0 = .ok (.aload_n 0, 1) := by decide +kernel
theorem dX8_bestBrakes_1 : decode cX8_bestBrakes 1 = .ok (.iload_n 1, 1) := by decide +kernel
theorem dX8_bestBrakes_2 : decode cX8_bestBrakes 2 = .ok (.invokevirtual 132, 3) := by decide +kernel
theorem dX8_bestBrakes_5 : decode cX8_bestBrakes 5 = .ok (.ifCond .ne 6, 3) := by decide +kernel
theorem dX8_bestBrakes_8 : decode cX8_bestBrakes 8 = .ok (.bipush (-101), 2) := by decide +kernel
theorem dX8_bestBrakes_10 : decode cX8_bestBrakes 10 = .ok (.ireturn, 1) := by decide +kernel
theorem dX8_bestBrakes_11 : decode cX8_bestBrakes 11 = .ok (.aload_n 0, 1) := by decide +kernel
theorem dX8_bestBrakes_12 : decode cX8_bestBrakes 12 = .ok (.invokevirtual 182, 3) := by decide +kernel
theorem dX8_bestBrakes_15 : decode cX8_bestBrakes 15 = .ok (.ifCond .eq 6, 3) := by decide +kernel
theorem dX8_bestBrakes_18 : decode cX8_bestBrakes 18 = .ok (.bipush (-103), 2) := by decide +kernel
theorem dX8_bestBrakes_20 : decode cX8_bestBrakes 20 = .ok (.ireturn, 1) := by decide +kernel
theorem dX8_bestBrakes_21 : decode cX8_bestBrakes 21 = .ok (.iload_n 2, 1) := by decide +kernel
theorem dX8_bestBrakes_22 : decode cX8_bestBrakes 22 = .ok (.invokestatic 186, 3) := by decide +kernel
theorem dX8_bestBrakes_25 : decode cX8_bestBrakes 25 = .ok (.ifCond .eq 15, 3) := by decide +kernel
theorem dX8_bestBrakes_28 : decode cX8_bestBrakes 28 = .ok (.iload_n 3, 1) := by decide +kernel
theorem dX8_bestBrakes_29 : decode cX8_bestBrakes 29 = .ok (.i2l, 1) := by decide +kernel
theorem dX8_bestBrakes_30 : decode cX8_bestBrakes 30 = .ok (.lconst 0, 1) := by decide +kernel
theorem dX8_bestBrakes_31 : decode cX8_bestBrakes 31 = .ok (.ldc2_w 201, 3) := by decide +kernel
theorem dX8_bestBrakes_34 : decode cX8_bestBrakes 34 = .ok (.invokestatic 89, 3) := by decide +kernel
theorem dX8_bestBrakes_37 : decode cX8_bestBrakes 37 = .ok (.ifCond .ne 6, 3) := by decide +kernel
theorem dX8_bestBrakes_40 : decode cX8_bestBrakes 40 = .ok (.bipush (-102), 2) := by decide +kernel
theorem dX8_bestBrakes_42 : decode cX8_bestBrakes 42 = .ok (.ireturn, 1) := by decide +kernel
theorem dX8_bestBrakes_43 : decode cX8_bestBrakes 43 = .ok (.aload_n 0, 1) := by decide +kernel
theorem dX8_bestBrakes_44 : decode cX8_bestBrakes 44 = .ok (.iload_n 1, 1) := by decide +kernel
theorem dX8_bestBrakes_45 : decode cX8_bestBrakes 45 = .ok (.invokevirtual 191, 3) := by decide +kernel
theorem dX8_bestBrakes_48 : decode cX8_bestBrakes 48 = .ok (.iconst (-1), 1) := by decide +kernel
theorem dX8_bestBrakes_49 : decode cX8_bestBrakes 49 = .ok (.istore 4, 2) := by decide +kernel
theorem dX8_bestBrakes_51 : decode cX8_bestBrakes 51 = .ok (.iconst 0, 1) := by decide +kernel
theorem dX8_bestBrakes_52 : decode cX8_bestBrakes 52 = .ok (.istore 5, 2) := by decide +kernel
theorem dX8_bestBrakes_54 : decode cX8_bestBrakes 54 = .ok (.iconst 0, 1) := by decide +kernel
theorem dX8_bestBrakes_55 : decode cX8_bestBrakes 55 = .ok (.istore 6, 2) := by decide +kernel
theorem dX8_bestBrakes_57 : decode cX8_bestBrakes 57 = .ok (.iload 6, 2) := by decide +kernel
theorem dX8_bestBrakes_59 : decode cX8_bestBrakes 59 = .ok (.sipush 256, 3) := by decide +kernel
theorem dX8_bestBrakes_62 : decode cX8_bestBrakes 62 = .ok (.if_icmp .ge 186, 3) := by decide +kernel
theorem dX8_bestBrakes_65 : decode cX8_bestBrakes 65 = .ok (.iconst 1, 1) := by decide +kernel
theorem dX8_bestBrakes_66 : decode cX8_bestBrakes 66 = .ok (.istore 7, 2) := by decide +kernel
theorem dX8_bestBrakes_68 : decode cX8_bestBrakes 68 = .ok (.iconst 0, 1) := by decide +kernel
theorem dX8_bestBrakes_69 : decode cX8_bestBrakes 69 = .ok (.istore 8, 2) := by decide +kernel
theorem dX8_bestBrakes_71 : decode cX8_bestBrakes 71 = .ok (.iload 8, 2) := by decide +kernel
theorem dX8_bestBrakes_73 : decode cX8_bestBrakes 73 = .ok (.bipush 12, 2) := by decide +kernel
theorem dX8_bestBrakes_75 : decode cX8_bestBrakes 75 = .ok (.if_icmp .ge 17, 3) := by decide +kernel
theorem dX8_bestBrakes_78 : decode cX8_bestBrakes 78 = .ok (.aload_n 0, 1) := by decide +kernel
theorem dX8_bestBrakes_79 : decode cX8_bestBrakes 79 = .ok (.getfield 43, 3) := by decide +kernel
theorem dX8_bestBrakes_82 : decode cX8_bestBrakes 82 = .ok (.iload 8, 2) := by decide +kernel
theorem dX8_bestBrakes_84 : decode cX8_bestBrakes 84 = .ok (.iconst 0, 1) := by decide +kernel
theorem dX8_bestBrakes_85 : decode cX8_bestBrakes 85 = .ok (.iastore, 1) := by decide +kernel
theorem dX8_bestBrakes_86 : decode cX8_bestBrakes 86 = .ok (.iinc 8 1, 3) := by decide +kernel
theorem dX8_bestBrakes_89 : decode cX8_bestBrakes 89 = .ok (.goto (-18), 3) := by decide +kernel
theorem dX8_bestBrakes_92 : decode cX8_bestBrakes 92 = .ok (.iconst 0, 1) := by decide +kernel
theorem dX8_bestBrakes_93 : decode cX8_bestBrakes 93 = .ok (.istore 8, 2) := by decide +kernel
theorem dX8_bestBrakes_95 : decode cX8_bestBrakes 95 = .ok (.iload 8, 2) := by decide +kernel
theorem dX8_bestBrakes_97 : decode cX8_bestBrakes 97 = .ok (.iconst 4, 1) := by decide +kernel
theorem dX8_bestBrakes_98 : decode cX8_bestBrakes 98 = .ok (.if_icmp .ge 75, 3) := by decide +kernel
theorem dX8_bestBrakes_101 : decode cX8_bestBrakes 101 = .ok (.iload 6, 2) := by decide +kernel
theorem dX8_bestBrakes_103 : decode cX8_bestBrakes 103 = .ok (.bipush 6, 2) := by decide +kernel
theorem dX8_bestBrakes_105 : decode cX8_bestBrakes 105 = .ok (.iconst 2, 1) := by decide +kernel
theorem dX8_bestBrakes_106 : decode cX8_bestBrakes 106 = .ok (.iload 8, 2) := by decide +kernel
theorem dX8_bestBrakes_108 : decode cX8_bestBrakes 108 = .ok (.imul, 1) := by decide +kernel
theorem dX8_bestBrakes_109 : decode cX8_bestBrakes 109 = .ok (.isub, 1) := by decide +kernel
theorem dX8_bestBrakes_110 : decode cX8_bestBrakes 110 = .ok (.ishr, 1) := by decide +kernel
theorem dX8_bestBrakes_111 : decode cX8_bestBrakes 111 = .ok (.iconst 3, 1) := by decide +kernel
theorem dX8_bestBrakes_112 : decode cX8_bestBrakes 112 = .ok (.iand, 1) := by decide +kernel
theorem dX8_bestBrakes_113 : decode cX8_bestBrakes 113 = .ok (.istore 9, 2) := by decide +kernel
theorem dX8_bestBrakes_115 : decode cX8_bestBrakes 115 = .ok (.iload 7, 2) := by decide +kernel
theorem dX8_bestBrakes_117 : decode cX8_bestBrakes 117 = .ok (.ifCond .eq 21, 3) := by decide +kernel
theorem dX8_bestBrakes_120 : decode cX8_bestBrakes 120 = .ok (.iload 9, 2) := by decide +kernel
theorem dX8_bestBrakes_122 : decode cX8_bestBrakes 122 = .ok (.ifCond .eq 12, 3) := by decide +kernel
theorem dX8_bestBrakes_125 : decode cX8_bestBrakes 125 = .ok (.aload_n 0, 1) := by decide +kernel
theorem dX8_bestBrakes_126 : decode cX8_bestBrakes 126 = .ok (.iload 8, 2) := by decide +kernel
theorem dX8_bestBrakes_128 : decode cX8_bestBrakes 128 = .ok (.invokevirtual 203, 3) := by decide +kernel
theorem dX8_bestBrakes_131 : decode cX8_bestBrakes 131 = .ok (.ifCond .eq 7, 3) := by decide +kernel
theorem dX8_bestBrakes_134 : decode cX8_bestBrakes 134 = .ok (.iconst 1, 1) := by decide +kernel
theorem dX8_bestBrakes_135 : decode cX8_bestBrakes 135 = .ok (.goto 4, 3) := by decide +kernel
theorem dX8_bestBrakes_138 : decode cX8_bestBrakes 138 = .ok (.iconst 0, 1) := by decide +kernel
theorem dX8_bestBrakes_139 : decode cX8_bestBrakes 139 = .ok (.istore 7, 2) := by decide +kernel
theorem dX8_bestBrakes_141 : decode cX8_bestBrakes 141 = .ok (.aload_n 0, 1) := by decide +kernel
theorem dX8_bestBrakes_142 : decode cX8_bestBrakes 142 = .ok (.iload 8, 2) := by decide +kernel
theorem dX8_bestBrakes_144 : decode cX8_bestBrakes 144 = .ok (.invokevirtual 203, 3) := by decide +kernel
theorem dX8_bestBrakes_147 : decode cX8_bestBrakes 147 = .ok (.ifCond .eq 20, 3) := by decide +kernel
theorem dX8_bestBrakes_150 : decode cX8_bestBrakes 150 = .ok (.aload_n 0, 1) := by decide +kernel
theorem dX8_bestBrakes_151 : decode cX8_bestBrakes 151 = .ok (.getfield 43, 3) := by decide +kernel
theorem dX8_bestBrakes_154 : decode cX8_bestBrakes 154 = .ok (.aload_n 0, 1) := by decide +kernel
theorem dX8_bestBrakes_155 : decode cX8_bestBrakes 155 = .ok (.iload 8, 2) := by decide +kernel
theorem dX8_bestBrakes_157 : decode cX8_bestBrakes 157 = .ok (.invokevirtual 198, 3) := by decide +kernel
theorem dX8_bestBrakes_160 : decode cX8_bestBrakes 160 = .ok (.iconst 1, 1) := by decide +kernel
theorem dX8_bestBrakes_161 : decode cX8_bestBrakes 161 = .ok (.isub, 1) := by decide +kernel
theorem dX8_bestBrakes_162 : decode cX8_bestBrakes 162 = .ok (.iconst 3, 1) := by decide +kernel
theorem dX8_bestBrakes_163 : decode cX8_bestBrakes 163 = .ok (.iload 9, 2) := by decide +kernel
theorem dX8_bestBrakes_165 : decode cX8_bestBrakes 165 = .ok (.imul, 1) := by decide +kernel
theorem dX8_bestBrakes_166 : decode cX8_bestBrakes 166 = .ok (.iastore, 1) := by decide +kernel
theorem dX8_bestBrakes_167 : decode cX8_bestBrakes 167 = .ok (.iinc 8 1, 3) := by decide +kernel
theorem dX8_bestBrakes_170 : decode cX8_bestBrakes 170 = .ok (.goto (-75), 3) := by decide +kernel
theorem dX8_bestBrakes_173 : decode cX8_bestBrakes 173 = .ok (.iload 7, 2) := by decide +kernel
theorem dX8_bestBrakes_175 : decode cX8_bestBrakes 175 = .ok (.ifCond .eq 67, 3) := by decide +kernel
theorem dX8_bestBrakes_178 : decode cX8_bestBrakes 178 = .ok (.aload_n 0, 1) := by decide +kernel
theorem dX8_bestBrakes_179 : decode cX8_bestBrakes 179 = .ok (.iload_n 2, 1) := by decide +kernel
theorem dX8_bestBrakes_180 : decode cX8_bestBrakes 180 = .ok (.invokevirtual 195, 3) := by decide +kernel
theorem dX8_bestBrakes_183 : decode cX8_bestBrakes 183 = .ok (.aload_n 0, 1) := by decide +kernel
theorem dX8_bestBrakes_184 : decode cX8_bestBrakes 184 = .ok (.getfield 165, 3) := by decide +kernel
theorem dX8_bestBrakes_187 : decode cX8_bestBrakes 187 = .ok (.ifCond .ne 22, 3) := by decide +kernel
theorem dX8_bestBrakes_190 : decode cX8_bestBrakes 190 = .ok (.iload 4, 2) := by decide +kernel
theorem dX8_bestBrakes_192 : decode cX8_bestBrakes 192 = .ok (.iconst (-1), 1) := by decide +kernel
theorem dX8_bestBrakes_193 : decode cX8_bestBrakes 193 = .ok (.if_icmp .eq 12, 3) := by decide +kernel
theorem dX8_bestBrakes_196 : decode cX8_bestBrakes 196 = .ok (.aload_n 0, 1) := by decide +kernel
theorem dX8_bestBrakes_197 : decode cX8_bestBrakes 197 = .ok (.getfield 162, 3) := by decide +kernel
theorem dX8_bestBrakes_200 : decode cX8_bestBrakes 200 = .ok (.iload 5, 2) := by decide +kernel
theorem dX8_bestBrakes_202 : decode cX8_bestBrakes 202 = .ok (.if_icmp .ge 7, 3) := by decide +kernel
theorem dX8_bestBrakes_205 : decode cX8_bestBrakes 205 = .ok (.iconst 1, 1) := by decide +kernel
theorem dX8_bestBrakes_206 : decode cX8_bestBrakes 206 = .ok (.goto 4, 3) := by decide +kernel
theorem dX8_bestBrakes_209 : decode cX8_bestBrakes 209 = .ok (.iconst 0, 1) := by decide +kernel
theorem dX8_bestBrakes_210 : decode cX8_bestBrakes 210 = .ok (.istore 8, 2) := by decide +kernel
theorem dX8_bestBrakes_212 : decode cX8_bestBrakes 212 = .ok (.iload 8, 2) := by decide +kernel
theorem dX8_bestBrakes_214 : decode cX8_bestBrakes 214 = .ok (.ifCond .eq 8, 3) := by decide +kernel
theorem dX8_bestBrakes_217 : decode cX8_bestBrakes 217 = .ok (.iload 6, 2) := by decide +kernel
theorem dX8_bestBrakes_219 : decode cX8_bestBrakes 219 = .ok (.goto 5, 3) := by decide +kernel
theorem dX8_bestBrakes_222 : decode cX8_bestBrakes 222 = .ok (.iload 4, 2) := by decide +kernel
theorem dX8_bestBrakes_224 : decode cX8_bestBrakes 224 = .ok (.istore 4, 2) := by decide +kernel
theorem dX8_bestBrakes_226 : decode cX8_bestBrakes 226 = .ok (.iload 8, 2) := by decide +kernel
theorem dX8_bestBrakes_228 : decode cX8_bestBrakes 228 = .ok (.ifCond .eq 10, 3) := by decide +kernel
theorem dX8_bestBrakes_231 : decode cX8_bestBrakes 231 = .ok (.aload_n 0, 1) := by decide +kernel
theorem dX8_bestBrakes_232 : decode cX8_bestBrakes 232 = .ok (.getfield 162, 3) := by decide +kernel
theorem dX8_bestBrakes_235 : decode cX8_bestBrakes 235 = .ok (.goto 5, 3) := by decide +kernel
theorem dX8_bestBrakes_238 : decode cX8_bestBrakes 238 = .ok (.iload 5, 2) := by decide +kernel
theorem dX8_bestBrakes_240 : decode cX8_bestBrakes 240 = .ok (.istore 5, 2) := by decide +kernel
theorem dX8_bestBrakes_242 : decode cX8_bestBrakes 242 = .ok (.iinc 6 1, 3) := by decide +kernel
theorem dX8_bestBrakes_245 : decode cX8_bestBrakes 245 = .ok (.goto (-188), 3) := by decide +kernel
theorem dX8_bestBrakes_248 : decode cX8_bestBrakes 248 = .ok (.iload 4, 2) := by decide +kernel
theorem dX8_bestBrakes_250 : decode cX8_bestBrakes 250 = .ok (.iconst (-1), 1) := by decide +kernel
theorem dX8_bestBrakes_251 : decode cX8_bestBrakes 251 = .ok (.if_icmp .eq 7, 3) := by decide +kernel
theorem dX8_bestBrakes_254 : decode cX8_bestBrakes 254 = .ok (.iload_n 3, 1) := by decide +kernel
theorem dX8_bestBrakes_255 : decode cX8_bestBrakes 255 = .ok (.ifCond .ne 16, 3) := by decide +kernel
theorem dX8_bestBrakes_258 : decode cX8_bestBrakes 258 = .ok (.iload 4, 2) := by decide +kernel
theorem dX8_bestBrakes_260 : decode cX8_bestBrakes 260 = .ok (.iconst (-1), 1) := by decide +kernel
theorem dX8_bestBrakes_261 : decode cX8_bestBrakes 261 = .ok (.if_icmp .ne 7, 3) := by decide +kernel
theorem dX8_bestBrakes_264 : decode cX8_bestBrakes 264 = .ok (.iconst (-1), 1) := by decide +kernel
theorem dX8_bestBrakes_265 : decode cX8_bestBrakes 265 = .ok (.goto 5, 3) := by decide +kernel
theorem dX8_bestBrakes_268 : decode cX8_bestBrakes 268 = .ok (.iload 5, 2) := by decide +kernel
theorem dX8_bestBrakes_270 : decode cX8_bestBrakes 270 = .ok (.ireturn, 1) := by decide +kernel
theorem dX8_bestBrakes_271 : decode cX8_bestBrakes 271 = .ok (.aload_n 0, 1) := by decide +kernel
theorem dX8_bestBrakes_272 : decode cX8_bestBrakes 272 = .ok (.iload_n 3, 1) := by decide +kernel
theorem dX8_bestBrakes_273 : decode cX8_bestBrakes 273 = .ok (.iconst 1, 1) := by decide +kernel
theorem dX8_bestBrakes_274 : decode cX8_bestBrakes 274 = .ok (.isub, 1) := by decide +kernel
theorem dX8_bestBrakes_275 : decode cX8_bestBrakes 275 = .ok (.invokevirtual 203, 3) := by decide +kernel
theorem dX8_bestBrakes_278 : decode cX8_bestBrakes 278 = .ok (.ifCond .eq 19, 3) := by decide +kernel
theorem dX8_bestBrakes_281 : decode cX8_bestBrakes 281 = .ok (.iconst 3, 1) := by decide +kernel
theorem dX8_bestBrakes_282 : decode cX8_bestBrakes 282 = .ok (.iload 4, 2) := by decide +kernel
theorem dX8_bestBrakes_284 : decode cX8_bestBrakes 284 = .ok (.bipush 8, 2) := by decide +kernel
theorem dX8_bestBrakes_286 : decode cX8_bestBrakes 286 = .ok (.iconst 2, 1) := by decide +kernel
theorem dX8_bestBrakes_287 : decode cX8_bestBrakes 287 = .ok (.iload_n 3, 1) := by decide +kernel
theorem dX8_bestBrakes_288 : decode cX8_bestBrakes 288 = .ok (.imul, 1) := by decide +kernel
theorem dX8_bestBrakes_289 : decode cX8_bestBrakes 289 = .ok (.isub, 1) := by decide +kernel
theorem dX8_bestBrakes_290 : decode cX8_bestBrakes 290 = .ok (.ishr, 1) := by decide +kernel
theorem dX8_bestBrakes_291 : decode cX8_bestBrakes 291 = .ok (.iconst 3, 1) := by decide +kernel
theorem dX8_bestBrakes_292 : decode cX8_bestBrakes 292 = .ok (.iand, 1) := by decide +kernel
theorem dX8_bestBrakes_293 : decode cX8_bestBrakes 293 = .ok (.imul, 1) := by decide +kernel
theorem dX8_bestBrakes_294 : decode cX8_bestBrakes 294 = .ok (.goto 4, 3) := by decide +kernel
theorem dX8_bestBrakes_297 : decode cX8_bestBrakes 297 = .ok (.iconst (-1), 1) := by decide +kernel
theorem dX8_bestBrakes_298 : decode cX8_bestBrakes 298 = .ok (.ireturn, 1) := by decide +kernel
theorem dX8_bestPush_0 : decode cX8_bestPush 0 = .ok (.aload_n 0, 1) := by decide +kernel
theorem dX8_bestPush_1 : decode cX8_bestPush 1 = .ok (.iload_n 1, 1) := by decide +kernel
theorem dX8_bestPush_2 : decode cX8_bestPush 2 = .ok (.invokevirtual 132, 3) := by decide +kernel
theorem dX8_bestPush_5 : decode cX8_bestPush 5 = .ok (.ifCond .ne 6, 3) := by decide +kernel
theorem dX8_bestPush_8 : decode cX8_bestPush 8 = .ok (.bipush (-101), 2) := by decide +kernel
theorem dX8_bestPush_10 : decode cX8_bestPush 10 = .ok (.ireturn, 1) := by decide +kernel
theorem dX8_bestPush_11 : decode cX8_bestPush 11 = .ok (.aload_n 0, 1) := by decide +kernel
theorem dX8_bestPush_12 : decode cX8_bestPush 12 = .ok (.invokevirtual 182, 3) := by decide +kernel
theorem dX8_bestPush_15 : decode cX8_bestPush 15 = .ok (.ifCond .eq 6, 3) := by decide +kernel
theorem dX8_bestPush_18 : decode cX8_bestPush 18 = .ok (.bipush (-103), 2) := by decide +kernel
theorem dX8_bestPush_20 : decode cX8_bestPush 20 = .ok (.ireturn, 1) := by decide +kernel
theorem dX8_bestPush_21 : decode cX8_bestPush 21 = .ok (.iload_n 2, 1) := by decide +kernel
theorem dX8_bestPush_22 : decode cX8_bestPush 22 = .ok (.i2l, 1) := by decide +kernel
theorem dX8_bestPush_23 : decode cX8_bestPush 23 = .ok (.lconst 1, 1) := by decide +kernel
theorem dX8_bestPush_24 : decode cX8_bestPush 24 = .ok (.ldc2_w 142, 3) := by decide +kernel
theorem dX8_bestPush_27 : decode cX8_bestPush 27 = .ok (.invokestatic 89, 3) := by decide +kernel
theorem dX8_bestPush_30 : decode cX8_bestPush 30 = .ok (.ifCond .eq 13, 3) := by decide +kernel
theorem dX8_bestPush_33 : decode cX8_bestPush 33 = .ok (.iload_n 3, 1) := by decide +kernel
theorem dX8_bestPush_34 : decode cX8_bestPush 34 = .ok (.i2l, 1) := by decide +kernel
theorem dX8_bestPush_35 : decode cX8_bestPush 35 = .ok (.lconst 0, 1) := by decide +kernel
theorem dX8_bestPush_36 : decode cX8_bestPush 36 = .ok (.lconst 1, 1) := by decide +kernel
theorem dX8_bestPush_37 : decode cX8_bestPush 37 = .ok (.invokestatic 89, 3) := by decide +kernel
theorem dX8_bestPush_40 : decode cX8_bestPush 40 = .ok (.ifCond .ne 6, 3) := by decide +kernel
theorem dX8_bestPush_43 : decode cX8_bestPush 43 = .ok (.bipush (-102), 2) := by decide +kernel
theorem dX8_bestPush_45 : decode cX8_bestPush 45 = .ok (.ireturn, 1) := by decide +kernel
theorem dX8_bestPush_46 : decode cX8_bestPush 46 = .ok (.aload_n 0, 1) := by decide +kernel
theorem dX8_bestPush_47 : decode cX8_bestPush 47 = .ok (.iload_n 1, 1) := by decide +kernel
theorem dX8_bestPush_48 : decode cX8_bestPush 48 = .ok (.invokevirtual 191, 3) := by decide +kernel
theorem dX8_bestPush_51 : decode cX8_bestPush 51 = .ok (.iconst (-1), 1) := by decide +kernel
theorem dX8_bestPush_52 : decode cX8_bestPush 52 = .ok (.istore 4, 2) := by decide +kernel
theorem dX8_bestPush_54 : decode cX8_bestPush 54 = .ok (.iconst 0, 1) := by decide +kernel
theorem dX8_bestPush_55 : decode cX8_bestPush 55 = .ok (.istore 5, 2) := by decide +kernel
theorem dX8_bestPush_57 : decode cX8_bestPush 57 = .ok (.iconst 0, 1) := by decide +kernel
theorem dX8_bestPush_58 : decode cX8_bestPush 58 = .ok (.istore 6, 2) := by decide +kernel
theorem dX8_bestPush_60 : decode cX8_bestPush 60 = .ok (.iload 6, 2) := by decide +kernel
theorem dX8_bestPush_62 : decode cX8_bestPush 62 = .ok (.bipush 20, 2) := by decide +kernel
theorem dX8_bestPush_64 : decode cX8_bestPush 64 = .ok (.if_icmp .gt 92, 3) := by decide +kernel
theorem dX8_bestPush_67 : decode cX8_bestPush 67 = .ok (.aload_n 0, 1) := by decide +kernel
theorem dX8_bestPush_68 : decode cX8_bestPush 68 = .ok (.iload 6, 2) := by decide +kernel
theorem dX8_bestPush_70 : decode cX8_bestPush 70 = .ok (.iload_n 2, 1) := by decide +kernel
theorem dX8_bestPush_71 : decode cX8_bestPush 71 = .ok (.imul, 1) := by decide +kernel
theorem dX8_bestPush_72 : decode cX8_bestPush 72 = .ok (.bipush 10, 2) := by decide +kernel
theorem dX8_bestPush_74 : decode cX8_bestPush 74 = .ok (.imul, 1) := by decide +kernel
theorem dX8_bestPush_75 : decode cX8_bestPush 75 = .ok (.aload_n 0, 1) := by decide +kernel
theorem dX8_bestPush_76 : decode cX8_bestPush 76 = .ok (.getfield 146, 3) := by decide +kernel
theorem dX8_bestPush_79 : decode cX8_bestPush 79 = .ok (.idiv, 1) := by decide +kernel
theorem dX8_bestPush_80 : decode cX8_bestPush 80 = .ok (.invokevirtual 195, 3) := by decide +kernel
theorem dX8_bestPush_83 : decode cX8_bestPush 83 = .ok (.aload_n 0, 1) := by decide +kernel
theorem dX8_bestPush_84 : decode cX8_bestPush 84 = .ok (.getfield 162, 3) := by decide +kernel
theorem dX8_bestPush_87 : decode cX8_bestPush 87 = .ok (.bipush 60, 2) := by decide +kernel
theorem dX8_bestPush_89 : decode cX8_bestPush 89 = .ok (.iload 6, 2) := by decide +kernel
theorem dX8_bestPush_91 : decode cX8_bestPush 91 = .ok (.imul, 1) := by decide +kernel
theorem dX8_bestPush_92 : decode cX8_bestPush 92 = .ok (.iadd, 1) := by decide +kernel
theorem dX8_bestPush_93 : decode cX8_bestPush 93 = .ok (.istore 7, 2) := by decide +kernel
theorem dX8_bestPush_95 : decode cX8_bestPush 95 = .ok (.aload_n 0, 1) := by decide +kernel
theorem dX8_bestPush_96 : decode cX8_bestPush 96 = .ok (.getfield 165, 3) := by decide +kernel
theorem dX8_bestPush_99 : decode cX8_bestPush 99 = .ok (.ifCond .ne 20, 3) := by decide +kernel
theorem dX8_bestPush_102 : decode cX8_bestPush 102 = .ok (.iload 4, 2) := by decide +kernel
theorem dX8_bestPush_104 : decode cX8_bestPush 104 = .ok (.iconst (-1), 1) := by decide +kernel
theorem dX8_bestPush_105 : decode cX8_bestPush 105 = .ok (.if_icmp .eq 10, 3) := by decide +kernel
theorem dX8_bestPush_108 : decode cX8_bestPush 108 = .ok (.iload 7, 2) := by decide +kernel
theorem dX8_bestPush_110 : decode cX8_bestPush 110 = .ok (.iload 5, 2) := by decide +kernel
theorem dX8_bestPush_112 : decode cX8_bestPush 112 = .ok (.if_icmp .ge 7, 3) := by decide +kernel
theorem dX8_bestPush_115 : decode cX8_bestPush 115 = .ok (.iconst 1, 1) := by decide +kernel
theorem dX8_bestPush_116 : decode cX8_bestPush 116 = .ok (.goto 4, 3) := by decide +kernel
theorem dX8_bestPush_119 : decode cX8_bestPush 119 = .ok (.iconst 0, 1) := by decide +kernel
theorem dX8_bestPush_120 : decode cX8_bestPush 120 = .ok (.istore 8, 2) := by decide +kernel
theorem dX8_bestPush_122 : decode cX8_bestPush 122 = .ok (.iload 8, 2) := by decide +kernel
theorem dX8_bestPush_124 : decode cX8_bestPush 124 = .ok (.ifCond .eq 8, 3) := by decide +kernel
theorem dX8_bestPush_127 : decode cX8_bestPush 127 = .ok (.iload 6, 2) := by decide +kernel
theorem dX8_bestPush_129 : decode cX8_bestPush 129 = .ok (.goto 5, 3) := by decide +kernel
theorem dX8_bestPush_132 : decode cX8_bestPush 132 = .ok (.iload 4, 2) := by decide +kernel
theorem dX8_bestPush_134 : decode cX8_bestPush 134 = .ok (.istore 4, 2) := by decide +kernel
theorem dX8_bestPush_136 : decode cX8_bestPush 136 = .ok (.iload 8, 2) := by decide +kernel
theorem dX8_bestPush_138 : decode cX8_bestPush 138 = .ok (.ifCond .eq 8, 3) := by decide +kernel
theorem dX8_bestPush_141 : decode cX8_bestPush 141 = .ok (.iload 7, 2) := by decide +kernel
theorem dX8_bestPush_143 : decode cX8_bestPush 143 = .ok (.goto 5, 3) := by decide +kernel
theorem dX8_bestPush_146 : decode cX8_bestPush 146 = .ok (.iload 5, 2) := by decide +kernel
theorem dX8_bestPush_148 : decode cX8_bestPush 148 = .ok (.istore 5, 2) := by decide +kernel
theorem dX8_bestPush_150 : decode cX8_bestPush 150 = .ok (.iinc 6 1, 3) := by decide +kernel
theorem dX8_bestPush_153 : decode cX8_bestPush 153 = .ok (.goto (-93), 3) := by decide +kernel
theorem dX8_bestPush_156 : decode cX8_bestPush 156 = .ok (.iload 4, 2) := by decide +kernel
theorem dX8_bestPush_158 : decode cX8_bestPush 158 = .ok (.iconst (-1), 1) := by decide +kernel
theorem dX8_bestPush_159 : decode cX8_bestPush 159 = .ok (.if_icmp .eq 7, 3) := by decide +kernel
theorem dX8_bestPush_162 : decode cX8_bestPush 162 = .ok (.iload_n 3, 1) := by decide +kernel
theorem dX8_bestPush_163 : decode cX8_bestPush 163 = .ok (.ifCond .ne 8, 3) := by decide +kernel
theorem dX8_bestPush_166 : decode cX8_bestPush 166 = .ok (.iload 4, 2) := by decide +kernel
theorem dX8_bestPush_168 : decode cX8_bestPush 168 = .ok (.goto 5, 3) := by decide +kernel
theorem dX8_bestPush_171 : decode cX8_bestPush 171 = .ok (.iload 5, 2) := by decide +kernel
theorem dX8_bestPush_173 : decode cX8_bestPush 173 = .ok (.ireturn, 1) := by decide +kernel
theorem dX8_work_0 : decode cX8_work 0 = .ok (.aload_n 0, 1) := by decide +kernel
theorem dX8_work_1 : decode cX8_work 1 = .ok (.iload_n 1, 1) := by decide +kernel
theorem dX8_work_2 : decode cX8_work 2 = .ok (.invokevirtual 132, 3) := by decide +kernel
theorem dX8_work_5 : decode cX8_work 5 = .ok (.ifCond .ne 6, 3) := by decide +kernel
theorem dX8_work_8 : decode cX8_work 8 = .ok (.bipush (-101), 2) := by decide +kernel
theorem dX8_work_10 : decode cX8_work 10 = .ok (.ireturn, 1) := by decide +kernel
theorem dX8_work_11 : decode cX8_work 11 = .ok (.aload_n 0, 1) := by decide +kernel
theorem dX8_work_12 : decode cX8_work 12 = .ok (.invokevirtual 182, 3) := by decide +kernel
theorem dX8_work_15 : decode cX8_work 15 = .ok (.ifCond .eq 6, 3) := by decide +kernel
theorem dX8_work_18 : decode cX8_work 18 = .ok (.bipush (-103), 2) := by decide +kernel
theorem dX8_work_20 : decode cX8_work 20 = .ok (.ireturn, 1) := by decide +kernel
theorem dX8_work_21 : decode cX8_work 21 = .ok (.iload_n 2, 1) := by decide +kernel
theorem dX8_work_22 : decode cX8_work 22 = .ok (.invokestatic 186, 3) := by decide +kernel
theorem dX8_work_25 : decode cX8_work 25 = .ok (.ifCond .eq 28, 3) := by decide +kernel
theorem dX8_work_28 : decode cX8_work 28 = .ok (.iload_n 3, 1) := by decide +kernel
theorem dX8_work_29 : decode cX8_work 29 = .ok (.i2l, 1) := by decide +kernel
theorem dX8_work_30 : decode cX8_work 30 = .ok (.lconst 0, 1) := by decide +kernel
theorem dX8_work_31 : decode cX8_work 31 = .ok (.ldc2_w 206, 3) := by decide +kernel
theorem dX8_work_34 : decode cX8_work 34 = .ok (.invokestatic 89, 3) := by decide +kernel
theorem dX8_work_37 : decode cX8_work 37 = .ok (.ifCond .eq 16, 3) := by decide +kernel
theorem dX8_work_40 : decode cX8_work 40 = .ok (.iload 4, 2) := by decide +kernel
theorem dX8_work_42 : decode cX8_work 42 = .ok (.i2l, 1) := by decide +kernel
theorem dX8_work_43 : decode cX8_work 43 = .ok (.lconst 0, 1) := by decide +kernel
theorem dX8_work_44 : decode cX8_work 44 = .ok (.ldc2_w 138, 3) := by decide +kernel
theorem dX8_work_47 : decode cX8_work 47 = .ok (.invokestatic 89, 3) := by decide +kernel
theorem dX8_work_50 : decode cX8_work 50 = .ok (.ifCond .ne 6, 3) := by decide +kernel
theorem dX8_work_53 : decode cX8_work 53 = .ok (.bipush (-102), 2) := by decide +kernel
theorem dX8_work_55 : decode cX8_work 55 = .ok (.ireturn, 1) := by decide +kernel
theorem dX8_work_56 : decode cX8_work 56 = .ok (.iconst (-1), 1) := by decide +kernel
theorem dX8_work_57 : decode cX8_work 57 = .ok (.istore 5, 2) := by decide +kernel
theorem dX8_work_59 : decode cX8_work 59 = .ok (.iconst 0, 1) := by decide +kernel
theorem dX8_work_60 : decode cX8_work 60 = .ok (.istore 6, 2) := by decide +kernel
theorem dX8_work_62 : decode cX8_work 62 = .ok (.iconst 1, 1) := by decide +kernel
theorem dX8_work_63 : decode cX8_work 63 = .ok (.istore 7, 2) := by decide +kernel
theorem dX8_work_65 : decode cX8_work 65 = .ok (.iconst 0, 1) := by decide +kernel
theorem dX8_work_66 : decode cX8_work 66 = .ok (.istore 8, 2) := by decide +kernel
theorem dX8_work_68 : decode cX8_work 68 = .ok (.iload 8, 2) := by decide +kernel
theorem dX8_work_70 : decode cX8_work 70 = .ok (.aload_n 0, 1) := by decide +kernel
theorem dX8_work_71 : decode cX8_work 71 = .ok (.getfield 31, 3) := by decide +kernel
theorem dX8_work_74 : decode cX8_work 74 = .ok (.iload_n 1, 1) := by decide +kernel
theorem dX8_work_75 : decode cX8_work 75 = .ok (.iaload, 1) := by decide +kernel
theorem dX8_work_76 : decode cX8_work 76 = .ok (.if_icmp .ge 16, 3) := by decide +kernel
theorem dX8_work_79 : decode cX8_work 79 = .ok (.iload 7, 2) := by decide +kernel
theorem dX8_work_81 : decode cX8_work 81 = .ok (.bipush 7, 2) := by decide +kernel
theorem dX8_work_83 : decode cX8_work 83 = .ok (.imul, 1) := by decide +kernel
theorem dX8_work_84 : decode cX8_work 84 = .ok (.istore 7, 2) := by decide +kernel
theorem dX8_work_86 : decode cX8_work 86 = .ok (.iinc 8 1, 3) := by decide +kernel
theorem dX8_work_89 : decode cX8_work 89 = .ok (.goto (-21), 3) := by decide +kernel
theorem dX8_work_92 : decode cX8_work 92 = .ok (.iconst 0, 1) := by decide +kernel
theorem dX8_work_93 : decode cX8_work 93 = .ok (.istore 8, 2) := by decide +kernel
theorem dX8_work_95 : decode cX8_work 95 = .ok (.iload 8, 2) := by decide +kernel
theorem dX8_work_97 : decode cX8_work 97 = .ok (.iload 7, 2) := by decide +kernel
theorem dX8_work_99 : decode cX8_work 99 = .ok (.if_icmp .ge 175, 3) := by decide +kernel
theorem dX8_work_102 : decode cX8_work 102 = .ok (.aload_n 0, 1) := by decide +kernel
theorem dX8_work_103 : decode cX8_work 103 = .ok (.iload_n 1, 1) := by decide +kernel
theorem dX8_work_104 : decode cX8_work 104 = .ok (.invokevirtual 191, 3) := by decide +kernel
theorem dX8_work_107 : decode cX8_work 107 = .ok (.iload 8, 2) := by decide +kernel
theorem dX8_work_109 : decode cX8_work 109 = .ok (.istore 9, 2) := by decide +kernel
theorem dX8_work_111 : decode cX8_work 111 = .ok (.iconst 0, 1) := by decide +kernel
theorem dX8_work_112 : decode cX8_work 112 = .ok (.istore 10, 2) := by decide +kernel
theorem dX8_work_114 : decode cX8_work 114 = .ok (.iconst 1, 1) := by decide +kernel
theorem dX8_work_115 : decode cX8_work 115 = .ok (.istore 11, 2) := by decide +kernel
theorem dX8_work_117 : decode cX8_work 117 = .ok (.aload_n 0, 1) := by decide +kernel
theorem dX8_work_118 : decode cX8_work 118 = .ok (.getfield 149, 3) := by decide +kernel
theorem dX8_work_121 : decode cX8_work 121 = .ok (.iconst 1, 1) := by decide +kernel
theorem dX8_work_122 : decode cX8_work 122 = .ok (.isub, 1) := by decide +kernel
theorem dX8_work_123 : decode cX8_work 123 = .ok (.istore 12, 2) := by decide +kernel
theorem dX8_work_125 : decode cX8_work 125 = .ok (.iload 12, 2) := by decide +kernel
theorem dX8_work_127 : decode cX8_work 127 = .ok (.ifCond .lt 66, 3) := by decide +kernel
theorem dX8_work_130 : decode cX8_work 130 = .ok (.iload 9, 2) := by decide +kernel
theorem dX8_work_132 : decode cX8_work 132 = .ok (.bipush 7, 2) := by decide +kernel
theorem dX8_work_134 : decode cX8_work 134 = .ok (.irem, 1) := by decide +kernel
theorem dX8_work_135 : decode cX8_work 135 = .ok (.istore 13, 2) := by decide +kernel
theorem dX8_work_137 : decode cX8_work 137 = .ok (.iload 9, 2) := by decide +kernel
theorem dX8_work_139 : decode cX8_work 139 = .ok (.bipush 7, 2) := by decide +kernel
theorem dX8_work_141 : decode cX8_work 141 = .ok (.idiv, 1) := by decide +kernel
theorem dX8_work_142 : decode cX8_work 142 = .ok (.istore 9, 2) := by decide +kernel
theorem dX8_work_144 : decode cX8_work 144 = .ok (.iload 10, 2) := by decide +kernel
theorem dX8_work_146 : decode cX8_work 146 = .ok (.iload 13, 2) := by decide +kernel
theorem dX8_work_148 : decode cX8_work 148 = .ok (.iadd, 1) := by decide +kernel
theorem dX8_work_149 : decode cX8_work 149 = .ok (.istore 10, 2) := by decide +kernel
theorem dX8_work_151 : decode cX8_work 151 = .ok (.iload 11, 2) := by decide +kernel
theorem dX8_work_153 : decode cX8_work 153 = .ok (.ifCond .eq 19, 3) := by decide +kernel
theorem dX8_work_156 : decode cX8_work 156 = .ok (.iload 13, 2) := by decide +kernel
theorem dX8_work_158 : decode cX8_work 158 = .ok (.aload_n 0, 1) := by decide +kernel
theorem dX8_work_159 : decode cX8_work 159 = .ok (.getfield 40, 3) := by decide +kernel
theorem dX8_work_162 : decode cX8_work 162 = .ok (.iload 12, 2) := by decide +kernel
theorem dX8_work_164 : decode cX8_work 164 = .ok (.iaload, 1) := by decide +kernel
theorem dX8_work_165 : decode cX8_work 165 = .ok (.if_icmp .gt 7, 3) := by decide +kernel
theorem dX8_work_168 : decode cX8_work 168 = .ok (.iconst 1, 1) := by decide +kernel
theorem dX8_work_169 : decode cX8_work 169 = .ok (.goto 4, 3) := by decide +kernel
theorem dX8_work_172 : decode cX8_work 172 = .ok (.iconst 0, 1) := by decide +kernel
theorem dX8_work_173 : decode cX8_work 173 = .ok (.istore 11, 2) := by decide +kernel
theorem dX8_work_175 : decode cX8_work 175 = .ok (.aload_n 0, 1) := by decide +kernel
theorem dX8_work_176 : decode cX8_work 176 = .ok (.getfield 40, 3) := by decide +kernel
theorem dX8_work_179 : decode cX8_work 179 = .ok (.iload 12, 2) := by decide +kernel
theorem dX8_work_181 : decode cX8_work 181 = .ok (.dup2, 1) := by decide +kernel
theorem dX8_work_182 : decode cX8_work 182 = .ok (.iaload, 1) := by decide +kernel
theorem dX8_work_183 : decode cX8_work 183 = .ok (.iload 13, 2) := by decide +kernel
theorem dX8_work_185 : decode cX8_work 185 = .ok (.isub, 1) := by decide +kernel
theorem dX8_work_186 : decode cX8_work 186 = .ok (.iastore, 1) := by decide +kernel
theorem dX8_work_187 : decode cX8_work 187 = .ok (.iinc 12 (-1), 3) := by decide +kernel
theorem dX8_work_190 : decode cX8_work 190 = .ok (.goto (-65), 3) := by decide +kernel
theorem dX8_work_193 : decode cX8_work 193 = .ok (.iload 11, 2) := by decide +kernel
theorem dX8_work_195 : decode cX8_work 195 = .ok (.ifCond .eq 73, 3) := by decide +kernel
theorem dX8_work_198 : decode cX8_work 198 = .ok (.iload 10, 2) := by decide +kernel
theorem dX8_work_200 : decode cX8_work 200 = .ok (.iload_n 3, 1) := by decide +kernel
theorem dX8_work_201 : decode cX8_work 201 = .ok (.if_icmp .gt 67, 3) := by decide +kernel
theorem dX8_work_204 : decode cX8_work 204 = .ok (.aload_n 0, 1) := by decide +kernel
theorem dX8_work_205 : decode cX8_work 205 = .ok (.iload_n 2, 1) := by decide +kernel
theorem dX8_work_206 : decode cX8_work 206 = .ok (.invokevirtual 195, 3) := by decide +kernel
theorem dX8_work_209 : decode cX8_work 209 = .ok (.aload_n 0, 1) := by decide +kernel
theorem dX8_work_210 : decode cX8_work 210 = .ok (.getfield 165, 3) := by decide +kernel
theorem dX8_work_213 : decode cX8_work 213 = .ok (.ifCond .ne 22, 3) := by decide +kernel
theorem dX8_work_216 : decode cX8_work 216 = .ok (.iload 5, 2) := by decide +kernel
theorem dX8_work_218 : decode cX8_work 218 = .ok (.iconst (-1), 1) := by decide +kernel
theorem dX8_work_219 : decode cX8_work 219 = .ok (.if_icmp .eq 12, 3) := by decide +kernel
theorem dX8_work_222 : decode cX8_work 222 = .ok (.aload_n 0, 1) := by decide +kernel
theorem dX8_work_223 : decode cX8_work 223 = .ok (.getfield 162, 3) := by decide +kernel
theorem dX8_work_226 : decode cX8_work 226 = .ok (.iload 6, 2) := by decide +kernel
theorem dX8_work_228 : decode cX8_work 228 = .ok (.if_icmp .ge 7, 3) := by decide +kernel
theorem dX8_work_231 : decode cX8_work 231 = .ok (.iconst 1, 1) := by decide +kernel
theorem dX8_work_232 : decode cX8_work 232 = .ok (.goto 4, 3) := by decide +kernel
theorem dX8_work_235 : decode cX8_work 235 = .ok (.iconst 0, 1) := by decide +kernel
theorem dX8_work_236 : decode cX8_work 236 = .ok (.istore 12, 2) := by decide +kernel
theorem dX8_work_238 : decode cX8_work 238 = .ok (.iload 12, 2) := by decide +kernel
theorem dX8_work_240 : decode cX8_work 240 = .ok (.ifCond .eq 8, 3) := by decide +kernel
theorem dX8_work_243 : decode cX8_work 243 = .ok (.iload 8, 2) := by decide +kernel
theorem dX8_work_245 : decode cX8_work 245 = .ok (.goto 5, 3) := by decide +kernel
theorem dX8_work_248 : decode cX8_work 248 = .ok (.iload 5, 2) := by decide +kernel
theorem dX8_work_250 : decode cX8_work 250 = .ok (.istore 5, 2) := by decide +kernel
theorem dX8_work_252 : decode cX8_work 252 = .ok (.iload 12, 2) := by decide +kernel
theorem dX8_work_254 : decode cX8_work 254 = .ok (.ifCond .eq 10, 3) := by decide +kernel
theorem dX8_work_257 : decode cX8_work 257 = .ok (.aload_n 0, 1) := by decide +kernel
theorem dX8_work_258 : decode cX8_work 258 = .ok (.getfield 162, 3) := by decide +kernel
theorem dX8_work_261 : decode cX8_work 261 = .ok (.goto 5, 3) := by decide +kernel
theorem dX8_work_264 : decode cX8_work 264 = .ok (.iload 6, 2) := by decide +kernel
theorem dX8_work_266 : decode cX8_work 266 = .ok (.istore 6, 2) := by decide +kernel
theorem dX8_work_268 : decode cX8_work 268 = .ok (.iinc 8 1, 3) := by decide +kernel
theorem dX8_work_271 : decode cX8_work 271 = .ok (.goto (-176), 3) := by decide +kernel
theorem dX8_work_274 : decode cX8_work 274 = .ok (.iload 5, 2) := by decide +kernel
theorem dX8_work_276 : decode cX8_work 276 = .ok (.iconst (-1), 1) := by decide +kernel
theorem dX8_work_277 : decode cX8_work 277 = .ok (.if_icmp .eq 8, 3) := by decide +kernel
theorem dX8_work_280 : decode cX8_work 280 = .ok (.iload 4, 2) := by decide +kernel
theorem dX8_work_282 : decode cX8_work 282 = .ok (.ifCond .ne 16, 3) := by decide +kernel
theorem dX8_work_285 : decode cX8_work 285 = .ok (.iload 5, 2) := by decide +kernel
theorem dX8_work_287 : decode cX8_work 287 = .ok (.iconst (-1), 1) := by decide +kernel
theorem dX8_work_288 : decode cX8_work 288 = .ok (.if_icmp .ne 7, 3) := by decide +kernel
theorem dX8_work_291 : decode cX8_work 291 = .ok (.iconst (-1), 1) := by decide +kernel
theorem dX8_work_292 : decode cX8_work 292 = .ok (.goto 5, 3) := by decide +kernel
theorem dX8_work_295 : decode cX8_work 295 = .ok (.iload 6, 2) := by decide +kernel
theorem dX8_work_297 : decode cX8_work 297 = .ok (.ireturn, 1) := by decide +kernel
theorem dX8_work_298 : decode cX8_work 298 = .ok (.iload 4, 2) := by decide +kernel
theorem dX8_work_300 : decode cX8_work 300 = .ok (.aload_n 0, 1) := by decide +kernel
theorem dX8_work_301 : decode cX8_work 301 = .ok (.getfield 31, 3) := by decide +kernel
theorem dX8_work_304 : decode cX8_work 304 = .ok (.iload_n 1, 1) := by decide +kernel
theorem dX8_work_305 : decode cX8_work 305 = .ok (.iaload, 1) := by decide +kernel
theorem dX8_work_306 : decode cX8_work 306 = .ok (.if_icmp .le 5, 3) := by decide +kernel
theorem dX8_work_309 : decode cX8_work 309 = .ok (.iconst (-1), 1) := by decide +kernel
theorem dX8_work_310 : decode cX8_work 310 = .ok (.ireturn, 1) := by decide +kernel
theorem dX8_work_311 : decode cX8_work 311 = .ok (.aload_n 0, 1) := by decide +kernel
theorem dX8_work_312 : decode cX8_work 312 = .ok (.getfield 31, 3) := by decide +kernel
theorem dX8_work_315 : decode cX8_work 315 = .ok (.iload_n 1, 1) := by decide +kernel
theorem dX8_work_316 : decode cX8_work 316 = .ok (.iaload, 1) := by decide +kernel
theorem dX8_work_317 : decode cX8_work 317 = .ok (.istore 8, 2) := by decide +kernel
theorem dX8_work_319 : decode cX8_work 319 = .ok (.iload 8, 2) := by decide +kernel
theorem dX8_work_321 : decode cX8_work 321 = .ok (.iload 4, 2) := by decide +kernel
theorem dX8_work_323 : decode cX8_work 323 = .ok (.if_icmp .le 16, 3) := by decide +kernel
theorem dX8_work_326 : decode cX8_work 326 = .ok (.iload 5, 2) := by decide +kernel
theorem dX8_work_328 : decode cX8_work 328 = .ok (.bipush 7, 2) := by decide +kernel
theorem dX8_work_330 : decode cX8_work 330 = .ok (.idiv, 1) := by decide +kernel
theorem dX8_work_331 : decode cX8_work 331 = .ok (.istore 5, 2) := by decide +kernel
theorem dX8_work_333 : decode cX8_work 333 = .ok (.iinc 8 (-1), 3) := by decide +kernel
theorem dX8_work_336 : decode cX8_work 336 = .ok (.goto (-17), 3) := by decide +kernel
theorem dX8_work_339 : decode cX8_work 339 = .ok (.iload 5, 2) := by decide +kernel
theorem dX8_work_341 : decode cX8_work 341 = .ok (.bipush 7, 2) := by decide +kernel
theorem dX8_work_343 : decode cX8_work 343 = .ok (.irem, 1) := by decide +kernel
theorem dX8_work_344 : decode cX8_work 344 = .ok (.ireturn, 1) := by decide +kernel
theorem dX8_timeBy_0 : decode cX8_timeBy 0 = .ok (.aload_n 0, 1) := by decide +kernel
theorem dX8_timeBy_1 : decode cX8_timeBy 1 = .ok (.iload_n 1, 1) := by decide +kernel
theorem dX8_timeBy_2 : decode cX8_timeBy 2 = .ok (.invokevirtual 191, 3) := by decide +kernel
theorem dX8_timeBy_5 : decode cX8_timeBy 5 = .ok (.aload_n 0, 1) := by decide +kernel
theorem dX8_timeBy_6 : decode cX8_timeBy 6 = .ok (.iload_n 3, 1) := by decide +kernel
theorem dX8_timeBy_7 : decode cX8_timeBy 7 = .ok (.putfield 146, 3) := by decide +kernel
theorem dX8_timeBy_10 : decode cX8_timeBy 10 = .ok (.aload_n 0, 1) := by decide +kernel
theorem dX8_timeBy_11 : decode cX8_timeBy 11 = .ok (.iload_n 2, 1) := by decide +kernel
theorem dX8_timeBy_12 : decode cX8_timeBy 12 = .ok (.invokevirtual 195, 3) := by decide +kernel
theorem dX8_timeBy_15 : decode cX8_timeBy 15 = .ok (.aload_n 0, 1) := by decide +kernel
theorem dX8_timeBy_16 : decode cX8_timeBy 16 = .ok (.getfield 165, 3) := by decide +kernel
theorem dX8_timeBy_19 : decode cX8_timeBy 19 = .ok (.ifCond .ne 10, 3) := by decide +kernel
theorem dX8_timeBy_22 : decode cX8_timeBy 22 = .ok (.aload_n 0, 1) := by decide +kernel
theorem dX8_timeBy_23 : decode cX8_timeBy 23 = .ok (.getfield 162, 3) := by decide +kernel
theorem dX8_timeBy_26 : decode cX8_timeBy 26 = .ok (.goto 4, 3) := by decide +kernel
theorem dX8_timeBy_29 : decode cX8_timeBy 29 = .ok (.iconst (-1), 1) := by decide +kernel
theorem dX8_timeBy_30 : decode cX8_timeBy 30 = .ok (.ireturn, 1) := by decide +kernel
theorem dX8_weighed_0 : decode cX8_weighed 0 = .ok (.aload_n 0, 1) := by decide +kernel
theorem dX8_weighed_1 : decode cX8_weighed 1 = .ok (.iload_n 1, 1) := by decide +kernel
theorem dX8_weighed_2 : decode cX8_weighed 2 = .ok (.invokevirtual 132, 3) := by decide +kernel
theorem dX8_weighed_5 : decode cX8_weighed 5 = .ok (.ifCond .ne 6, 3) := by decide +kernel
theorem dX8_weighed_8 : decode cX8_weighed 8 = .ok (.bipush (-101), 2) := by decide +kernel
theorem dX8_weighed_10 : decode cX8_weighed 10 = .ok (.ireturn, 1) := by decide +kernel
theorem dX8_weighed_11 : decode cX8_weighed 11 = .ok (.aload_n 0, 1) := by decide +kernel
theorem dX8_weighed_12 : decode cX8_weighed 12 = .ok (.invokevirtual 182, 3) := by decide +kernel
theorem dX8_weighed_15 : decode cX8_weighed 15 = .ok (.ifCond .eq 6, 3) := by decide +kernel
theorem dX8_weighed_18 : decode cX8_weighed 18 = .ok (.bipush (-103), 2) := by decide +kernel
theorem dX8_weighed_20 : decode cX8_weighed 20 = .ok (.ireturn, 1) := by decide +kernel
theorem dX8_weighed_21 : decode cX8_weighed 21 = .ok (.iload_n 2, 1) := by decide +kernel
theorem dX8_weighed_22 : decode cX8_weighed 22 = .ok (.invokestatic 186, 3) := by decide +kernel
theorem dX8_weighed_25 : decode cX8_weighed 25 = .ok (.ifCond .eq 27, 3) := by decide +kernel
theorem dX8_weighed_28 : decode cX8_weighed 28 = .ok (.iload_n 3, 1) := by decide +kernel
theorem dX8_weighed_29 : decode cX8_weighed 29 = .ok (.i2l, 1) := by decide +kernel
theorem dX8_weighed_30 : decode cX8_weighed 30 = .ok (.ldc2_w 140, 3) := by decide +kernel
theorem dX8_weighed_33 : decode cX8_weighed 33 = .ok (.ldc2_w 142, 3) := by decide +kernel
theorem dX8_weighed_36 : decode cX8_weighed 36 = .ok (.invokestatic 89, 3) := by decide +kernel
theorem dX8_weighed_39 : decode cX8_weighed 39 = .ok (.ifCond .eq 13, 3) := by decide +kernel
theorem dX8_weighed_42 : decode cX8_weighed 42 = .ok (.aload_n 0, 1) := by decide +kernel
theorem dX8_weighed_43 : decode cX8_weighed 43 = .ok (.iload_n 1, 1) := by decide +kernel
theorem dX8_weighed_44 : decode cX8_weighed 44 = .ok (.iload_n 2, 1) := by decide +kernel
theorem dX8_weighed_45 : decode cX8_weighed 45 = .ok (.iload_n 3, 1) := by decide +kernel
theorem dX8_weighed_46 : decode cX8_weighed 46 = .ok (.invokevirtual 208, 3) := by decide +kernel
theorem dX8_weighed_49 : decode cX8_weighed 49 = .ok (.goto 5, 3) := by decide +kernel
theorem dX8_weighed_52 : decode cX8_weighed 52 = .ok (.bipush (-102), 2) := by decide +kernel
theorem dX8_weighed_54 : decode cX8_weighed 54 = .ok (.ireturn, 1) := by decide +kernel
theorem dX8_close_0 : decode cX8_close 0 = .ok (.aload_n 0, 1) := by decide +kernel
theorem dX8_close_1 : decode cX8_close 1 = .ok (.invokevirtual 182, 3) := by decide +kernel
theorem dX8_close_4 : decode cX8_close 4 = .ok (.ifCond .ne 10, 3) := by decide +kernel
theorem dX8_close_7 : decode cX8_close 7 = .ok (.aload_n 0, 1) := by decide +kernel
theorem dX8_close_8 : decode cX8_close 8 = .ok (.getfield 122, 3) := by decide +kernel
theorem dX8_close_11 : decode cX8_close 11 = .ok (.ifCond .ne 6, 3) := by decide +kernel
theorem dX8_close_14 : decode cX8_close 14 = .ok (.bipush (-103), 2) := by decide +kernel
theorem dX8_close_16 : decode cX8_close 16 = .ok (.ireturn, 1) := by decide +kernel
theorem dX8_close_17 : decode cX8_close 17 = .ok (.iload_n 1, 1) := by decide +kernel
theorem dX8_close_18 : decode cX8_close 18 = .ok (.invokestatic 186, 3) := by decide +kernel
theorem dX8_close_21 : decode cX8_close 21 = .ok (.ifCond .eq 13, 3) := by decide +kernel
theorem dX8_close_24 : decode cX8_close 24 = .ok (.iload_n 2, 1) := by decide +kernel
theorem dX8_close_25 : decode cX8_close 25 = .ok (.i2l, 1) := by decide +kernel
theorem dX8_close_26 : decode cX8_close 26 = .ok (.lconst 0, 1) := by decide +kernel
theorem dX8_close_27 : decode cX8_close 27 = .ok (.lconst 1, 1) := by decide +kernel
theorem dX8_close_28 : decode cX8_close 28 = .ok (.invokestatic 89, 3) := by decide +kernel
theorem dX8_close_31 : decode cX8_close 31 = .ok (.ifCond .ne 6, 3) := by decide +kernel
theorem dX8_close_34 : decode cX8_close 34 = .ok (.bipush (-102), 2) := by decide +kernel
theorem dX8_close_36 : decode cX8_close 36 = .ok (.ireturn, 1) := by decide +kernel
theorem dX8_close_37 : decode cX8_close 37 = .ok (.iconst (-1), 1) := by decide +kernel
theorem dX8_close_38 : decode cX8_close 38 = .ok (.istore_n 3, 1) := by decide +kernel
theorem dX8_close_39 : decode cX8_close 39 = .ok (.iconst 0, 1) := by decide +kernel
theorem dX8_close_40 : decode cX8_close 40 = .ok (.istore 4, 2) := by decide +kernel
theorem dX8_close_42 : decode cX8_close 42 = .ok (.bipush 10, 2) := by decide +kernel
theorem dX8_close_44 : decode cX8_close 44 = .ok (.istore 5, 2) := by decide +kernel
theorem dX8_close_46 : decode cX8_close 46 = .ok (.iload 5, 2) := by decide +kernel
theorem dX8_close_48 : decode cX8_close 48 = .ok (.bipush 100, 2) := by decide +kernel
theorem dX8_close_50 : decode cX8_close 50 = .ok (.if_icmp .ge 180, 3) := by decide +kernel
theorem dX8_close_53 : decode cX8_close 53 = .ok (.iconst (-1), 1) := by decide +kernel
theorem dX8_close_54 : decode cX8_close 54 = .ok (.istore 6, 2) := by decide +kernel
theorem dX8_close_56 : decode cX8_close 56 = .ok (.iconst (-1), 1) := by decide +kernel
theorem dX8_close_57 : decode cX8_close 57 = .ok (.istore 7, 2) := by decide +kernel
theorem dX8_close_59 : decode cX8_close 59 = .ok (.iconst 1, 1) := by decide +kernel
theorem dX8_close_60 : decode cX8_close 60 = .ok (.istore 8, 2) := by decide +kernel
theorem dX8_close_62 : decode cX8_close 62 = .ok (.iconst 0, 1) := by decide +kernel
theorem dX8_close_63 : decode cX8_close 63 = .ok (.istore 9, 2) := by decide +kernel
theorem dX8_close_65 : decode cX8_close 65 = .ok (.iload 9, 2) := by decide +kernel
theorem dX8_close_67 : decode cX8_close 67 = .ok (.aload_n 0, 1) := by decide +kernel
theorem dX8_close_68 : decode cX8_close 68 = .ok (.getfield 122, 3) := by decide +kernel
theorem dX8_close_71 : decode cX8_close 71 = .ok (.if_icmp .ge 97, 3) := by decide +kernel
theorem dX8_close_74 : decode cX8_close 74 = .ok (.iload 8, 2) := by decide +kernel
theorem dX8_close_76 : decode cX8_close 76 = .ok (.ifCond .eq 92, 3) := by decide +kernel
theorem dX8_close_79 : decode cX8_close 79 = .ok (.aload_n 0, 1) := by decide +kernel
theorem dX8_close_80 : decode cX8_close 80 = .ok (.iload 9, 2) := by decide +kernel
theorem dX8_close_82 : decode cX8_close 82 = .ok (.iload_n 1, 1) := by decide +kernel
theorem dX8_close_83 : decode cX8_close 83 = .ok (.aload_n 0, 1) := by decide +kernel
theorem dX8_close_84 : decode cX8_close 84 = .ok (.getfield 28, 3) := by decide +kernel
theorem dX8_close_87 : decode cX8_close 87 = .ok (.iload 9, 2) := by decide +kernel
theorem dX8_close_89 : decode cX8_close 89 = .ok (.iaload, 1) := by decide +kernel
theorem dX8_close_90 : decode cX8_close 90 = .ok (.iload 5, 2) := by decide +kernel
theorem dX8_close_92 : decode cX8_close 92 = .ok (.if_icmp .le 8, 3) := by decide +kernel
theorem dX8_close_95 : decode cX8_close 95 = .ok (.iload 5, 2) := by decide +kernel
theorem dX8_close_97 : decode cX8_close 97 = .ok (.goto 10, 3) := by decide +kernel
theorem dX8_close_100 : decode cX8_close 100 = .ok (.aload_n 0, 1) := by decide +kernel
theorem dX8_close_101 : decode cX8_close 101 = .ok (.getfield 28, 3) := by decide +kernel
theorem dX8_close_104 : decode cX8_close 104 = .ok (.iload 9, 2) := by decide +kernel
theorem dX8_close_106 : decode cX8_close 106 = .ok (.iaload, 1) := by decide +kernel
theorem dX8_close_107 : decode cX8_close 107 = .ok (.invokevirtual 208, 3) := by decide +kernel
theorem dX8_close_110 : decode cX8_close 110 = .ok (.istore 10, 2) := by decide +kernel
theorem dX8_close_112 : decode cX8_close 112 = .ok (.iload 10, 2) := by decide +kernel
theorem dX8_close_114 : decode cX8_close 114 = .ok (.iconst (-1), 1) := by decide +kernel
theorem dX8_close_115 : decode cX8_close 115 = .ok (.if_icmp .eq 7, 3) := by decide +kernel
theorem dX8_close_118 : decode cX8_close 118 = .ok (.iconst 1, 1) := by decide +kernel
theorem dX8_close_119 : decode cX8_close 119 = .ok (.goto 4, 3) := by decide +kernel
theorem dX8_close_122 : decode cX8_close 122 = .ok (.iconst 0, 1) := by decide +kernel
theorem dX8_close_123 : decode cX8_close 123 = .ok (.istore 8, 2) := by decide +kernel
theorem dX8_close_125 : decode cX8_close 125 = .ok (.iload 9, 2) := by decide +kernel
theorem dX8_close_127 : decode cX8_close 127 = .ok (.ifCond .eq 10, 3) := by decide +kernel
theorem dX8_close_130 : decode cX8_close 130 = .ok (.iload 10, 2) := by decide +kernel
theorem dX8_close_132 : decode cX8_close 132 = .ok (.iload 6, 2) := by decide +kernel
theorem dX8_close_134 : decode cX8_close 134 = .ok (.if_icmp .ge 8, 3) := by decide +kernel
theorem dX8_close_137 : decode cX8_close 137 = .ok (.iload 10, 2) := by decide +kernel
theorem dX8_close_139 : decode cX8_close 139 = .ok (.goto 5, 3) := by decide +kernel
theorem dX8_close_142 : decode cX8_close 142 = .ok (.iload 6, 2) := by decide +kernel
theorem dX8_close_144 : decode cX8_close 144 = .ok (.istore 6, 2) := by decide +kernel
theorem dX8_close_146 : decode cX8_close 146 = .ok (.iload 10, 2) := by decide +kernel
theorem dX8_close_148 : decode cX8_close 148 = .ok (.iload 7, 2) := by decide +kernel
theorem dX8_close_150 : decode cX8_close 150 = .ok (.if_icmp .le 8, 3) := by decide +kernel
theorem dX8_close_153 : decode cX8_close 153 = .ok (.iload 10, 2) := by decide +kernel
theorem dX8_close_155 : decode cX8_close 155 = .ok (.goto 5, 3) := by decide +kernel
theorem dX8_close_158 : decode cX8_close 158 = .ok (.iload 7, 2) := by decide +kernel
theorem dX8_close_160 : decode cX8_close 160 = .ok (.istore 7, 2) := by decide +kernel
theorem dX8_close_162 : decode cX8_close 162 = .ok (.iinc 9 1, 3) := by decide +kernel
theorem dX8_close_165 : decode cX8_close 165 = .ok (.goto (-100), 3) := by decide +kernel
theorem dX8_close_168 : decode cX8_close 168 = .ok (.iload 8, 2) := by decide +kernel
theorem dX8_close_170 : decode cX8_close 170 = .ok (.ifCond .eq 22, 3) := by decide +kernel
theorem dX8_close_173 : decode cX8_close 173 = .ok (.iload_n 3, 1) := by decide +kernel
theorem dX8_close_174 : decode cX8_close 174 = .ok (.iconst (-1), 1) := by decide +kernel
theorem dX8_close_175 : decode cX8_close 175 = .ok (.if_icmp .eq 13, 3) := by decide +kernel
theorem dX8_close_178 : decode cX8_close 178 = .ok (.iload 7, 2) := by decide +kernel
theorem dX8_close_180 : decode cX8_close 180 = .ok (.iload 6, 2) := by decide +kernel
theorem dX8_close_182 : decode cX8_close 182 = .ok (.isub, 1) := by decide +kernel
theorem dX8_close_183 : decode cX8_close 183 = .ok (.iload 4, 2) := by decide +kernel
theorem dX8_close_185 : decode cX8_close 185 = .ok (.if_icmp .gt 7, 3) := by decide +kernel
theorem dX8_close_188 : decode cX8_close 188 = .ok (.iconst 1, 1) := by decide +kernel
theorem dX8_close_189 : decode cX8_close 189 = .ok (.goto 4, 3) := by decide +kernel
theorem dX8_close_192 : decode cX8_close 192 = .ok (.iconst 0, 1) := by decide +kernel
theorem dX8_close_193 : decode cX8_close 193 = .ok (.istore 9, 2) := by decide +kernel
theorem dX8_close_195 : decode cX8_close 195 = .ok (.iload 9, 2) := by decide +kernel
theorem dX8_close_197 : decode cX8_close 197 = .ok (.ifCond .eq 8, 3) := by decide +kernel
theorem dX8_close_200 : decode cX8_close 200 = .ok (.iload 5, 2) := by decide +kernel
theorem dX8_close_202 : decode cX8_close 202 = .ok (.goto 4, 3) := by decide +kernel
theorem dX8_close_205 : decode cX8_close 205 = .ok (.iload_n 3, 1) := by decide +kernel
theorem dX8_close_206 : decode cX8_close 206 = .ok (.istore_n 3, 1) := by decide +kernel
theorem dX8_close_207 : decode cX8_close 207 = .ok (.iload 9, 2) := by decide +kernel
theorem dX8_close_209 : decode cX8_close 209 = .ok (.ifCond .eq 11, 3) := by decide +kernel
theorem dX8_close_212 : decode cX8_close 212 = .ok (.iload 7, 2) := by decide +kernel
theorem dX8_close_214 : decode cX8_close 214 = .ok (.iload 6, 2) := by decide +kernel
theorem dX8_close_216 : decode cX8_close 216 = .ok (.isub, 1) := by decide +kernel
theorem dX8_close_217 : decode cX8_close 217 = .ok (.goto 5, 3) := by decide +kernel
theorem dX8_close_220 : decode cX8_close 220 = .ok (.iload 4, 2) := by decide +kernel
theorem dX8_close_222 : decode cX8_close 222 = .ok (.istore 4, 2) := by decide +kernel
theorem dX8_close_224 : decode cX8_close 224 = .ok (.iinc 5 1, 3) := by decide +kernel
theorem dX8_close_227 : decode cX8_close 227 = .ok (.goto (-181), 3) := by decide +kernel
theorem dX8_close_230 : decode cX8_close 230 = .ok (.iload_n 3, 1) := by decide +kernel
theorem dX8_close_231 : decode cX8_close 231 = .ok (.iconst (-1), 1) := by decide +kernel
theorem dX8_close_232 : decode cX8_close 232 = .ok (.if_icmp .eq 7, 3) := by decide +kernel
theorem dX8_close_235 : decode cX8_close 235 = .ok (.iload_n 2, 1) := by decide +kernel
theorem dX8_close_236 : decode cX8_close 236 = .ok (.ifCond .ne 7, 3) := by decide +kernel
theorem dX8_close_239 : decode cX8_close 239 = .ok (.iload_n 3, 1) := by decide +kernel
theorem dX8_close_240 : decode cX8_close 240 = .ok (.goto 5, 3) := by decide +kernel
theorem dX8_close_243 : decode cX8_close 243 = .ok (.iload 4, 2) := by decide +kernel
theorem dX8_close_245 : decode cX8_close 245 = .ok (.ireturn, 1) := by decide +kernel
theorem dX8_farthestBy_0 : decode cX8_farthestBy 0 = .ok (.aload_n 0, 1) := by decide +kernel
theorem dX8_farthestBy_1 : decode cX8_farthestBy 1 = .ok (.iload_n 1, 1) := by decide +kernel
theorem dX8_farthestBy_2 : decode cX8_farthestBy 2 = .ok (.invokevirtual 191, 3) := by decide +kernel
theorem dX8_farthestBy_5 : decode cX8_farthestBy 5 = .ok (.aload_n 0, 1) := by decide +kernel
theorem dX8_farthestBy_6 : decode cX8_farthestBy 6 = .ok (.getfield 37, 3) := by decide +kernel
theorem dX8_farthestBy_9 : decode cX8_farthestBy 9 = .ok (.aload_n 0, 1) := by decide +kernel
theorem dX8_farthestBy_10 : decode cX8_farthestBy 10 = .ok (.getfield 149, 3) := by decide +kernel
theorem dX8_farthestBy_13 : decode cX8_farthestBy 13 = .ok (.iconst 1, 1) := by decide +kernel
theorem dX8_farthestBy_14 : decode cX8_farthestBy 14 = .ok (.iastore, 1) := by decide +kernel
theorem dX8_farthestBy_15 : decode cX8_farthestBy 15 = .ok (.aload_n 0, 1) := by decide +kernel
theorem dX8_farthestBy_16 : decode cX8_farthestBy 16 = .ok (.getfield 40, 3) := by decide +kernel
theorem dX8_farthestBy_19 : decode cX8_farthestBy 19 = .ok (.aload_n 0, 1) := by decide +kernel
theorem dX8_farthestBy_20 : decode cX8_farthestBy 20 = .ok (.getfield 149, 3) := by decide +kernel
theorem dX8_farthestBy_23 : decode cX8_farthestBy 23 = .ok (.iload_n 3, 1) := by decide +kernel
theorem dX8_farthestBy_24 : decode cX8_farthestBy 24 = .ok (.iastore, 1) := by decide +kernel
theorem dX8_farthestBy_25 : decode cX8_farthestBy 25 = .ok (.aload_n 0, 1) := by decide +kernel
theorem dX8_farthestBy_26 : decode cX8_farthestBy 26 = .ok (.dup, 1) := by decide +kernel
theorem dX8_farthestBy_27 : decode cX8_farthestBy 27 = .ok (.getfield 149, 3) := by decide +kernel
theorem dX8_farthestBy_30 : decode cX8_farthestBy 30 = .ok (.iconst 1, 1) := by decide +kernel
theorem dX8_farthestBy_31 : decode cX8_farthestBy 31 = .ok (.iadd, 1) := by decide +kernel
theorem dX8_farthestBy_32 : decode cX8_farthestBy 32 = .ok (.putfield 149, 3) := by decide +kernel
theorem dX8_farthestBy_35 : decode cX8_farthestBy 35 = .ok (.iload_n 2, 1) := by decide +kernel
theorem dX8_farthestBy_36 : decode cX8_farthestBy 36 = .ok (.istore 4, 2) := by decide +kernel
theorem dX8_farthestBy_38 : decode cX8_farthestBy 38 = .ok (.iconst 0, 1) := by decide +kernel
theorem dX8_farthestBy_39 : decode cX8_farthestBy 39 = .ok (.istore 5, 2) := by decide +kernel
theorem dX8_farthestBy_41 : decode cX8_farthestBy 41 = .ok (.iload 5, 2) := by decide +kernel
theorem dX8_farthestBy_43 : decode cX8_farthestBy 43 = .ok (.sipush 999, 3) := by decide +kernel
theorem dX8_farthestBy_46 : decode cX8_farthestBy 46 = .ok (.if_icmp .ge 55, 3) := by decide +kernel
theorem dX8_farthestBy_49 : decode cX8_farthestBy 49 = .ok (.iload 4, 2) := by decide +kernel
theorem dX8_farthestBy_51 : decode cX8_farthestBy 51 = .ok (.istore 6, 2) := by decide +kernel
theorem dX8_farthestBy_53 : decode cX8_farthestBy 53 = .ok (.iconst 0, 1) := by decide +kernel
theorem dX8_farthestBy_54 : decode cX8_farthestBy 54 = .ok (.istore 7, 2) := by decide +kernel
theorem dX8_farthestBy_56 : decode cX8_farthestBy 56 = .ok (.iload 7, 2) := by decide +kernel
theorem dX8_farthestBy_58 : decode cX8_farthestBy 58 = .ok (.aload_n 0, 1) := by decide +kernel
theorem dX8_farthestBy_59 : decode cX8_farthestBy 59 = .ok (.getfield 149, 3) := by decide +kernel
theorem dX8_farthestBy_62 : decode cX8_farthestBy 62 = .ok (.if_icmp .ge 25, 3) := by decide +kernel
theorem dX8_farthestBy_65 : decode cX8_farthestBy 65 = .ok (.iload 4, 2) := by decide +kernel
theorem dX8_farthestBy_67 : decode cX8_farthestBy 67 = .ok (.aload_n 0, 1) := by decide +kernel
theorem dX8_farthestBy_68 : decode cX8_farthestBy 68 = .ok (.iload 7, 2) := by decide +kernel
theorem dX8_farthestBy_70 : decode cX8_farthestBy 70 = .ok (.iload 6, 2) := by decide +kernel
theorem dX8_farthestBy_72 : decode cX8_farthestBy 72 = .ok (.iconst 0, 1) := by decide +kernel
theorem dX8_farthestBy_73 : decode cX8_farthestBy 73 = .ok (.iconst 0, 1) := by decide +kernel
theorem dX8_farthestBy_74 : decode cX8_farthestBy 74 = .ok (.iconst 0, 1) := by decide +kernel
theorem dX8_farthestBy_75 : decode cX8_farthestBy 75 = .ok (.invokevirtual 155, 3) := by decide +kernel
theorem dX8_farthestBy_78 : decode cX8_farthestBy 78 = .ok (.isub, 1) := by decide +kernel
theorem dX8_farthestBy_79 : decode cX8_farthestBy 79 = .ok (.istore 4, 2) := by decide +kernel
theorem dX8_farthestBy_81 : decode cX8_farthestBy 81 = .ok (.iinc 7 1, 3) := by decide +kernel
theorem dX8_farthestBy_84 : decode cX8_farthestBy 84 = .ok (.goto (-28), 3) := by decide +kernel
theorem dX8_farthestBy_87 : decode cX8_farthestBy 87 = .ok (.iload 4, 2) := by decide +kernel
theorem dX8_farthestBy_89 : decode cX8_farthestBy 89 = .ok (.ifCond .gt 6, 3) := by decide +kernel
theorem dX8_farthestBy_92 : decode cX8_farthestBy 92 = .ok (.iload 5, 2) := by decide +kernel
theorem dX8_farthestBy_94 : decode cX8_farthestBy 94 = .ok (.ireturn, 1) := by decide +kernel
theorem dX8_farthestBy_95 : decode cX8_farthestBy 95 = .ok (.iinc 5 1, 3) := by decide +kernel
theorem dX8_farthestBy_98 : decode cX8_farthestBy 98 = .ok (.goto (-57), 3) := by decide +kernel
theorem dX8_farthestBy_101 : decode cX8_farthestBy 101 = .ok (.sipush 999, 3) := by decide +kernel
theorem dX8_farthestBy_104 : decode cX8_farthestBy 104 = .ok (.ireturn, 1) := by decide +kernel
theorem dX8_farthest_0 : decode cX8_farthest 0 = .ok (.aload_n 0, 1) := by decide +kernel
theorem dX8_farthest_1 : decode cX8_farthest 1 = .ok (.iload_n 1, 1) := by decide +kernel
theorem dX8_farthest_2 : decode cX8_farthest 2 = .ok (.invokevirtual 132, 3) := by decide +kernel
theorem dX8_farthest_5 : decode cX8_farthest 5 = .ok (.ifCond .ne 6, 3) := by decide +kernel
theorem dX8_farthest_8 : decode cX8_farthest 8 = .ok (.bipush (-101), 2) := by decide +kernel
theorem dX8_farthest_10 : decode cX8_farthest 10 = .ok (.ireturn, 1) := by decide +kernel
theorem dX8_farthest_11 : decode cX8_farthest 11 = .ok (.iload_n 2, 1) := by decide +kernel
theorem dX8_farthest_12 : decode cX8_farthest 12 = .ok (.invokestatic 186, 3) := by decide +kernel
theorem dX8_farthest_15 : decode cX8_farthest 15 = .ok (.ifCond .eq 13, 3) := by decide +kernel
theorem dX8_farthest_18 : decode cX8_farthest 18 = .ok (.aload_n 0, 1) := by decide +kernel
theorem dX8_farthest_19 : decode cX8_farthest 19 = .ok (.iload_n 1, 1) := by decide +kernel
theorem dX8_farthest_20 : decode cX8_farthest 20 = .ok (.iload_n 2, 1) := by decide +kernel
theorem dX8_farthest_21 : decode cX8_farthest 21 = .ok (.iconst 0, 1) := by decide +kernel
theorem dX8_farthest_22 : decode cX8_farthest 22 = .ok (.invokevirtual 212, 3) := by decide +kernel
theorem dX8_farthest_25 : decode cX8_farthest 25 = .ok (.goto 5, 3) := by decide +kernel
theorem dX8_farthest_28 : decode cX8_farthest 28 = .ok (.bipush (-102), 2) := by decide +kernel
theorem dX8_farthest_30 : decode cX8_farthest 30 = .ok (.ireturn, 1) := by decide +kernel
theorem dX8_coast_0 : decode cX8_coast 0 = .ok (.aload_n 0, 1) := by decide +kernel
theorem dX8_coast_1 : decode cX8_coast 1 = .ok (.iload_n 1, 1) := by decide +kernel
theorem dX8_coast_2 : decode cX8_coast 2 = .ok (.invokevirtual 132, 3) := by decide +kernel
theorem dX8_coast_5 : decode cX8_coast 5 = .ok (.ifCond .ne 6, 3) := by decide +kernel
theorem dX8_coast_8 : decode cX8_coast 8 = .ok (.bipush (-101), 2) := by decide +kernel
theorem dX8_coast_10 : decode cX8_coast 10 = .ok (.ireturn, 1) := by decide +kernel
theorem dX8_coast_11 : decode cX8_coast 11 = .ok (.iload_n 2, 1) := by decide +kernel
theorem dX8_coast_12 : decode cX8_coast 12 = .ok (.invokestatic 186, 3) := by decide +kernel
theorem dX8_coast_15 : decode cX8_coast 15 = .ok (.ifCond .eq 15, 3) := by decide +kernel
theorem dX8_coast_18 : decode cX8_coast 18 = .ok (.iload_n 3, 1) := by decide +kernel
theorem dX8_coast_19 : decode cX8_coast 19 = .ok (.i2l, 1) := by decide +kernel
theorem dX8_coast_20 : decode cX8_coast 20 = .ok (.lconst 0, 1) := by decide +kernel
theorem dX8_coast_21 : decode cX8_coast 21 = .ok (.ldc2_w 142, 3) := by decide +kernel
theorem dX8_coast_24 : decode cX8_coast 24 = .ok (.invokestatic 89, 3) := by decide +kernel
theorem dX8_coast_27 : decode cX8_coast 27 = .ok (.ifCond .ne 6, 3) := by decide +kernel
theorem dX8_coast_30 : decode cX8_coast 30 = .ok (.bipush (-102), 2) := by decide +kernel
theorem dX8_coast_32 : decode cX8_coast 32 = .ok (.ireturn, 1) := by decide +kernel
theorem dX8_coast_33 : decode cX8_coast 33 = .ok (.aload_n 0, 1) := by decide +kernel
theorem dX8_coast_34 : decode cX8_coast 34 = .ok (.getfield 215, 3) := by decide +kernel
theorem dX8_coast_37 : decode cX8_coast 37 = .ok (.bipush 8, 2) := by decide +kernel
theorem dX8_coast_39 : decode cX8_coast 39 = .ok (.if_icmp .ne 6, 3) := by decide +kernel
theorem dX8_coast_42 : decode cX8_coast 42 = .ok (.bipush (-104), 2) := by decide +kernel
theorem dX8_coast_44 : decode cX8_coast 44 = .ok (.ireturn, 1) := by decide +kernel
theorem dX8_coast_45 : decode cX8_coast 45 = .ok (.aload_n 0, 1) := by decide +kernel
theorem dX8_coast_46 : decode cX8_coast 46 = .ok (.getfield 52, 3) := by decide +kernel
theorem dX8_coast_49 : decode cX8_coast 49 = .ok (.iconst 3, 1) := by decide +kernel
theorem dX8_coast_50 : decode cX8_coast 50 = .ok (.aload_n 0, 1) := by decide +kernel
theorem dX8_coast_51 : decode cX8_coast 51 = .ok (.getfield 215, 3) := by decide +kernel
theorem dX8_coast_54 : decode cX8_coast 54 = .ok (.imul, 1) := by decide +kernel
theorem dX8_coast_55 : decode cX8_coast 55 = .ok (.iload_n 1, 1) := by decide +kernel
theorem dX8_coast_56 : decode cX8_coast 56 = .ok (.iastore, 1) := by decide +kernel
theorem dX8_coast_57 : decode cX8_coast 57 = .ok (.aload_n 0, 1) := by decide +kernel
theorem dX8_coast_58 : decode cX8_coast 58 = .ok (.getfield 52, 3) := by decide +kernel
theorem dX8_coast_61 : decode cX8_coast 61 = .ok (.iconst 3, 1) := by decide +kernel
theorem dX8_coast_62 : decode cX8_coast 62 = .ok (.aload_n 0, 1) := by decide +kernel
theorem dX8_coast_63 : decode cX8_coast 63 = .ok (.getfield 215, 3) := by decide +kernel
theorem dX8_coast_66 : decode cX8_coast 66 = .ok (.imul, 1) := by decide +kernel
theorem dX8_coast_67 : decode cX8_coast 67 = .ok (.iconst 1, 1) := by decide +kernel
theorem dX8_coast_68 : decode cX8_coast 68 = .ok (.iadd, 1) := by decide +kernel
theorem dX8_coast_69 : decode cX8_coast 69 = .ok (.iload_n 2, 1) := by decide +kernel
theorem dX8_coast_70 : decode cX8_coast 70 = .ok (.iastore, 1) := by decide +kernel
theorem dX8_coast_71 : decode cX8_coast 71 = .ok (.aload_n 0, 1) := by decide +kernel
theorem dX8_coast_72 : decode cX8_coast 72 = .ok (.getfield 52, 3) := by decide +kernel
theorem dX8_coast_75 : decode cX8_coast 75 = .ok (.iconst 3, 1) := by decide +kernel
theorem dX8_coast_76 : decode cX8_coast 76 = .ok (.aload_n 0, 1) := by decide +kernel
theorem dX8_coast_77 : decode cX8_coast 77 = .ok (.getfield 215, 3) := by decide +kernel
theorem dX8_coast_80 : decode cX8_coast 80 = .ok (.imul, 1) := by decide +kernel
theorem dX8_coast_81 : decode cX8_coast 81 = .ok (.iconst 2, 1) := by decide +kernel
theorem dX8_coast_82 : decode cX8_coast 82 = .ok (.iadd, 1) := by decide +kernel
theorem dX8_coast_83 : decode cX8_coast 83 = .ok (.iload_n 3, 1) := by decide +kernel
theorem dX8_coast_84 : decode cX8_coast 84 = .ok (.iastore, 1) := by decide +kernel
theorem dX8_coast_85 : decode cX8_coast 85 = .ok (.aload_n 0, 1) := by decide +kernel
theorem dX8_coast_86 : decode cX8_coast 86 = .ok (.dup, 1) := by decide +kernel
theorem dX8_coast_87 : decode cX8_coast 87 = .ok (.getfield 215, 3) := by decide +kernel
theorem dX8_coast_90 : decode cX8_coast 90 = .ok (.iconst 1, 1) := by decide +kernel
theorem dX8_coast_91 : decode cX8_coast 91 = .ok (.iadd, 1) := by decide +kernel
theorem dX8_coast_92 : decode cX8_coast 92 = .ok (.putfield 215, 3) := by decide +kernel
theorem dX8_coast_95 : decode cX8_coast 95 = .ok (.aload_n 0, 1) := by decide +kernel
theorem dX8_coast_96 : decode cX8_coast 96 = .ok (.getfield 215, 3) := by decide +kernel
theorem dX8_coast_99 : decode cX8_coast 99 = .ok (.ireturn, 1) := by decide +kernel
theorem dX8_rubsNow_0 : decode cX8_rubsNow 0 = .ok (.iconst 0, 1) := by decide +kernel
theorem dX8_rubsNow_1 : decode cX8_rubsNow 1 = .ok (.istore_n 1, 1) := by decide +kernel
theorem dX8_rubsNow_2 : decode cX8_rubsNow 2 = .ok (.iconst 0, 1) := by decide +kernel
theorem dX8_rubsNow_3 : decode cX8_rubsNow 3 = .ok (.istore_n 2, 1) := by decide +kernel
theorem dX8_rubsNow_4 : decode cX8_rubsNow 4 = .ok (.iload_n 2, 1) := by decide +kernel
theorem dX8_rubsNow_5 : decode cX8_rubsNow 5 = .ok (.bipush 10, 2) := by decide +kernel
theorem dX8_rubsNow_7 : decode cX8_rubsNow 7 = .ok (.if_icmp .ge 92, 3) := by decide +kernel
theorem dX8_rubsNow_10 : decode cX8_rubsNow 10 = .ok (.iconst 1, 1) := by decide +kernel
theorem dX8_rubsNow_11 : decode cX8_rubsNow 11 = .ok (.istore_n 3, 1) := by decide +kernel
theorem dX8_rubsNow_12 : decode cX8_rubsNow 12 = .ok (.iconst 0, 1) := by decide +kernel
theorem dX8_rubsNow_13 : decode cX8_rubsNow 13 = .ok (.istore 4, 2) := by decide +kernel
theorem dX8_rubsNow_15 : decode cX8_rubsNow 15 = .ok (.iload 4, 2) := by decide +kernel
theorem dX8_rubsNow_17 : decode cX8_rubsNow 17 = .ok (.aload_n 0, 1) := by decide +kernel
theorem dX8_rubsNow_18 : decode cX8_rubsNow 18 = .ok (.getfield 215, 3) := by decide +kernel
theorem dX8_rubsNow_21 : decode cX8_rubsNow 21 = .ok (.if_icmp .ge 58, 3) := by decide +kernel
theorem dX8_rubsNow_24 : decode cX8_rubsNow 24 = .ok (.iload_n 3, 1) := by decide +kernel
theorem dX8_rubsNow_25 : decode cX8_rubsNow 25 = .ok (.ifCond .eq 46, 3) := by decide +kernel
theorem dX8_rubsNow_28 : decode cX8_rubsNow 28 = .ok (.aload_n 0, 1) := by decide +kernel
theorem dX8_rubsNow_29 : decode cX8_rubsNow 29 = .ok (.aload_n 0, 1) := by decide +kernel
theorem dX8_rubsNow_30 : decode cX8_rubsNow 30 = .ok (.getfield 52, 3) := by decide +kernel
theorem dX8_rubsNow_33 : decode cX8_rubsNow 33 = .ok (.iconst 3, 1) := by decide +kernel
theorem dX8_rubsNow_34 : decode cX8_rubsNow 34 = .ok (.iload 4, 2) := by decide +kernel
theorem dX8_rubsNow_36 : decode cX8_rubsNow 36 = .ok (.imul, 1) := by decide +kernel
theorem dX8_rubsNow_37 : decode cX8_rubsNow 37 = .ok (.iaload, 1) := by decide +kernel
theorem dX8_rubsNow_38 : decode cX8_rubsNow 38 = .ok (.aload_n 0, 1) := by decide +kernel
theorem dX8_rubsNow_39 : decode cX8_rubsNow 39 = .ok (.getfield 52, 3) := by decide +kernel
theorem dX8_rubsNow_42 : decode cX8_rubsNow 42 = .ok (.iconst 3, 1) := by decide +kernel
theorem dX8_rubsNow_43 : decode cX8_rubsNow 43 = .ok (.iload 4, 2) := by decide +kernel
theorem dX8_rubsNow_45 : decode cX8_rubsNow 45 = .ok (.imul, 1) := by decide +kernel
theorem dX8_rubsNow_46 : decode cX8_rubsNow 46 = .ok (.iconst 1, 1) := by decide +kernel
theorem dX8_rubsNow_47 : decode cX8_rubsNow 47 = .ok (.iadd, 1) := by decide +kernel
theorem dX8_rubsNow_48 : decode cX8_rubsNow 48 = .ok (.iaload, 1) := by decide +kernel
theorem dX8_rubsNow_49 : decode cX8_rubsNow 49 = .ok (.iload_n 2, 1) := by decide +kernel
theorem dX8_rubsNow_50 : decode cX8_rubsNow 50 = .ok (.invokevirtual 212, 3) := by decide +kernel
theorem dX8_rubsNow_53 : decode cX8_rubsNow 53 = .ok (.aload_n 0, 1) := by decide +kernel
theorem dX8_rubsNow_54 : decode cX8_rubsNow 54 = .ok (.getfield 52, 3) := by decide +kernel
theorem dX8_rubsNow_57 : decode cX8_rubsNow 57 = .ok (.iconst 3, 1) := by decide +kernel
theorem dX8_rubsNow_58 : decode cX8_rubsNow 58 = .ok (.iload 4, 2) := by decide +kernel
theorem dX8_rubsNow_60 : decode cX8_rubsNow 60 = .ok (.imul, 1) := by decide +kernel
theorem dX8_rubsNow_61 : decode cX8_rubsNow 61 = .ok (.iconst 2, 1) := by decide +kernel
theorem dX8_rubsNow_62 : decode cX8_rubsNow 62 = .ok (.iadd, 1) := by decide +kernel
theorem dX8_rubsNow_63 : decode cX8_rubsNow 63 = .ok (.iaload, 1) := by decide +kernel
theorem dX8_rubsNow_64 : decode cX8_rubsNow 64 = .ok (.if_icmp .ne 7, 3) := by decide +kernel
theorem dX8_rubsNow_67 : decode cX8_rubsNow 67 = .ok (.iconst 1, 1) := by decide +kernel
theorem dX8_rubsNow_68 : decode cX8_rubsNow 68 = .ok (.goto 4, 3) := by decide +kernel
theorem dX8_rubsNow_71 : decode cX8_rubsNow 71 = .ok (.iconst 0, 1) := by decide +kernel
theorem dX8_rubsNow_72 : decode cX8_rubsNow 72 = .ok (.istore_n 3, 1) := by decide +kernel
theorem dX8_rubsNow_73 : decode cX8_rubsNow 73 = .ok (.iinc 4 1, 3) := by decide +kernel
theorem dX8_rubsNow_76 : decode cX8_rubsNow 76 = .ok (.goto (-61), 3) := by decide +kernel
theorem dX8_rubsNow_79 : decode cX8_rubsNow 79 = .ok (.iload_n 1, 1) := by decide +kernel
theorem dX8_rubsNow_80 : decode cX8_rubsNow 80 = .ok (.iload_n 3, 1) := by decide +kernel
theorem dX8_rubsNow_81 : decode cX8_rubsNow 81 = .ok (.ifCond .eq 9, 3) := by decide +kernel
theorem dX8_rubsNow_84 : decode cX8_rubsNow 84 = .ok (.iconst 1, 1) := by decide +kernel
theorem dX8_rubsNow_85 : decode cX8_rubsNow 85 = .ok (.iload_n 2, 1) := by decide +kernel
theorem dX8_rubsNow_86 : decode cX8_rubsNow 86 = .ok (.ishl, 1) := by decide +kernel
theorem dX8_rubsNow_87 : decode cX8_rubsNow 87 = .ok (.goto 4, 3) := by decide +kernel
theorem dX8_rubsNow_90 : decode cX8_rubsNow 90 = .ok (.iconst 0, 1) := by decide +kernel
theorem dX8_rubsNow_91 : decode cX8_rubsNow 91 = .ok (.ior, 1) := by decide +kernel
theorem dX8_rubsNow_92 : decode cX8_rubsNow 92 = .ok (.istore_n 1, 1) := by decide +kernel
theorem dX8_rubsNow_93 : decode cX8_rubsNow 93 = .ok (.iinc 2 1, 3) := by decide +kernel
theorem dX8_rubsNow_96 : decode cX8_rubsNow 96 = .ok (.goto (-92), 3) := by decide +kernel
theorem dX8_rubsNow_99 : decode cX8_rubsNow 99 = .ok (.iload_n 1, 1) := by decide +kernel
theorem dX8_rubsNow_100 : decode cX8_rubsNow 100 = .ok (.ireturn, 1) := by decide +kernel
theorem dX8_rubs_0 : decode cX8_rubs 0 = .ok (.aload_n 0, 1) := by decide +kernel
theorem dX8_rubs_1 : decode cX8_rubs 1 = .ok (.invokevirtual 218, 3) := by decide +kernel
theorem dX8_rubs_4 : decode cX8_rubs 4 = .ok (.ireturn, 1) := by decide +kernel
theorem dX8_downTime_0 : decode cX8_downTime 0 = .ok (.aload_n 0, 1) := by decide +kernel
theorem dX8_downTime_1 : decode cX8_downTime 1 = .ok (.iload_n 1, 1) := by decide +kernel
theorem dX8_downTime_2 : decode cX8_downTime 2 = .ok (.iload_n 2, 1) := by decide +kernel
theorem dX8_downTime_3 : decode cX8_downTime 3 = .ok (.aload_n 0, 1) := by decide +kernel
theorem dX8_downTime_4 : decode cX8_downTime 4 = .ok (.getfield 28, 3) := by decide +kernel
theorem dX8_downTime_7 : decode cX8_downTime 7 = .ok (.iload_n 1, 1) := by decide +kernel
theorem dX8_downTime_8 : decode cX8_downTime 8 = .ok (.iaload, 1) := by decide +kernel
theorem dX8_downTime_9 : decode cX8_downTime 9 = .ok (.invokevirtual 208, 3) := by decide +kernel
theorem dX8_downTime_12 : decode cX8_downTime 12 = .ok (.ireturn, 1) := by decide +kernel
theorem dX8_chanceOf_0 : decode cX8_chanceOf 0 = .ok (.aload_n 0, 1) := by decide +kernel
theorem dX8_chanceOf_1 : decode cX8_chanceOf 1 = .ok (.iload_n 1, 1) := by decide +kernel
theorem dX8_chanceOf_2 : decode cX8_chanceOf 2 = .ok (.iload_n 3, 1) := by decide +kernel
theorem dX8_chanceOf_3 : decode cX8_chanceOf 3 = .ok (.invokevirtual 222, 3) := by decide +kernel
theorem dX8_chanceOf_6 : decode cX8_chanceOf 6 = .ok (.istore 5, 2) := by decide +kernel
theorem dX8_chanceOf_8 : decode cX8_chanceOf 8 = .ok (.aload_n 0, 1) := by decide +kernel
theorem dX8_chanceOf_9 : decode cX8_chanceOf 9 = .ok (.iload_n 2, 1) := by decide +kernel
theorem dX8_chanceOf_10 : decode cX8_chanceOf 10 = .ok (.iload_n 3, 1) := by decide +kernel
theorem dX8_chanceOf_11 : decode cX8_chanceOf 11 = .ok (.invokevirtual 222, 3) := by decide +kernel
theorem dX8_chanceOf_14 : decode cX8_chanceOf 14 = .ok (.istore 6, 2) := by decide +kernel
theorem dX8_chanceOf_16 : decode cX8_chanceOf 16 = .ok (.iload 5, 2) := by decide +kernel
theorem dX8_chanceOf_18 : decode cX8_chanceOf 18 = .ok (.iconst (-1), 1) := by decide +kernel
theorem dX8_chanceOf_19 : decode cX8_chanceOf 19 = .ok (.if_icmp .eq 9, 3) := by decide +kernel
theorem dX8_chanceOf_22 : decode cX8_chanceOf 22 = .ok (.iload 6, 2) := by decide +kernel
theorem dX8_chanceOf_24 : decode cX8_chanceOf 24 = .ok (.iconst (-1), 1) := by decide +kernel
theorem dX8_chanceOf_25 : decode cX8_chanceOf 25 = .ok (.if_icmp .ne 27, 3) := by decide +kernel
theorem dX8_chanceOf_28 : decode cX8_chanceOf 28 = .ok (.iload 5, 2) := by decide +kernel
theorem dX8_chanceOf_30 : decode cX8_chanceOf 30 = .ok (.iload 6, 2) := by decide +kernel
theorem dX8_chanceOf_32 : decode cX8_chanceOf 32 = .ok (.if_icmp .ne 7, 3) := by decide +kernel
theorem dX8_chanceOf_35 : decode cX8_chanceOf 35 = .ok (.iconst 5, 1) := by decide +kernel
theorem dX8_chanceOf_36 : decode cX8_chanceOf 36 = .ok (.goto 15, 3) := by decide +kernel
theorem dX8_chanceOf_39 : decode cX8_chanceOf 39 = .ok (.iload 5, 2) := by decide +kernel
theorem dX8_chanceOf_41 : decode cX8_chanceOf 41 = .ok (.iconst (-1), 1) := by decide +kernel
theorem dX8_chanceOf_42 : decode cX8_chanceOf 42 = .ok (.if_icmp .ne 7, 3) := by decide +kernel
theorem dX8_chanceOf_45 : decode cX8_chanceOf 45 = .ok (.iconst 0, 1) := by decide +kernel
theorem dX8_chanceOf_46 : decode cX8_chanceOf 46 = .ok (.goto 5, 3) := by decide +kernel
theorem dX8_chanceOf_49 : decode cX8_chanceOf 49 = .ok (.bipush 10, 2) := by decide +kernel
theorem dX8_chanceOf_51 : decode cX8_chanceOf 51 = .ok (.ireturn, 1) := by decide +kernel
theorem dX8_chanceOf_52 : decode cX8_chanceOf 52 = .ok (.iload 5, 2) := by decide +kernel
theorem dX8_chanceOf_54 : decode cX8_chanceOf 54 = .ok (.iload 6, 2) := by decide +kernel
theorem dX8_chanceOf_56 : decode cX8_chanceOf 56 = .ok (.if_icmp .ge 11, 3) := by decide +kernel
theorem dX8_chanceOf_59 : decode cX8_chanceOf 59 = .ok (.iload 6, 2) := by decide +kernel
theorem dX8_chanceOf_61 : decode cX8_chanceOf 61 = .ok (.iload 5, 2) := by decide +kernel
theorem dX8_chanceOf_63 : decode cX8_chanceOf 63 = .ok (.isub, 1) := by decide +kernel
theorem dX8_chanceOf_64 : decode cX8_chanceOf 64 = .ok (.goto 8, 3) := by decide +kernel
theorem dX8_chanceOf_67 : decode cX8_chanceOf 67 = .ok (.iload 5, 2) := by decide +kernel
theorem dX8_chanceOf_69 : decode cX8_chanceOf 69 = .ok (.iload 6, 2) := by decide +kernel
theorem dX8_chanceOf_71 : decode cX8_chanceOf 71 = .ok (.isub, 1) := by decide +kernel
theorem dX8_chanceOf_72 : decode cX8_chanceOf 72 = .ok (.bipush 100, 2) := by decide +kernel
theorem dX8_chanceOf_74 : decode cX8_chanceOf 74 = .ok (.iload 4, 2) := by decide +kernel
theorem dX8_chanceOf_76 : decode cX8_chanceOf 76 = .ok (.imul, 1) := by decide +kernel
theorem dX8_chanceOf_77 : decode cX8_chanceOf 77 = .ok (.idiv, 1) := by decide +kernel
theorem dX8_chanceOf_78 : decode cX8_chanceOf 78 = .ok (.istore 7, 2) := by decide +kernel
theorem dX8_chanceOf_80 : decode cX8_chanceOf 80 = .ok (.iload 7, 2) := by decide +kernel
theorem dX8_chanceOf_82 : decode cX8_chanceOf 82 = .ok (.iconst 5, 1) := by decide +kernel
theorem dX8_chanceOf_83 : decode cX8_chanceOf 83 = .ok (.if_icmp .le 7, 3) := by decide +kernel
theorem dX8_chanceOf_86 : decode cX8_chanceOf 86 = .ok (.iconst 5, 1) := by decide +kernel
theorem dX8_chanceOf_87 : decode cX8_chanceOf 87 = .ok (.goto 5, 3) := by decide +kernel
theorem dX8_chanceOf_90 : decode cX8_chanceOf 90 = .ok (.iload 7, 2) := by decide +kernel
theorem dX8_chanceOf_92 : decode cX8_chanceOf 92 = .ok (.istore 7, 2) := by decide +kernel
theorem dX8_chanceOf_94 : decode cX8_chanceOf 94 = .ok (.iload 5, 2) := by decide +kernel
theorem dX8_chanceOf_96 : decode cX8_chanceOf 96 = .ok (.iload 6, 2) := by decide +kernel
theorem dX8_chanceOf_98 : decode cX8_chanceOf 98 = .ok (.if_icmp .ge 10, 3) := by decide +kernel
theorem dX8_chanceOf_101 : decode cX8_chanceOf 101 = .ok (.iconst 5, 1) := by decide +kernel
theorem dX8_chanceOf_102 : decode cX8_chanceOf 102 = .ok (.iload 7, 2) := by decide +kernel
theorem dX8_chanceOf_104 : decode cX8_chanceOf 104 = .ok (.iadd, 1) := by decide +kernel
theorem dX8_chanceOf_105 : decode cX8_chanceOf 105 = .ok (.goto 7, 3) := by decide +kernel
theorem dX8_chanceOf_108 : decode cX8_chanceOf 108 = .ok (.iconst 5, 1) := by decide +kernel
theorem dX8_chanceOf_109 : decode cX8_chanceOf 109 = .ok (.iload 7, 2) := by decide +kernel
theorem dX8_chanceOf_111 : decode cX8_chanceOf 111 = .ok (.isub, 1) := by decide +kernel
theorem dX8_chanceOf_112 : decode cX8_chanceOf 112 = .ok (.ireturn, 1) := by decide +kernel
theorem dX8_isSlip_0 : decode cX8_isSlip 0 = .ok (.iload_n 0, 1) := by decide +kernel
theorem dX8_isSlip_1 : decode cX8_isSlip 1 = .ok (.i2l, 1) := by decide +kernel
theorem dX8_isSlip_2 : decode cX8_isSlip 2 = .ok (.lconst 1, 1) := by decide +kernel
theorem dX8_isSlip_3 : decode cX8_isSlip 3 = .ok (.ldc2_w 142, 3) := by decide +kernel
theorem dX8_isSlip_6 : decode cX8_isSlip 6 = .ok (.invokestatic 89, 3) := by decide +kernel
theorem dX8_isSlip_9 : decode cX8_isSlip 9 = .ok (.ireturn, 1) := by decide +kernel
theorem dX8_chance_0 : decode cX8_chance 0 = .ok (.aload_n 0, 1) := by decide +kernel
theorem dX8_chance_1 : decode cX8_chance 1 = .ok (.iload_n 1, 1) := by decide +kernel
theorem dX8_chance_2 : decode cX8_chance 2 = .ok (.invokevirtual 132, 3) := by decide +kernel
theorem dX8_chance_5 : decode cX8_chance 5 = .ok (.ifCond .eq 11, 3) := by decide +kernel
theorem dX8_chance_8 : decode cX8_chance 8 = .ok (.aload_n 0, 1) := by decide +kernel
theorem dX8_chance_9 : decode cX8_chance 9 = .ok (.iload_n 2, 1) := by decide +kernel
theorem dX8_chance_10 : decode cX8_chance 10 = .ok (.invokevirtual 132, 3) := by decide +kernel
theorem dX8_chance_13 : decode cX8_chance 13 = .ok (.ifCond .ne 6, 3) := by decide +kernel
theorem dX8_chance_16 : decode cX8_chance 16 = .ok (.bipush (-101), 2) := by decide +kernel
theorem dX8_chance_18 : decode cX8_chance 18 = .ok (.ireturn, 1) := by decide +kernel
theorem dX8_chance_19 : decode cX8_chance 19 = .ok (.aload_n 0, 1) := by decide +kernel
theorem dX8_chance_20 : decode cX8_chance 20 = .ok (.invokevirtual 182, 3) := by decide +kernel
theorem dX8_chance_23 : decode cX8_chance 23 = .ok (.ifCond .eq 6, 3) := by decide +kernel
theorem dX8_chance_26 : decode cX8_chance 26 = .ok (.bipush (-103), 2) := by decide +kernel
theorem dX8_chance_28 : decode cX8_chance 28 = .ok (.ireturn, 1) := by decide +kernel
theorem dX8_chance_29 : decode cX8_chance 29 = .ok (.iload_n 3, 1) := by decide +kernel
theorem dX8_chance_30 : decode cX8_chance 30 = .ok (.invokestatic 186, 3) := by decide +kernel
theorem dX8_chance_33 : decode cX8_chance 33 = .ok (.ifCond .eq 23, 3) := by decide +kernel
theorem dX8_chance_36 : decode cX8_chance 36 = .ok (.iload 4, 2) := by decide +kernel
theorem dX8_chance_38 : decode cX8_chance 38 = .ok (.invokestatic 225, 3) := by decide +kernel
theorem dX8_chance_41 : decode cX8_chance 41 = .ok (.ifCond .eq 15, 3) := by decide +kernel
theorem dX8_chance_44 : decode cX8_chance 44 = .ok (.aload_n 0, 1) := by decide +kernel
theorem dX8_chance_45 : decode cX8_chance 45 = .ok (.iload_n 1, 1) := by decide +kernel
theorem dX8_chance_46 : decode cX8_chance 46 = .ok (.iload_n 2, 1) := by decide +kernel
theorem dX8_chance_47 : decode cX8_chance 47 = .ok (.iload_n 3, 1) := by decide +kernel
theorem dX8_chance_48 : decode cX8_chance 48 = .ok (.iload 4, 2) := by decide +kernel
theorem dX8_chance_50 : decode cX8_chance 50 = .ok (.invokevirtual 228, 3) := by decide +kernel
theorem dX8_chance_53 : decode cX8_chance 53 = .ok (.goto 5, 3) := by decide +kernel
theorem dX8_chance_56 : decode cX8_chance 56 = .ok (.bipush (-102), 2) := by decide +kernel
theorem dX8_chance_58 : decode cX8_chance 58 = .ok (.ireturn, 1) := by decide +kernel
theorem dX8_winsOf_0 : decode cX8_winsOf 0 = .ok (.aload_n 0, 1) := by decide +kernel
theorem dX8_winsOf_1 : decode cX8_winsOf 1 = .ok (.iload_n 3, 1) := by decide +kernel
theorem dX8_winsOf_2 : decode cX8_winsOf 2 = .ok (.iload 4, 2) := by decide +kernel
theorem dX8_winsOf_4 : decode cX8_winsOf 4 = .ok (.iload 5, 2) := by decide +kernel
theorem dX8_winsOf_6 : decode cX8_winsOf 6 = .ok (.iload 6, 2) := by decide +kernel
theorem dX8_winsOf_8 : decode cX8_winsOf 8 = .ok (.invokevirtual 228, 3) := by decide +kernel
theorem dX8_winsOf_11 : decode cX8_winsOf 11 = .ok (.istore 7, 2) := by decide +kernel
theorem dX8_winsOf_13 : decode cX8_winsOf 13 = .ok (.aload_n 0, 1) := by decide +kernel
theorem dX8_winsOf_14 : decode cX8_winsOf 14 = .ok (.iload_n 1, 1) := by decide +kernel
theorem dX8_winsOf_15 : decode cX8_winsOf 15 = .ok (.iload_n 2, 1) := by decide +kernel
theorem dX8_winsOf_16 : decode cX8_winsOf 16 = .ok (.iload 5, 2) := by decide +kernel
theorem dX8_winsOf_18 : decode cX8_winsOf 18 = .ok (.iload 6, 2) := by decide +kernel
theorem dX8_winsOf_20 : decode cX8_winsOf 20 = .ok (.invokevirtual 228, 3) := by decide +kernel
theorem dX8_winsOf_23 : decode cX8_winsOf 23 = .ok (.iload 7, 2) := by decide +kernel
theorem dX8_winsOf_25 : decode cX8_winsOf 25 = .ok (.aload_n 0, 1) := by decide +kernel
theorem dX8_winsOf_26 : decode cX8_winsOf 26 = .ok (.iload_n 1, 1) := by decide +kernel
theorem dX8_winsOf_27 : decode cX8_winsOf 27 = .ok (.iload_n 3, 1) := by decide +kernel
theorem dX8_winsOf_28 : decode cX8_winsOf 28 = .ok (.iload 5, 2) := by decide +kernel
theorem dX8_winsOf_30 : decode cX8_winsOf 30 = .ok (.iload 6, 2) := by decide +kernel
theorem dX8_winsOf_32 : decode cX8_winsOf 32 = .ok (.invokevirtual 228, 3) := by decide +kernel
theorem dX8_winsOf_35 : decode cX8_winsOf 35 = .ok (.imul, 1) := by decide +kernel
theorem dX8_winsOf_36 : decode cX8_winsOf 36 = .ok (.bipush 10, 2) := by decide +kernel
theorem dX8_winsOf_38 : decode cX8_winsOf 38 = .ok (.iload 7, 2) := by decide +kernel
theorem dX8_winsOf_40 : decode cX8_winsOf 40 = .ok (.isub, 1) := by decide +kernel
theorem dX8_winsOf_41 : decode cX8_winsOf 41 = .ok (.aload_n 0, 1) := by decide +kernel
theorem dX8_winsOf_42 : decode cX8_winsOf 42 = .ok (.iload_n 1, 1) := by decide +kernel
theorem dX8_winsOf_43 : decode cX8_winsOf 43 = .ok (.iload 4, 2) := by decide +kernel
theorem dX8_winsOf_45 : decode cX8_winsOf 45 = .ok (.iload 5, 2) := by decide +kernel
theorem dX8_winsOf_47 : decode cX8_winsOf 47 = .ok (.iload 6, 2) := by decide +kernel
theorem dX8_winsOf_49 : decode cX8_winsOf 49 = .ok (.invokevirtual 228, 3) := by decide +kernel
theorem dX8_winsOf_52 : decode cX8_winsOf 52 = .ok (.imul, 1) := by decide +kernel
theorem dX8_winsOf_53 : decode cX8_winsOf 53 = .ok (.iadd, 1) := by decide +kernel
theorem dX8_winsOf_54 : decode cX8_winsOf 54 = .ok (.imul, 1) := by decide +kernel
theorem dX8_winsOf_55 : decode cX8_winsOf 55 = .ok (.ireturn, 1) := by decide +kernel
theorem dX8_common_0 : decode cX8_common 0 = .ok (.iload_n 0, 1) := by decide +kernel
theorem dX8_common_1 : decode cX8_common 1 = .ok (.istore_n 2, 1) := by decide +kernel
theorem dX8_common_2 : decode cX8_common 2 = .ok (.iload_n 1, 1) := by decide +kernel
theorem dX8_common_3 : decode cX8_common 3 = .ok (.istore_n 3, 1) := by decide +kernel
theorem dX8_common_4 : decode cX8_common 4 = .ok (.iload_n 2, 1) := by decide +kernel
theorem dX8_common_5 : decode cX8_common 5 = .ok (.ifCond .eq 16, 3) := by decide +kernel
theorem dX8_common_8 : decode cX8_common 8 = .ok (.iload_n 3, 1) := by decide +kernel
theorem dX8_common_9 : decode cX8_common 9 = .ok (.iload_n 2, 1) := by decide +kernel
theorem dX8_common_10 : decode cX8_common 10 = .ok (.irem, 1) := by decide +kernel
theorem dX8_common_11 : decode cX8_common 11 = .ok (.istore 4, 2) := by decide +kernel
theorem dX8_common_13 : decode cX8_common 13 = .ok (.iload_n 2, 1) := by decide +kernel
theorem dX8_common_14 : decode cX8_common 14 = .ok (.istore_n 3, 1) := by decide +kernel
theorem dX8_common_15 : decode cX8_common 15 = .ok (.iload 4, 2) := by decide +kernel
theorem dX8_common_17 : decode cX8_common 17 = .ok (.istore_n 2, 1) := by decide +kernel
theorem dX8_common_18 : decode cX8_common 18 = .ok (.goto (-14), 3) := by decide +kernel
theorem dX8_common_21 : decode cX8_common 21 = .ok (.iload_n 3, 1) := by decide +kernel
theorem dX8_common_22 : decode cX8_common 22 = .ok (.ireturn, 1) := by decide +kernel
theorem dX8_areFour_0 : decode cX8_areFour 0 = .ok (.aload_n 0, 1) := by decide +kernel
theorem dX8_areFour_1 : decode cX8_areFour 1 = .ok (.iload_n 1, 1) := by decide +kernel
theorem dX8_areFour_2 : decode cX8_areFour 2 = .ok (.invokevirtual 132, 3) := by decide +kernel
theorem dX8_areFour_5 : decode cX8_areFour 5 = .ok (.ifCond .eq 32, 3) := by decide +kernel
theorem dX8_areFour_8 : decode cX8_areFour 8 = .ok (.aload_n 0, 1) := by decide +kernel
theorem dX8_areFour_9 : decode cX8_areFour 9 = .ok (.iload_n 2, 1) := by decide +kernel
theorem dX8_areFour_10 : decode cX8_areFour 10 = .ok (.invokevirtual 132, 3) := by decide +kernel
theorem dX8_areFour_13 : decode cX8_areFour 13 = .ok (.ifCond .eq 24, 3) := by decide +kernel
theorem dX8_areFour_16 : decode cX8_areFour 16 = .ok (.aload_n 0, 1) := by decide +kernel
theorem dX8_areFour_17 : decode cX8_areFour 17 = .ok (.iload_n 3, 1) := by decide +kernel
theorem dX8_areFour_18 : decode cX8_areFour 18 = .ok (.invokevirtual 132, 3) := by decide +kernel
theorem dX8_areFour_21 : decode cX8_areFour 21 = .ok (.ifCond .eq 16, 3) := by decide +kernel
theorem dX8_areFour_24 : decode cX8_areFour 24 = .ok (.aload_n 0, 1) := by decide +kernel
theorem dX8_areFour_25 : decode cX8_areFour 25 = .ok (.iload 4, 2) := by decide +kernel
theorem dX8_areFour_27 : decode cX8_areFour 27 = .ok (.invokevirtual 132, 3) := by decide +kernel
theorem dX8_areFour_30 : decode cX8_areFour 30 = .ok (.ifCond .eq 7, 3) := by decide +kernel
theorem dX8_areFour_33 : decode cX8_areFour 33 = .ok (.iconst 1, 1) := by decide +kernel
theorem dX8_areFour_34 : decode cX8_areFour 34 = .ok (.goto 4, 3) := by decide +kernel
theorem dX8_areFour_37 : decode cX8_areFour 37 = .ok (.iconst 0, 1) := by decide +kernel
theorem dX8_areFour_38 : decode cX8_areFour 38 = .ok (.ireturn, 1) := by decide +kernel
theorem dX8_areUnlike_0 : decode cX8_areUnlike 0 = .ok (.iload_n 0, 1) := by decide +kernel
theorem dX8_areUnlike_1 : decode cX8_areUnlike 1 = .ok (.iload_n 1, 1) := by decide +kernel
theorem dX8_areUnlike_2 : decode cX8_areUnlike 2 = .ok (.if_icmp .eq 32, 3) := by decide +kernel
theorem dX8_areUnlike_5 : decode cX8_areUnlike 5 = .ok (.iload_n 0, 1) := by decide +kernel
theorem dX8_areUnlike_6 : decode cX8_areUnlike 6 = .ok (.iload_n 2, 1) := by decide +kernel
theorem dX8_areUnlike_7 : decode cX8_areUnlike 7 = .ok (.if_icmp .eq 27, 3) := by decide +kernel
theorem dX8_areUnlike_10 : decode cX8_areUnlike 10 = .ok (.iload_n 0, 1) := by decide +kernel
theorem dX8_areUnlike_11 : decode cX8_areUnlike 11 = .ok (.iload_n 3, 1) := by decide +kernel
theorem dX8_areUnlike_12 : decode cX8_areUnlike 12 = .ok (.if_icmp .eq 22, 3) := by decide +kernel
theorem dX8_areUnlike_15 : decode cX8_areUnlike 15 = .ok (.iload_n 1, 1) := by decide +kernel
theorem dX8_areUnlike_16 : decode cX8_areUnlike 16 = .ok (.iload_n 2, 1) := by decide +kernel
theorem dX8_areUnlike_17 : decode cX8_areUnlike 17 = .ok (.if_icmp .eq 17, 3) := by decide +kernel
theorem dX8_areUnlike_20 : decode cX8_areUnlike 20 = .ok (.iload_n 1, 1) := by decide +kernel
theorem dX8_areUnlike_21 : decode cX8_areUnlike 21 = .ok (.iload_n 3, 1) := by decide +kernel
theorem dX8_areUnlike_22 : decode cX8_areUnlike 22 = .ok (.if_icmp .eq 12, 3) := by decide +kernel
theorem dX8_areUnlike_25 : decode cX8_areUnlike 25 = .ok (.iload_n 2, 1) := by decide +kernel
theorem dX8_areUnlike_26 : decode cX8_areUnlike 26 = .ok (.iload_n 3, 1) := by decide +kernel
theorem dX8_areUnlike_27 : decode cX8_areUnlike 27 = .ok (.if_icmp .eq 7, 3) := by decide +kernel
theorem dX8_areUnlike_30 : decode cX8_areUnlike 30 = .ok (.iconst 1, 1) := by decide +kernel
theorem dX8_areUnlike_31 : decode cX8_areUnlike 31 = .ok (.goto 4, 3) := by decide +kernel
theorem dX8_areUnlike_34 : decode cX8_areUnlike 34 = .ok (.iconst 0, 1) := by decide +kernel
theorem dX8_areUnlike_35 : decode cX8_areUnlike 35 = .ok (.ireturn, 1) := by decide +kernel
theorem dX8_wins_0 : decode cX8_wins 0 = .ok (.aload_n 0, 1) := by decide +kernel
theorem dX8_wins_1 : decode cX8_wins 1 = .ok (.iload_n 1, 1) := by decide +kernel
theorem dX8_wins_2 : decode cX8_wins 2 = .ok (.iload_n 2, 1) := by decide +kernel
theorem dX8_wins_3 : decode cX8_wins 3 = .ok (.iload_n 3, 1) := by decide +kernel
theorem dX8_wins_4 : decode cX8_wins 4 = .ok (.iload 4, 2) := by decide +kernel
theorem dX8_wins_6 : decode cX8_wins 6 = .ok (.invokevirtual 232, 3) := by decide +kernel
theorem dX8_wins_9 : decode cX8_wins 9 = .ok (.ifCond .ne 6, 3) := by decide +kernel
theorem dX8_wins_12 : decode cX8_wins 12 = .ok (.bipush (-101), 2) := by decide +kernel
theorem dX8_wins_14 : decode cX8_wins 14 = .ok (.ireturn, 1) := by decide +kernel
theorem dX8_wins_15 : decode cX8_wins 15 = .ok (.aload_n 0, 1) := by decide +kernel
theorem dX8_wins_16 : decode cX8_wins 16 = .ok (.invokevirtual 182, 3) := by decide +kernel
theorem dX8_wins_19 : decode cX8_wins 19 = .ok (.ifCond .ne 14, 3) := by decide +kernel
theorem dX8_wins_22 : decode cX8_wins 22 = .ok (.iload_n 1, 1) := by decide +kernel
theorem dX8_wins_23 : decode cX8_wins 23 = .ok (.iload_n 2, 1) := by decide +kernel
theorem dX8_wins_24 : decode cX8_wins 24 = .ok (.iload_n 3, 1) := by decide +kernel
theorem dX8_wins_25 : decode cX8_wins 25 = .ok (.iload 4, 2) := by decide +kernel
theorem dX8_wins_27 : decode cX8_wins 27 = .ok (.invokestatic 236, 3) := by decide +kernel
theorem dX8_wins_30 : decode cX8_wins 30 = .ok (.ifCond .ne 6, 3) := by decide +kernel
theorem dX8_wins_33 : decode cX8_wins 33 = .ok (.bipush (-103), 2) := by decide +kernel
theorem dX8_wins_35 : decode cX8_wins 35 = .ok (.ireturn, 1) := by decide +kernel
theorem dX8_wins_36 : decode cX8_wins 36 = .ok (.iload 5, 2) := by decide +kernel
theorem dX8_wins_38 : decode cX8_wins 38 = .ok (.invokestatic 186, 3) := by decide +kernel
theorem dX8_wins_41 : decode cX8_wins 41 = .ok (.ifCond .eq 35, 3) := by decide +kernel
theorem dX8_wins_44 : decode cX8_wins 44 = .ok (.iload 6, 2) := by decide +kernel
theorem dX8_wins_46 : decode cX8_wins 46 = .ok (.invokestatic 225, 3) := by decide +kernel
theorem dX8_wins_49 : decode cX8_wins 49 = .ok (.ifCond .eq 27, 3) := by decide +kernel
theorem dX8_wins_52 : decode cX8_wins 52 = .ok (.iload 7, 2) := by decide +kernel
theorem dX8_wins_54 : decode cX8_wins 54 = .ok (.i2l, 1) := by decide +kernel
theorem dX8_wins_55 : decode cX8_wins 55 = .ok (.lconst 0, 1) := by decide +kernel
theorem dX8_wins_56 : decode cX8_wins 56 = .ok (.ldc2_w 189, 3) := by decide +kernel
theorem dX8_wins_59 : decode cX8_wins 59 = .ok (.invokestatic 89, 3) := by decide +kernel
theorem dX8_wins_62 : decode cX8_wins 62 = .ok (.ifCond .eq 14, 3) := by decide +kernel
theorem dX8_wins_65 : decode cX8_wins 65 = .ok (.iload 8, 2) := by decide +kernel
theorem dX8_wins_67 : decode cX8_wins 67 = .ok (.i2l, 1) := by decide +kernel
theorem dX8_wins_68 : decode cX8_wins 68 = .ok (.lconst 0, 1) := by decide +kernel
theorem dX8_wins_69 : decode cX8_wins 69 = .ok (.lconst 1, 1) := by decide +kernel
theorem dX8_wins_70 : decode cX8_wins 70 = .ok (.invokestatic 89, 3) := by decide +kernel
theorem dX8_wins_73 : decode cX8_wins 73 = .ok (.ifCond .ne 6, 3) := by decide +kernel
theorem dX8_wins_76 : decode cX8_wins 76 = .ok (.bipush (-102), 2) := by decide +kernel
theorem dX8_wins_78 : decode cX8_wins 78 = .ok (.ireturn, 1) := by decide +kernel
theorem dX8_wins_79 : decode cX8_wins 79 = .ok (.iload 7, 2) := by decide +kernel
theorem dX8_wins_81 : decode cX8_wins 81 = .ok (.ifCond .ne 19, 3) := by decide +kernel
theorem dX8_wins_84 : decode cX8_wins 84 = .ok (.aload_n 0, 1) := by decide +kernel
theorem dX8_wins_85 : decode cX8_wins 85 = .ok (.iload_n 1, 1) := by decide +kernel
theorem dX8_wins_86 : decode cX8_wins 86 = .ok (.iload_n 2, 1) := by decide +kernel
theorem dX8_wins_87 : decode cX8_wins 87 = .ok (.iload_n 3, 1) := by decide +kernel
theorem dX8_wins_88 : decode cX8_wins 88 = .ok (.iload 4, 2) := by decide +kernel
theorem dX8_wins_90 : decode cX8_wins 90 = .ok (.iload 5, 2) := by decide +kernel
theorem dX8_wins_92 : decode cX8_wins 92 = .ok (.iload 6, 2) := by decide +kernel
theorem dX8_wins_94 : decode cX8_wins 94 = .ok (.invokevirtual 239, 3) := by decide +kernel
theorem dX8_wins_97 : decode cX8_wins 97 = .ok (.goto 60, 3) := by decide +kernel
theorem dX8_wins_100 : decode cX8_wins 100 = .ok (.iload 7, 2) := by decide +kernel
theorem dX8_wins_102 : decode cX8_wins 102 = .ok (.iconst 1, 1) := by decide +kernel
theorem dX8_wins_103 : decode cX8_wins 103 = .ok (.if_icmp .ne 19, 3) := by decide +kernel
theorem dX8_wins_106 : decode cX8_wins 106 = .ok (.aload_n 0, 1) := by decide +kernel
theorem dX8_wins_107 : decode cX8_wins 107 = .ok (.iload_n 2, 1) := by decide +kernel
theorem dX8_wins_108 : decode cX8_wins 108 = .ok (.iload_n 1, 1) := by decide +kernel
theorem dX8_wins_109 : decode cX8_wins 109 = .ok (.iload_n 3, 1) := by decide +kernel
theorem dX8_wins_110 : decode cX8_wins 110 = .ok (.iload 4, 2) := by decide +kernel
theorem dX8_wins_112 : decode cX8_wins 112 = .ok (.iload 5, 2) := by decide +kernel
theorem dX8_wins_114 : decode cX8_wins 114 = .ok (.iload 6, 2) := by decide +kernel
theorem dX8_wins_116 : decode cX8_wins 116 = .ok (.invokevirtual 239, 3) := by decide +kernel
theorem dX8_wins_119 : decode cX8_wins 119 = .ok (.goto 38, 3) := by decide +kernel
theorem dX8_wins_122 : decode cX8_wins 122 = .ok (.iload 7, 2) := by decide +kernel
theorem dX8_wins_124 : decode cX8_wins 124 = .ok (.iconst 2, 1) := by decide +kernel
theorem dX8_wins_125 : decode cX8_wins 125 = .ok (.if_icmp .ne 19, 3) := by decide +kernel
theorem dX8_wins_128 : decode cX8_wins 128 = .ok (.aload_n 0, 1) := by decide +kernel
theorem dX8_wins_129 : decode cX8_wins 129 = .ok (.iload_n 3, 1) := by decide +kernel
theorem dX8_wins_130 : decode cX8_wins 130 = .ok (.iload 4, 2) := by decide +kernel
theorem dX8_wins_132 : decode cX8_wins 132 = .ok (.iload_n 1, 1) := by decide +kernel
theorem dX8_wins_133 : decode cX8_wins 133 = .ok (.iload_n 2, 1) := by decide +kernel
theorem dX8_wins_134 : decode cX8_wins 134 = .ok (.iload 5, 2) := by decide +kernel
theorem dX8_wins_136 : decode cX8_wins 136 = .ok (.iload 6, 2) := by decide +kernel
theorem dX8_wins_138 : decode cX8_wins 138 = .ok (.invokevirtual 239, 3) := by decide +kernel
theorem dX8_wins_141 : decode cX8_wins 141 = .ok (.goto 16, 3) := by decide +kernel
theorem dX8_wins_144 : decode cX8_wins 144 = .ok (.aload_n 0, 1) := by decide +kernel
theorem dX8_wins_145 : decode cX8_wins 145 = .ok (.iload 4, 2) := by decide +kernel
theorem dX8_wins_147 : decode cX8_wins 147 = .ok (.iload_n 3, 1) := by decide +kernel
theorem dX8_wins_148 : decode cX8_wins 148 = .ok (.iload_n 1, 1) := by decide +kernel
theorem dX8_wins_149 : decode cX8_wins 149 = .ok (.iload_n 2, 1) := by decide +kernel
theorem dX8_wins_150 : decode cX8_wins 150 = .ok (.iload 5, 2) := by decide +kernel
theorem dX8_wins_152 : decode cX8_wins 152 = .ok (.iload 6, 2) := by decide +kernel
theorem dX8_wins_154 : decode cX8_wins 154 = .ok (.invokevirtual 239, 3) := by decide +kernel
theorem dX8_wins_157 : decode cX8_wins 157 = .ok (.istore 9, 2) := by decide +kernel
theorem dX8_wins_159 : decode cX8_wins 159 = .ok (.iload 9, 2) := by decide +kernel
theorem dX8_wins_161 : decode cX8_wins 161 = .ok (.sipush 1000, 3) := by decide +kernel
theorem dX8_wins_164 : decode cX8_wins 164 = .ok (.invokestatic 243, 3) := by decide +kernel
theorem dX8_wins_167 : decode cX8_wins 167 = .ok (.istore 10, 2) := by decide +kernel
theorem dX8_wins_169 : decode cX8_wins 169 = .ok (.iload 8, 2) := by decide +kernel
theorem dX8_wins_171 : decode cX8_wins 171 = .ok (.ifCond .ne 11, 3) := by decide +kernel
theorem dX8_wins_174 : decode cX8_wins 174 = .ok (.iload 9, 2) := by decide +kernel
theorem dX8_wins_176 : decode cX8_wins 176 = .ok (.iload 10, 2) := by decide +kernel
theorem dX8_wins_178 : decode cX8_wins 178 = .ok (.idiv, 1) := by decide +kernel
theorem dX8_wins_179 : decode cX8_wins 179 = .ok (.goto 9, 3) := by decide +kernel
theorem dX8_wins_182 : decode cX8_wins 182 = .ok (.sipush 1000, 3) := by decide +kernel
theorem dX8_wins_185 : decode cX8_wins 185 = .ok (.iload 10, 2) := by decide +kernel
theorem dX8_wins_187 : decode cX8_wins 187 = .ok (.idiv, 1) := by decide +kernel
theorem dX8_wins_188 : decode cX8_wins 188 = .ok (.ireturn, 1) := by decide +kernel
theorem dX8_quickest_0 : decode cX8_quickest 0 = .ok (.iconst 0, 1) := by decide +kernel
theorem dX8_quickest_1 : decode cX8_quickest 1 = .ok (.istore_n 2, 1) := by decide +kernel
theorem dX8_quickest_2 : decode cX8_quickest 2 = .ok (.iconst 1, 1) := by decide +kernel
theorem dX8_quickest_3 : decode cX8_quickest 3 = .ok (.istore_n 3, 1) := by decide +kernel
theorem dX8_quickest_4 : decode cX8_quickest 4 = .ok (.iload_n 3, 1) := by decide +kernel
theorem dX8_quickest_5 : decode cX8_quickest 5 = .ok (.iconst 4, 1) := by decide +kernel
theorem dX8_quickest_6 : decode cX8_quickest 6 = .ok (.if_icmp .ge 60, 3) := by decide +kernel
theorem dX8_quickest_9 : decode cX8_quickest 9 = .ok (.aload_n 0, 1) := by decide +kernel
theorem dX8_quickest_10 : decode cX8_quickest 10 = .ok (.aload_n 0, 1) := by decide +kernel
theorem dX8_quickest_11 : decode cX8_quickest 11 = .ok (.getfield 55, 3) := by decide +kernel
theorem dX8_quickest_14 : decode cX8_quickest 14 = .ok (.iload_n 3, 1) := by decide +kernel
theorem dX8_quickest_15 : decode cX8_quickest 15 = .ok (.iaload, 1) := by decide +kernel
theorem dX8_quickest_16 : decode cX8_quickest 16 = .ok (.iload_n 1, 1) := by decide +kernel
theorem dX8_quickest_17 : decode cX8_quickest 17 = .ok (.invokevirtual 222, 3) := by decide +kernel
theorem dX8_quickest_20 : decode cX8_quickest 20 = .ok (.istore 4, 2) := by decide +kernel
theorem dX8_quickest_22 : decode cX8_quickest 22 = .ok (.aload_n 0, 1) := by decide +kernel
theorem dX8_quickest_23 : decode cX8_quickest 23 = .ok (.aload_n 0, 1) := by decide +kernel
theorem dX8_quickest_24 : decode cX8_quickest 24 = .ok (.getfield 55, 3) := by decide +kernel
theorem dX8_quickest_27 : decode cX8_quickest 27 = .ok (.iload_n 2, 1) := by decide +kernel
theorem dX8_quickest_28 : decode cX8_quickest 28 = .ok (.iaload, 1) := by decide +kernel
theorem dX8_quickest_29 : decode cX8_quickest 29 = .ok (.iload_n 1, 1) := by decide +kernel
theorem dX8_quickest_30 : decode cX8_quickest 30 = .ok (.invokevirtual 222, 3) := by decide +kernel
theorem dX8_quickest_33 : decode cX8_quickest 33 = .ok (.istore 5, 2) := by decide +kernel
theorem dX8_quickest_35 : decode cX8_quickest 35 = .ok (.iload 4, 2) := by decide +kernel
theorem dX8_quickest_37 : decode cX8_quickest 37 = .ok (.iconst (-1), 1) := by decide +kernel
theorem dX8_quickest_38 : decode cX8_quickest 38 = .ok (.if_icmp .eq 20, 3) := by decide +kernel
theorem dX8_quickest_41 : decode cX8_quickest 41 = .ok (.iload 5, 2) := by decide +kernel
theorem dX8_quickest_43 : decode cX8_quickest 43 = .ok (.iconst (-1), 1) := by decide +kernel
theorem dX8_quickest_44 : decode cX8_quickest 44 = .ok (.if_icmp .eq 10, 3) := by decide +kernel
theorem dX8_quickest_47 : decode cX8_quickest 47 = .ok (.iload 4, 2) := by decide +kernel
theorem dX8_quickest_49 : decode cX8_quickest 49 = .ok (.iload 5, 2) := by decide +kernel
theorem dX8_quickest_51 : decode cX8_quickest 51 = .ok (.if_icmp .ge 7, 3) := by decide +kernel
theorem dX8_quickest_54 : decode cX8_quickest 54 = .ok (.iload_n 3, 1) := by decide +kernel
theorem dX8_quickest_55 : decode cX8_quickest 55 = .ok (.goto 4, 3) := by decide +kernel
theorem dX8_quickest_58 : decode cX8_quickest 58 = .ok (.iload_n 2, 1) := by decide +kernel
theorem dX8_quickest_59 : decode cX8_quickest 59 = .ok (.istore_n 2, 1) := by decide +kernel
theorem dX8_quickest_60 : decode cX8_quickest 60 = .ok (.iinc 3 1, 3) := by decide +kernel
theorem dX8_quickest_63 : decode cX8_quickest 63 = .ok (.goto (-59), 3) := by decide +kernel
theorem dX8_quickest_66 : decode cX8_quickest 66 = .ok (.iload_n 2, 1) := by decide +kernel
theorem dX8_quickest_67 : decode cX8_quickest 67 = .ok (.ireturn, 1) := by decide +kernel
theorem dX8_plan_0 : decode cX8_plan 0 = .ok (.aload_n 0, 1) := by decide +kernel
theorem dX8_plan_1 : decode cX8_plan 1 = .ok (.iload_n 1, 1) := by decide +kernel
theorem dX8_plan_2 : decode cX8_plan 2 = .ok (.iload_n 2, 1) := by decide +kernel
theorem dX8_plan_3 : decode cX8_plan 3 = .ok (.iload_n 3, 1) := by decide +kernel
theorem dX8_plan_4 : decode cX8_plan 4 = .ok (.iload 4, 2) := by decide +kernel
theorem dX8_plan_6 : decode cX8_plan 6 = .ok (.invokevirtual 232, 3) := by decide +kernel
theorem dX8_plan_9 : decode cX8_plan 9 = .ok (.ifCond .ne 6, 3) := by decide +kernel
theorem dX8_plan_12 : decode cX8_plan 12 = .ok (.bipush (-101), 2) := by decide +kernel
theorem dX8_plan_14 : decode cX8_plan 14 = .ok (.ireturn, 1) := by decide +kernel
theorem dX8_plan_15 : decode cX8_plan 15 = .ok (.aload_n 0, 1) := by decide +kernel
theorem dX8_plan_16 : decode cX8_plan 16 = .ok (.invokevirtual 182, 3) := by decide +kernel
theorem dX8_plan_19 : decode cX8_plan 19 = .ok (.ifCond .ne 14, 3) := by decide +kernel
theorem dX8_plan_22 : decode cX8_plan 22 = .ok (.iload_n 1, 1) := by decide +kernel
theorem dX8_plan_23 : decode cX8_plan 23 = .ok (.iload_n 2, 1) := by decide +kernel
theorem dX8_plan_24 : decode cX8_plan 24 = .ok (.iload_n 3, 1) := by decide +kernel
theorem dX8_plan_25 : decode cX8_plan 25 = .ok (.iload 4, 2) := by decide +kernel
theorem dX8_plan_27 : decode cX8_plan 27 = .ok (.invokestatic 236, 3) := by decide +kernel
theorem dX8_plan_30 : decode cX8_plan 30 = .ok (.ifCond .ne 6, 3) := by decide +kernel
theorem dX8_plan_33 : decode cX8_plan 33 = .ok (.bipush (-103), 2) := by decide +kernel
theorem dX8_plan_35 : decode cX8_plan 35 = .ok (.ireturn, 1) := by decide +kernel
theorem dX8_plan_36 : decode cX8_plan 36 = .ok (.iload 5, 2) := by decide +kernel
theorem dX8_plan_38 : decode cX8_plan 38 = .ok (.invokestatic 186, 3) := by decide +kernel
theorem dX8_plan_41 : decode cX8_plan 41 = .ok (.ifCond .eq 11, 3) := by decide +kernel
theorem dX8_plan_44 : decode cX8_plan 44 = .ok (.iload 6, 2) := by decide +kernel
theorem dX8_plan_46 : decode cX8_plan 46 = .ok (.invokestatic 225, 3) := by decide +kernel
theorem dX8_plan_49 : decode cX8_plan 49 = .ok (.ifCond .ne 6, 3) := by decide +kernel
theorem dX8_plan_52 : decode cX8_plan 52 = .ok (.bipush (-102), 2) := by decide +kernel
theorem dX8_plan_54 : decode cX8_plan 54 = .ok (.ireturn, 1) := by decide +kernel
theorem dX8_plan_55 : decode cX8_plan 55 = .ok (.aload_n 0, 1) := by decide +kernel
theorem dX8_plan_56 : decode cX8_plan 56 = .ok (.getfield 55, 3) := by decide +kernel
theorem dX8_plan_59 : decode cX8_plan 59 = .ok (.iconst 0, 1) := by decide +kernel
theorem dX8_plan_60 : decode cX8_plan 60 = .ok (.iload_n 1, 1) := by decide +kernel
theorem dX8_plan_61 : decode cX8_plan 61 = .ok (.iastore, 1) := by decide +kernel
theorem dX8_plan_62 : decode cX8_plan 62 = .ok (.aload_n 0, 1) := by decide +kernel
theorem dX8_plan_63 : decode cX8_plan 63 = .ok (.getfield 55, 3) := by decide +kernel
theorem dX8_plan_66 : decode cX8_plan 66 = .ok (.iconst 1, 1) := by decide +kernel
theorem dX8_plan_67 : decode cX8_plan 67 = .ok (.iload_n 2, 1) := by decide +kernel
theorem dX8_plan_68 : decode cX8_plan 68 = .ok (.iastore, 1) := by decide +kernel
theorem dX8_plan_69 : decode cX8_plan 69 = .ok (.aload_n 0, 1) := by decide +kernel
theorem dX8_plan_70 : decode cX8_plan 70 = .ok (.getfield 55, 3) := by decide +kernel
theorem dX8_plan_73 : decode cX8_plan 73 = .ok (.iconst 2, 1) := by decide +kernel
theorem dX8_plan_74 : decode cX8_plan 74 = .ok (.iload_n 3, 1) := by decide +kernel
theorem dX8_plan_75 : decode cX8_plan 75 = .ok (.iastore, 1) := by decide +kernel
theorem dX8_plan_76 : decode cX8_plan 76 = .ok (.aload_n 0, 1) := by decide +kernel
theorem dX8_plan_77 : decode cX8_plan 77 = .ok (.getfield 55, 3) := by decide +kernel
theorem dX8_plan_80 : decode cX8_plan 80 = .ok (.iconst 3, 1) := by decide +kernel
theorem dX8_plan_81 : decode cX8_plan 81 = .ok (.iload 4, 2) := by decide +kernel
theorem dX8_plan_83 : decode cX8_plan 83 = .ok (.iastore, 1) := by decide +kernel
theorem dX8_plan_84 : decode cX8_plan 84 = .ok (.aload_n 0, 1) := by decide +kernel
theorem dX8_plan_85 : decode cX8_plan 85 = .ok (.iload 5, 2) := by decide +kernel
theorem dX8_plan_87 : decode cX8_plan 87 = .ok (.invokevirtual 246, 3) := by decide +kernel
theorem dX8_plan_90 : decode cX8_plan 90 = .ok (.istore 7, 2) := by decide +kernel
theorem dX8_plan_92 : decode cX8_plan 92 = .ok (.iconst (-1), 1) := by decide +kernel

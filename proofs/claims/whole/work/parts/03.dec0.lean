theorem dX0_init_0 : decode cX0_init 0 = .ok (.aload_n 0, 1) := by decide +kernel
theorem dX0_init_1 : decode cX0_init 1 = .ok (.invokespecial 1, 3) := by decide +kernel
theorem dX0_init_4 : decode cX0_init 4 = .ok (.aload_n 0, 1) := by decide +kernel
theorem dX0_init_5 : decode cX0_init 5 = .ok (.iload_n 1, 1) := by decide +kernel
theorem dX0_init_6 : decode cX0_init 6 = .ok (.putfield 7, 3) := by decide +kernel
theorem dX0_init_9 : decode cX0_init 9 = .ok (.aload_n 0, 1) := by decide +kernel
theorem dX0_init_10 : decode cX0_init 10 = .ok (.iload_n 2, 1) := by decide +kernel
theorem dX0_init_11 : decode cX0_init 11 = .ok (.putfield 13, 3) := by decide +kernel
theorem dX0_init_14 : decode cX0_init 14 = .ok (.aload_n 0, 1) := by decide +kernel
theorem dX0_init_15 : decode cX0_init 15 = .ok (.iload_n 3, 1) := by decide +kernel
theorem dX0_init_16 : decode cX0_init 16 = .ok (.putfield 16, 3) := by decide +kernel
theorem dX0_init_19 : decode cX0_init 19 = .ok (.return_, 1) := by decide +kernel
theorem dX0_isOnTheWay_0 : decode cX0_isOnTheWay 0 = .ok (.aload_n 0, 1) := by decide +kernel
theorem dX0_isOnTheWay_1 : decode cX0_isOnTheWay 1 = .ok (.getfield 19, 3) := by decide +kernel
theorem dX0_isOnTheWay_4 : decode cX0_isOnTheWay 4 = .ok (.ifCond .le 7, 3) := by decide +kernel
theorem dX0_isOnTheWay_7 : decode cX0_isOnTheWay 7 = .ok (.iconst 1, 1) := by decide +kernel
theorem dX0_isOnTheWay_8 : decode cX0_isOnTheWay 8 = .ok (.goto 4, 3) := by decide +kernel
theorem dX0_isOnTheWay_11 : decode cX0_isOnTheWay 11 = .ok (.iconst 0, 1) := by decide +kernel
theorem dX0_isOnTheWay_12 : decode cX0_isOnTheWay 12 = .ok (.ireturn, 1) := by decide +kernel
theorem dX0_pay_0 : decode cX0_pay 0 = .ok (.aload_n 0, 1) := by decide +kernel
theorem dX0_pay_1 : decode cX0_pay 1 = .ok (.dup, 1) := by decide +kernel
theorem dX0_pay_2 : decode cX0_pay 2 = .ok (.getfield 16, 3) := by decide +kernel
theorem dX0_pay_5 : decode cX0_pay 5 = .ok (.iload_n 1, 1) := by decide +kernel
theorem dX0_pay_6 : decode cX0_pay 6 = .ok (.isub, 1) := by decide +kernel
theorem dX0_pay_7 : decode cX0_pay 7 = .ok (.putfield 16, 3) := by decide +kernel
theorem dX0_pay_10 : decode cX0_pay 10 = .ok (.aload_n 0, 1) := by decide +kernel
theorem dX0_pay_11 : decode cX0_pay 11 = .ok (.dup, 1) := by decide +kernel
theorem dX0_pay_12 : decode cX0_pay 12 = .ok (.getfield 22, 3) := by decide +kernel
theorem dX0_pay_15 : decode cX0_pay 15 = .ok (.iload_n 1, 1) := by decide +kernel
theorem dX0_pay_16 : decode cX0_pay 16 = .ok (.iadd, 1) := by decide +kernel
theorem dX0_pay_17 : decode cX0_pay 17 = .ok (.putfield 22, 3) := by decide +kernel
theorem dX0_pay_20 : decode cX0_pay 20 = .ok (.return_, 1) := by decide +kernel
theorem dX0_setOut_0 : decode cX0_setOut 0 = .ok (.aload_n 0, 1) := by decide +kernel
theorem dX0_setOut_1 : decode cX0_setOut 1 = .ok (.iload_n 1, 1) := by decide +kernel
theorem dX0_setOut_2 : decode cX0_setOut 2 = .ok (.putfield 13, 3) := by decide +kernel
theorem dX0_setOut_5 : decode cX0_setOut 5 = .ok (.aload_n 0, 1) := by decide +kernel
theorem dX0_setOut_6 : decode cX0_setOut 6 = .ok (.iload_n 2, 1) := by decide +kernel
theorem dX0_setOut_7 : decode cX0_setOut 7 = .ok (.putfield 19, 3) := by decide +kernel
theorem dX0_setOut_10 : decode cX0_setOut 10 = .ok (.return_, 1) := by decide +kernel
theorem dX0_comesWithin_0 : decode cX0_comesWithin 0 = .ok (.aload_n 0, 1) := by decide +kernel
theorem dX0_comesWithin_1 : decode cX0_comesWithin 1 = .ok (.invokevirtual 25, 3) := by decide +kernel
theorem dX0_comesWithin_4 : decode cX0_comesWithin 4 = .ok (.ifCond .ne 5, 3) := by decide +kernel
theorem dX0_comesWithin_7 : decode cX0_comesWithin 7 = .ok (.iconst 0, 1) := by decide +kernel
theorem dX0_comesWithin_8 : decode cX0_comesWithin 8 = .ok (.ireturn, 1) := by decide +kernel
theorem dX0_comesWithin_9 : decode cX0_comesWithin 9 = .ok (.aload_n 0, 1) := by decide +kernel
theorem dX0_comesWithin_10 : decode cX0_comesWithin 10 = .ok (.iconst 0, 1) := by decide +kernel
theorem dX0_comesWithin_11 : decode cX0_comesWithin 11 = .ok (.aload_n 0, 1) := by decide +kernel
theorem dX0_comesWithin_12 : decode cX0_comesWithin 12 = .ok (.getfield 19, 3) := by decide +kernel
theorem dX0_comesWithin_15 : decode cX0_comesWithin 15 = .ok (.iload_n 1, 1) := by decide +kernel
theorem dX0_comesWithin_16 : decode cX0_comesWithin 16 = .ok (.isub, 1) := by decide +kernel
theorem dX0_comesWithin_17 : decode cX0_comesWithin 17 = .ok (.invokestatic 29, 3) := by decide +kernel
theorem dX0_comesWithin_20 : decode cX0_comesWithin 20 = .ok (.putfield 19, 3) := by decide +kernel
theorem dX0_comesWithin_23 : decode cX0_comesWithin 23 = .ok (.aload_n 0, 1) := by decide +kernel
theorem dX0_comesWithin_24 : decode cX0_comesWithin 24 = .ok (.getfield 19, 3) := by decide +kernel
theorem dX0_comesWithin_27 : decode cX0_comesWithin 27 = .ok (.ifCond .ne 7, 3) := by decide +kernel
theorem dX0_comesWithin_30 : decode cX0_comesWithin 30 = .ok (.iconst 1, 1) := by decide +kernel
theorem dX0_comesWithin_31 : decode cX0_comesWithin 31 = .ok (.goto 4, 3) := by decide +kernel
theorem dX0_comesWithin_34 : decode cX0_comesWithin 34 = .ok (.iconst 0, 1) := by decide +kernel
theorem dX0_comesWithin_35 : decode cX0_comesWithin 35 = .ok (.ireturn, 1) := by decide +kernel
theorem dX1_init_0 : decode cX1_init 0 = .ok (.aload_n 0, 1) := by decide +kernel
theorem dX1_init_1 : decode cX1_init 1 = .ok (.invokespecial 1, 3) := by decide +kernel
theorem dX1_init_4 : decode cX1_init 4 = .ok (.aload_n 0, 1) := by decide +kernel
theorem dX1_init_5 : decode cX1_init 5 = .ok (.iload_n 1, 1) := by decide +kernel
theorem dX1_init_6 : decode cX1_init 6 = .ok (.putfield 7, 3) := by decide +kernel
theorem dX1_init_9 : decode cX1_init 9 = .ok (.aload_n 0, 1) := by decide +kernel
theorem dX1_init_10 : decode cX1_init 10 = .ok (.iload_n 2, 1) := by decide +kernel
theorem dX1_init_11 : decode cX1_init 11 = .ok (.putfield 13, 3) := by decide +kernel
theorem dX1_init_14 : decode cX1_init 14 = .ok (.aload_n 0, 1) := by decide +kernel
theorem dX1_init_15 : decode cX1_init 15 = .ok (.iload_n 3, 1) := by decide +kernel
theorem dX1_init_16 : decode cX1_init 16 = .ok (.putfield 16, 3) := by decide +kernel
theorem dX1_init_19 : decode cX1_init 19 = .ok (.aload_n 0, 1) := by decide +kernel
theorem dX1_init_20 : decode cX1_init 20 = .ok (.iload 4, 2) := by decide +kernel
theorem dX1_init_22 : decode cX1_init 22 = .ok (.putfield 19, 3) := by decide +kernel
theorem dX1_init_25 : decode cX1_init 25 = .ok (.return_, 1) := by decide +kernel
theorem dX1_dutyOf_0 : decode cX1_dutyOf 0 = .ok (.aload_n 0, 1) := by decide +kernel
theorem dX1_dutyOf_1 : decode cX1_dutyOf 1 = .ok (.getfield 13, 3) := by decide +kernel
theorem dX1_dutyOf_4 : decode cX1_dutyOf 4 = .ok (.aload_n 1, 1) := by decide +kernel
theorem dX1_dutyOf_5 : decode cX1_dutyOf 5 = .ok (.getfield 22, 3) := by decide +kernel
theorem dX1_dutyOf_8 : decode cX1_dutyOf 8 = .ok (.imul, 1) := by decide +kernel
theorem dX1_dutyOf_9 : decode cX1_dutyOf 9 = .ok (.aload_n 0, 1) := by decide +kernel
theorem dX1_dutyOf_10 : decode cX1_dutyOf 10 = .ok (.getfield 16, 3) := by decide +kernel
theorem dX1_dutyOf_13 : decode cX1_dutyOf 13 = .ok (.aload_n 1, 1) := by decide +kernel
theorem dX1_dutyOf_14 : decode cX1_dutyOf 14 = .ok (.getfield 27, 3) := by decide +kernel
theorem dX1_dutyOf_17 : decode cX1_dutyOf 17 = .ok (.imul, 1) := by decide +kernel
theorem dX1_dutyOf_18 : decode cX1_dutyOf 18 = .ok (.iadd, 1) := by decide +kernel
theorem dX1_dutyOf_19 : decode cX1_dutyOf 19 = .ok (.iload_n 2, 1) := by decide +kernel
theorem dX1_dutyOf_20 : decode cX1_dutyOf 20 = .ok (.ishr, 1) := by decide +kernel
theorem dX1_dutyOf_21 : decode cX1_dutyOf 21 = .ok (.ireturn, 1) := by decide +kernel
theorem dX1_attentionBehind_0 : decode cX1_attentionBehind 0 = .ok (.aload_n 0, 1) := by decide +kernel
theorem dX1_attentionBehind_1 : decode cX1_attentionBehind 1 = .ok (.getfield 30, 3) := by decide +kernel
theorem dX1_attentionBehind_4 : decode cX1_attentionBehind 4 = .ok (.aload_n 0, 1) := by decide +kernel
theorem dX1_attentionBehind_5 : decode cX1_attentionBehind 5 = .ok (.getfield 19, 3) := by decide +kernel
theorem dX1_attentionBehind_8 : decode cX1_attentionBehind 8 = .ok (.iadd, 1) := by decide +kernel
theorem dX1_attentionBehind_9 : decode cX1_attentionBehind 9 = .ok (.iload_n 1, 1) := by decide +kernel
theorem dX1_attentionBehind_10 : decode cX1_attentionBehind 10 = .ok (.iadd, 1) := by decide +kernel
theorem dX1_attentionBehind_11 : decode cX1_attentionBehind 11 = .ok (.ireturn, 1) := by decide +kernel
theorem dX1_figure_0 : decode cX1_figure 0 = .ok (.iload_n 1, 1) := by decide +kernel
theorem dX1_figure_1 : decode cX1_figure 1 = .ok (.tableswitch 66 0 5 #[39, 41, 46, 51, 56, 61], 39) := by decide +kernel
theorem dX1_figure_40 : decode cX1_figure 40 = .ok (.iconst 1, 1) := by decide +kernel
theorem dX1_figure_41 : decode cX1_figure 41 = .ok (.ireturn, 1) := by decide +kernel
theorem dX1_figure_42 : decode cX1_figure 42 = .ok (.aload_n 0, 1) := by decide +kernel
theorem dX1_figure_43 : decode cX1_figure 43 = .ok (.getfield 7, 3) := by decide +kernel
theorem dX1_figure_46 : decode cX1_figure 46 = .ok (.ireturn, 1) := by decide +kernel
theorem dX1_figure_47 : decode cX1_figure 47 = .ok (.aload_n 0, 1) := by decide +kernel
theorem dX1_figure_48 : decode cX1_figure 48 = .ok (.getfield 13, 3) := by decide +kernel
theorem dX1_figure_51 : decode cX1_figure 51 = .ok (.ireturn, 1) := by decide +kernel
theorem dX1_figure_52 : decode cX1_figure 52 = .ok (.aload_n 0, 1) := by decide +kernel
theorem dX1_figure_53 : decode cX1_figure 53 = .ok (.getfield 16, 3) := by decide +kernel
theorem dX1_figure_56 : decode cX1_figure 56 = .ok (.ireturn, 1) := by decide +kernel
theorem dX1_figure_57 : decode cX1_figure 57 = .ok (.aload_n 0, 1) := by decide +kernel
theorem dX1_figure_58 : decode cX1_figure 58 = .ok (.getfield 19, 3) := by decide +kernel
theorem dX1_figure_61 : decode cX1_figure 61 = .ok (.ireturn, 1) := by decide +kernel
theorem dX1_figure_62 : decode cX1_figure 62 = .ok (.aload_n 0, 1) := by decide +kernel
theorem dX1_figure_63 : decode cX1_figure 63 = .ok (.getfield 30, 3) := by decide +kernel
theorem dX1_figure_66 : decode cX1_figure 66 = .ok (.ireturn, 1) := by decide +kernel
theorem dX1_figure_67 : decode cX1_figure 67 = .ok (.aload_n 0, 1) := by decide +kernel
theorem dX1_figure_68 : decode cX1_figure 68 = .ok (.getfield 33, 3) := by decide +kernel
theorem dX1_figure_71 : decode cX1_figure 71 = .ok (.ireturn, 1) := by decide +kernel
theorem dX2_init_0 : decode cX2_init 0 = .ok (.aload_n 0, 1) := by decide +kernel
theorem dX2_init_1 : decode cX2_init 1 = .ok (.invokespecial 3, 3) := by decide +kernel
theorem dX2_init_4 : decode cX2_init 4 = .ok (.aload_n 0, 1) := by decide +kernel
theorem dX2_init_5 : decode cX2_init 5 = .ok (.bipush 100, 2) := by decide +kernel
theorem dX2_init_7 : decode cX2_init 7 = .ok (.anewarray 9, 3) := by decide +kernel
theorem dX2_init_10 : decode cX2_init 10 = .ok (.putfield 11, 3) := by decide +kernel
theorem dX2_init_13 : decode cX2_init 13 = .ok (.return_, 1) := by decide +kernel
theorem dX2_put_0 : decode cX2_put 0 = .ok (.iload_n 1, 1) := by decide +kernel
theorem dX2_put_1 : decode cX2_put 1 = .ok (.invokestatic 17, 3) := by decide +kernel
theorem dX2_put_4 : decode cX2_put 4 = .ok (.ifCond .eq 34, 3) := by decide +kernel
theorem dX2_put_7 : decode cX2_put 7 = .ok (.iload_n 2, 1) := by decide +kernel
theorem dX2_put_8 : decode cX2_put 8 = .ok (.invokestatic 17, 3) := by decide +kernel
theorem dX2_put_11 : decode cX2_put 11 = .ok (.ifCond .eq 27, 3) := by decide +kernel
theorem dX2_put_14 : decode cX2_put 14 = .ok (.aload_n 0, 1) := by decide +kernel
theorem dX2_put_15 : decode cX2_put 15 = .ok (.getfield 11, 3) := by decide +kernel
theorem dX2_put_18 : decode cX2_put 18 = .ok (.iload_n 1, 1) := by decide +kernel
theorem dX2_put_19 : decode cX2_put 19 = .ok (.bipush 10, 2) := by decide +kernel
theorem dX2_put_21 : decode cX2_put 21 = .ok (.imul, 1) := by decide +kernel
theorem dX2_put_22 : decode cX2_put 22 = .ok (.iload_n 2, 1) := by decide +kernel
theorem dX2_put_23 : decode cX2_put 23 = .ok (.iadd, 1) := by decide +kernel
theorem dX2_put_24 : decode cX2_put 24 = .ok (.aload_n 3, 1) := by decide +kernel
theorem dX2_put_25 : decode cX2_put 25 = .ok (.aastore, 1) := by decide +kernel
theorem dX2_put_26 : decode cX2_put 26 = .ok (.aload_n 0, 1) := by decide +kernel
theorem dX2_put_27 : decode cX2_put 27 = .ok (.getfield 11, 3) := by decide +kernel
theorem dX2_put_30 : decode cX2_put 30 = .ok (.iload_n 2, 1) := by decide +kernel
theorem dX2_put_31 : decode cX2_put 31 = .ok (.bipush 10, 2) := by decide +kernel
theorem dX2_put_33 : decode cX2_put 33 = .ok (.imul, 1) := by decide +kernel
theorem dX2_put_34 : decode cX2_put 34 = .ok (.iload_n 1, 1) := by decide +kernel
theorem dX2_put_35 : decode cX2_put 35 = .ok (.iadd, 1) := by decide +kernel
theorem dX2_put_36 : decode cX2_put 36 = .ok (.aload_n 3, 1) := by decide +kernel
theorem dX2_put_37 : decode cX2_put 37 = .ok (.aastore, 1) := by decide +kernel
theorem dX2_put_38 : decode cX2_put 38 = .ok (.return_, 1) := by decide +kernel
theorem dX2_between_0 : decode cX2_between 0 = .ok (.iload_n 1, 1) := by decide +kernel
theorem dX2_between_1 : decode cX2_between 1 = .ok (.invokestatic 17, 3) := by decide +kernel
theorem dX2_between_4 : decode cX2_between 4 = .ok (.ifCond .eq 24, 3) := by decide +kernel
theorem dX2_between_7 : decode cX2_between 7 = .ok (.iload_n 2, 1) := by decide +kernel
theorem dX2_between_8 : decode cX2_between 8 = .ok (.invokestatic 17, 3) := by decide +kernel
theorem dX2_between_11 : decode cX2_between 11 = .ok (.ifCond .eq 17, 3) := by decide +kernel
theorem dX2_between_14 : decode cX2_between 14 = .ok (.aload_n 0, 1) := by decide +kernel
theorem dX2_between_15 : decode cX2_between 15 = .ok (.getfield 11, 3) := by decide +kernel
theorem dX2_between_18 : decode cX2_between 18 = .ok (.iload_n 1, 1) := by decide +kernel
theorem dX2_between_19 : decode cX2_between 19 = .ok (.bipush 10, 2) := by decide +kernel
theorem dX2_between_21 : decode cX2_between 21 = .ok (.imul, 1) := by decide +kernel
theorem dX2_between_22 : decode cX2_between 22 = .ok (.iload_n 2, 1) := by decide +kernel
theorem dX2_between_23 : decode cX2_between 23 = .ok (.iadd, 1) := by decide +kernel
theorem dX2_between_24 : decode cX2_between 24 = .ok (.aaload, 1) := by decide +kernel
theorem dX2_between_25 : decode cX2_between 25 = .ok (.goto 4, 3) := by decide +kernel
theorem dX2_between_28 : decode cX2_between 28 = .ok (.aconst_null, 1) := by decide +kernel
theorem dX2_between_29 : decode cX2_between 29 = .ok (.areturn, 1) := by decide +kernel
theorem dX2_isOnMap_0 : decode cX2_isOnMap 0 = .ok (.iload_n 0, 1) := by decide +kernel
theorem dX2_isOnMap_1 : decode cX2_isOnMap 1 = .ok (.ifCond .lt 13, 3) := by decide +kernel
theorem dX2_isOnMap_4 : decode cX2_isOnMap 4 = .ok (.iload_n 0, 1) := by decide +kernel
theorem dX2_isOnMap_5 : decode cX2_isOnMap 5 = .ok (.bipush 10, 2) := by decide +kernel
theorem dX2_isOnMap_7 : decode cX2_isOnMap 7 = .ok (.if_icmp .ge 7, 3) := by decide +kernel
theorem dX2_isOnMap_10 : decode cX2_isOnMap 10 = .ok (.iconst 1, 1) := by decide +kernel
theorem dX2_isOnMap_11 : decode cX2_isOnMap 11 = .ok (.goto 4, 3) := by decide +kernel
theorem dX2_isOnMap_14 : decode cX2_isOnMap 14 = .ok (.iconst 0, 1) := by decide +kernel
theorem dX2_isOnMap_15 : decode cX2_isOnMap 15 = .ok (.ireturn, 1) := by decide +kernel
theorem dX3_init_0 : decode cX3_init 0 = .ok (.aload_n 0, 1) := by decide +kernel
theorem dX3_init_1 : decode cX3_init 1 = .ok (.invokespecial 3, 3) := by decide +kernel
theorem dX3_init_4 : decode cX3_init 4 = .ok (.aload_n 0, 1) := by decide +kernel
theorem dX3_init_5 : decode cX3_init 5 = .ok (.iload_n 1, 1) := by decide +kernel
theorem dX3_init_6 : decode cX3_init 6 = .ok (.putfield 9, 3) := by decide +kernel
theorem dX3_init_9 : decode cX3_init 9 = .ok (.aload_n 0, 1) := by decide +kernel
theorem dX3_init_10 : decode cX3_init 10 = .ok (.iload_n 2, 1) := by decide +kernel
theorem dX3_init_11 : decode cX3_init 11 = .ok (.putfield 15, 3) := by decide +kernel
theorem dX3_init_14 : decode cX3_init 14 = .ok (.aload_n 0, 1) := by decide +kernel
theorem dX3_init_15 : decode cX3_init 15 = .ok (.iload_n 3, 1) := by decide +kernel
theorem dX3_init_16 : decode cX3_init 16 = .ok (.putfield 18, 3) := by decide +kernel
theorem dX3_init_19 : decode cX3_init 19 = .ok (.aload_n 0, 1) := by decide +kernel
theorem dX3_init_20 : decode cX3_init 20 = .ok (.iload 4, 2) := by decide +kernel
theorem dX3_init_22 : decode cX3_init 22 = .ok (.putfield 21, 3) := by decide +kernel
theorem dX3_init_25 : decode cX3_init 25 = .ok (.aload_n 0, 1) := by decide +kernel
theorem dX3_init_26 : decode cX3_init 26 = .ok (.iload 5, 2) := by decide +kernel
theorem dX3_init_28 : decode cX3_init 28 = .ok (.putfield 24, 3) := by decide +kernel
theorem dX3_init_31 : decode cX3_init 31 = .ok (.aload_n 0, 1) := by decide +kernel
theorem dX3_init_32 : decode cX3_init 32 = .ok (.iload 6, 2) := by decide +kernel
theorem dX3_init_34 : decode cX3_init 34 = .ok (.putfield 27, 3) := by decide +kernel
theorem dX3_init_37 : decode cX3_init 37 = .ok (.aload_n 0, 1) := by decide +kernel
theorem dX3_init_38 : decode cX3_init 38 = .ok (.iconst (-1), 1) := by decide +kernel
theorem dX3_init_39 : decode cX3_init 39 = .ok (.putfield 30, 3) := by decide +kernel
theorem dX3_init_42 : decode cX3_init 42 = .ok (.return_, 1) := by decide +kernel
theorem dX3_putIntoBag_0 : decode cX3_putIntoBag 0 = .ok (.aload_n 0, 1) := by decide +kernel
theorem dX3_putIntoBag_1 : decode cX3_putIntoBag 1 = .ok (.iconst (-1), 1) := by decide +kernel
theorem dX3_putIntoBag_2 : decode cX3_putIntoBag 2 = .ok (.aload_n 1, 1) := by decide +kernel
theorem dX3_putIntoBag_3 : decode cX3_putIntoBag 3 = .ok (.getfield 33, 3) := by decide +kernel
theorem dX3_putIntoBag_6 : decode cX3_putIntoBag 6 = .ok (.invokevirtual 36, 3) := by decide +kernel
theorem dX3_putIntoBag_9 : decode cX3_putIntoBag 9 = .ok (.return_, 1) := by decide +kernel
theorem dX3_putIntoTown_0 : decode cX3_putIntoTown 0 = .ok (.aload_n 0, 1) := by decide +kernel
theorem dX3_putIntoTown_1 : decode cX3_putIntoTown 1 = .ok (.iload_n 1, 1) := by decide +kernel
theorem dX3_putIntoTown_2 : decode cX3_putIntoTown 2 = .ok (.iconst (-1), 1) := by decide +kernel
theorem dX3_putIntoTown_3 : decode cX3_putIntoTown 3 = .ok (.invokevirtual 36, 3) := by decide +kernel
theorem dX3_putIntoTown_6 : decode cX3_putIntoTown 6 = .ok (.return_, 1) := by decide +kernel
theorem dX3_vanish_0 : decode cX3_vanish 0 = .ok (.aload_n 0, 1) := by decide +kernel
theorem dX3_vanish_1 : decode cX3_vanish 1 = .ok (.iconst (-1), 1) := by decide +kernel
theorem dX3_vanish_2 : decode cX3_vanish 2 = .ok (.iconst (-1), 1) := by decide +kernel
theorem dX3_vanish_3 : decode cX3_vanish 3 = .ok (.invokevirtual 36, 3) := by decide +kernel
theorem dX3_vanish_6 : decode cX3_vanish 6 = .ok (.return_, 1) := by decide +kernel
theorem dX3_move_0 : decode cX3_move 0 = .ok (.aload_n 0, 1) := by decide +kernel
theorem dX3_move_1 : decode cX3_move 1 = .ok (.iload_n 1, 1) := by decide +kernel
theorem dX3_move_2 : decode cX3_move 2 = .ok (.putfield 27, 3) := by decide +kernel
theorem dX3_move_5 : decode cX3_move 5 = .ok (.aload_n 0, 1) := by decide +kernel
theorem dX3_move_6 : decode cX3_move 6 = .ok (.iload_n 2, 1) := by decide +kernel
theorem dX3_move_7 : decode cX3_move 7 = .ok (.putfield 30, 3) := by decide +kernel
theorem dX3_move_10 : decode cX3_move 10 = .ok (.aload_n 0, 1) := by decide +kernel
theorem dX3_move_11 : decode cX3_move 11 = .ok (.iconst 0, 1) := by decide +kernel
theorem dX3_move_12 : decode cX3_move 12 = .ok (.putfield 40, 3) := by decide +kernel
theorem dX3_move_15 : decode cX3_move 15 = .ok (.return_, 1) := by decide +kernel
theorem dX3_isGone_0 : decode cX3_isGone 0 = .ok (.aload_n 0, 1) := by decide +kernel
theorem dX3_isGone_1 : decode cX3_isGone 1 = .ok (.getfield 27, 3) := by decide +kernel
theorem dX3_isGone_4 : decode cX3_isGone 4 = .ok (.iconst (-1), 1) := by decide +kernel
theorem dX3_isGone_5 : decode cX3_isGone 5 = .ok (.if_icmp .ne 15, 3) := by decide +kernel
theorem dX3_isGone_8 : decode cX3_isGone 8 = .ok (.aload_n 0, 1) := by decide +kernel
theorem dX3_isGone_9 : decode cX3_isGone 9 = .ok (.getfield 30, 3) := by decide +kernel
theorem dX3_isGone_12 : decode cX3_isGone 12 = .ok (.iconst (-1), 1) := by decide +kernel
theorem dX3_isGone_13 : decode cX3_isGone 13 = .ok (.if_icmp .ne 7, 3) := by decide +kernel
theorem dX3_isGone_16 : decode cX3_isGone 16 = .ok (.iconst 1, 1) := by decide +kernel
theorem dX3_isGone_17 : decode cX3_isGone 17 = .ok (.goto 4, 3) := by decide +kernel
theorem dX3_isGone_20 : decode cX3_isGone 20 = .ok (.iconst 0, 1) := by decide +kernel
theorem dX3_isGone_21 : decode cX3_isGone 21 = .ok (.ireturn, 1) := by decide +kernel
theorem dX3_isInBagOf_0 : decode cX3_isInBagOf 0 = .ok (.aload_n 0, 1) := by decide +kernel
theorem dX3_isInBagOf_1 : decode cX3_isInBagOf 1 = .ok (.getfield 30, 3) := by decide +kernel
theorem dX3_isInBagOf_4 : decode cX3_isInBagOf 4 = .ok (.aload_n 1, 1) := by decide +kernel
theorem dX3_isInBagOf_5 : decode cX3_isInBagOf 5 = .ok (.getfield 33, 3) := by decide +kernel
theorem dX3_isInBagOf_8 : decode cX3_isInBagOf 8 = .ok (.if_icmp .ne 7, 3) := by decide +kernel
theorem dX3_isInBagOf_11 : decode cX3_isInBagOf 11 = .ok (.iconst 1, 1) := by decide +kernel
theorem dX3_isInBagOf_12 : decode cX3_isInBagOf 12 = .ok (.goto 4, 3) := by decide +kernel
theorem dX3_isInBagOf_15 : decode cX3_isInBagOf 15 = .ok (.iconst 0, 1) := by decide +kernel
theorem dX3_isInBagOf_16 : decode cX3_isInBagOf 16 = .ok (.ireturn, 1) := by decide +kernel
theorem dX3_isHiddenBy_0 : decode cX3_isHiddenBy 0 = .ok (.aload_n 0, 1) := by decide +kernel
theorem dX3_isHiddenBy_1 : decode cX3_isHiddenBy 1 = .ok (.getfield 40, 3) := by decide +kernel
theorem dX3_isHiddenBy_4 : decode cX3_isHiddenBy 4 = .ok (.ifCond .eq 15, 3) := by decide +kernel
theorem dX3_isHiddenBy_7 : decode cX3_isHiddenBy 7 = .ok (.aload_n 0, 1) := by decide +kernel
theorem dX3_isHiddenBy_8 : decode cX3_isHiddenBy 8 = .ok (.aload_n 1, 1) := by decide +kernel
theorem dX3_isHiddenBy_9 : decode cX3_isHiddenBy 9 = .ok (.invokevirtual 44, 3) := by decide +kernel
theorem dX3_isHiddenBy_12 : decode cX3_isHiddenBy 12 = .ok (.ifCond .eq 7, 3) := by decide +kernel
theorem dX3_isHiddenBy_15 : decode cX3_isHiddenBy 15 = .ok (.iconst 1, 1) := by decide +kernel
theorem dX3_isHiddenBy_16 : decode cX3_isHiddenBy 16 = .ok (.goto 4, 3) := by decide +kernel
theorem dX3_isHiddenBy_19 : decode cX3_isHiddenBy 19 = .ok (.iconst 0, 1) := by decide +kernel
theorem dX3_isHiddenBy_20 : decode cX3_isHiddenBy 20 = .ok (.ireturn, 1) := by decide +kernel
theorem dX3_isShownBy_0 : decode cX3_isShownBy 0 = .ok (.aload_n 0, 1) := by decide +kernel
theorem dX3_isShownBy_1 : decode cX3_isShownBy 1 = .ok (.getfield 40, 3) := by decide +kernel
theorem dX3_isShownBy_4 : decode cX3_isShownBy 4 = .ok (.ifCond .ne 15, 3) := by decide +kernel
theorem dX3_isShownBy_7 : decode cX3_isShownBy 7 = .ok (.aload_n 0, 1) := by decide +kernel
theorem dX3_isShownBy_8 : decode cX3_isShownBy 8 = .ok (.aload_n 1, 1) := by decide +kernel
theorem dX3_isShownBy_9 : decode cX3_isShownBy 9 = .ok (.invokevirtual 44, 3) := by decide +kernel
theorem dX3_isShownBy_12 : decode cX3_isShownBy 12 = .ok (.ifCond .eq 7, 3) := by decide +kernel
theorem dX3_isShownBy_15 : decode cX3_isShownBy 15 = .ok (.iconst 1, 1) := by decide +kernel
theorem dX3_isShownBy_16 : decode cX3_isShownBy 16 = .ok (.goto 4, 3) := by decide +kernel
theorem dX3_isShownBy_19 : decode cX3_isShownBy 19 = .ok (.iconst 0, 1) := by decide +kernel
theorem dX3_isShownBy_20 : decode cX3_isShownBy 20 = .ok (.ireturn, 1) := by decide +kernel
theorem dX3_burnable_0 : decode cX3_burnable 0 = .ok (.iload_n 1, 1) := by decide +kernel
theorem dX3_burnable_1 : decode cX3_burnable 1 = .ok (.aload_n 0, 1) := by decide +kernel
theorem dX3_burnable_2 : decode cX3_burnable 2 = .ok (.getfield 24, 3) := by decide +kernel
theorem dX3_burnable_5 : decode cX3_burnable 5 = .ok (.invokestatic 48, 3) := by decide +kernel
theorem dX3_burnable_8 : decode cX3_burnable 8 = .ok (.ireturn, 1) := by decide +kernel
theorem dX3_figure_0 : decode cX3_figure 0 = .ok (.iload_n 1, 1) := by decide +kernel
theorem dX3_figure_1 : decode cX3_figure 1 = .ok (.tableswitch 69 0 5 #[39, 44, 49, 54, 59, 64], 39) := by decide +kernel
theorem dX3_figure_40 : decode cX3_figure 40 = .ok (.aload_n 0, 1) := by decide +kernel
theorem dX3_figure_41 : decode cX3_figure 41 = .ok (.getfield 18, 3) := by decide +kernel
theorem dX3_figure_44 : decode cX3_figure 44 = .ok (.ireturn, 1) := by decide +kernel
theorem dX3_figure_45 : decode cX3_figure 45 = .ok (.aload_n 0, 1) := by decide +kernel
theorem dX3_figure_46 : decode cX3_figure 46 = .ok (.getfield 21, 3) := by decide +kernel
theorem dX3_figure_49 : decode cX3_figure 49 = .ok (.ireturn, 1) := by decide +kernel
theorem dX3_figure_50 : decode cX3_figure 50 = .ok (.aload_n 0, 1) := by decide +kernel
theorem dX3_figure_51 : decode cX3_figure 51 = .ok (.getfield 24, 3) := by decide +kernel
theorem dX3_figure_54 : decode cX3_figure 54 = .ok (.ireturn, 1) := by decide +kernel
theorem dX3_figure_55 : decode cX3_figure 55 = .ok (.aload_n 0, 1) := by decide +kernel
theorem dX3_figure_56 : decode cX3_figure 56 = .ok (.getfield 15, 3) := by decide +kernel
theorem dX3_figure_59 : decode cX3_figure 59 = .ok (.ireturn, 1) := by decide +kernel
theorem dX3_figure_60 : decode cX3_figure 60 = .ok (.aload_n 0, 1) := by decide +kernel
theorem dX3_figure_61 : decode cX3_figure 61 = .ok (.getfield 27, 3) := by decide +kernel
theorem dX3_figure_64 : decode cX3_figure 64 = .ok (.ireturn, 1) := by decide +kernel
theorem dX3_figure_65 : decode cX3_figure 65 = .ok (.aload_n 0, 1) := by decide +kernel
theorem dX3_figure_66 : decode cX3_figure 66 = .ok (.getfield 30, 3) := by decide +kernel
theorem dX3_figure_69 : decode cX3_figure 69 = .ok (.ireturn, 1) := by decide +kernel
theorem dX3_figure_70 : decode cX3_figure 70 = .ok (.aload_n 0, 1) := by decide +kernel
theorem dX3_figure_71 : decode cX3_figure 71 = .ok (.getfield 40, 3) := by decide +kernel
theorem dX3_figure_74 : decode cX3_figure 74 = .ok (.ifCond .eq 7, 3) := by decide +kernel
theorem dX3_figure_77 : decode cX3_figure 77 = .ok (.iconst 1, 1) := by decide +kernel
theorem dX3_figure_78 : decode cX3_figure 78 = .ok (.goto 4, 3) := by decide +kernel
theorem dX3_figure_81 : decode cX3_figure 81 = .ok (.iconst 0, 1) := by decide +kernel
theorem dX3_figure_82 : decode cX3_figure 82 = .ok (.ireturn, 1) := by decide +kernel
theorem dX4_init_0 : decode cX4_init 0 = .ok (.aload_n 0, 1) := by decide +kernel
theorem dX4_init_1 : decode cX4_init 1 = .ok (.invokespecial 3, 3) := by decide +kernel
theorem dX4_init_4 : decode cX4_init 4 = .ok (.aload_n 0, 1) := by decide +kernel
theorem dX4_init_5 : decode cX4_init 5 = .ok (.aload_n 1, 1) := by decide +kernel
theorem dX4_init_6 : decode cX4_init 6 = .ok (.putfield 9, 3) := by decide +kernel
theorem dX4_init_9 : decode cX4_init 9 = .ok (.aload_n 0, 1) := by decide +kernel
theorem dX4_init_10 : decode cX4_init 10 = .ok (.bipush 60, 2) := by decide +kernel
theorem dX4_init_12 : decode cX4_init 12 = .ok (.newarray .int, 2) := by decide +kernel
theorem dX4_init_14 : decode cX4_init 14 = .ok (.putfield 15, 3) := by decide +kernel
theorem dX4_init_17 : decode cX4_init 17 = .ok (.aload_n 0, 1) := by decide +kernel
theorem dX4_init_18 : decode cX4_init 18 = .ok (.bipush 60, 2) := by decide +kernel
theorem dX4_init_20 : decode cX4_init 20 = .ok (.newarray .boolean, 2) := by decide +kernel
theorem dX4_init_22 : decode cX4_init 22 = .ok (.putfield 19, 3) := by decide +kernel
theorem dX4_init_25 : decode cX4_init 25 = .ok (.return_, 1) := by decide +kernel
theorem dX4_dutiesOf_0 : decode cX4_dutiesOf 0 = .ok (.iload_n 0, 1) := by decide +kernel
theorem dX4_dutiesOf_1 : decode cX4_dutiesOf 1 = .ok (.sipush 1000, 3) := by decide +kernel
theorem dX4_dutiesOf_4 : decode cX4_dutiesOf 4 = .ok (.idiv, 1) := by decide +kernel
theorem dX4_dutiesOf_5 : decode cX4_dutiesOf 5 = .ok (.ireturn, 1) := by decide +kernel
theorem dX4_hoursOf_0 : decode cX4_hoursOf 0 = .ok (.iload_n 0, 1) := by decide +kernel
theorem dX4_hoursOf_1 : decode cX4_hoursOf 1 = .ok (.sipush 1000, 3) := by decide +kernel
theorem dX4_hoursOf_4 : decode cX4_hoursOf 4 = .ok (.irem, 1) := by decide +kernel
theorem dX4_hoursOf_5 : decode cX4_hoursOf 5 = .ok (.ireturn, 1) := by decide +kernel
theorem dX4_leastPrice_0 : decode cX4_leastPrice 0 = .ok (.aload_n 0, 1) := by decide +kernel
theorem dX4_leastPrice_1 : decode cX4_leastPrice 1 = .ok (.iload_n 2, 1) := by decide +kernel
theorem dX4_leastPrice_2 : decode cX4_leastPrice 2 = .ok (.invokevirtual 23, 3) := by decide +kernel
theorem dX4_leastPrice_5 : decode cX4_leastPrice 5 = .ok (.iconst 0, 1) := by decide +kernel
theorem dX4_leastPrice_6 : decode cX4_leastPrice 6 = .ok (.istore 4, 2) := by decide +kernel
theorem dX4_leastPrice_8 : decode cX4_leastPrice 8 = .ok (.iload 4, 2) := by decide +kernel
theorem dX4_leastPrice_10 : decode cX4_leastPrice 10 = .ok (.bipush 60, 2) := by decide +kernel
theorem dX4_leastPrice_12 : decode cX4_leastPrice 12 = .ok (.if_icmp .ge 55, 3) := by decide +kernel
theorem dX4_leastPrice_15 : decode cX4_leastPrice 15 = .ok (.aload_n 0, 1) := by decide +kernel
theorem dX4_leastPrice_16 : decode cX4_leastPrice 16 = .ok (.invokevirtual 27, 3) := by decide +kernel
theorem dX4_leastPrice_19 : decode cX4_leastPrice 19 = .ok (.istore 5, 2) := by decide +kernel
theorem dX4_leastPrice_21 : decode cX4_leastPrice 21 = .ok (.iload 5, 2) := by decide +kernel
theorem dX4_leastPrice_23 : decode cX4_leastPrice 23 = .ok (.iconst (-1), 1) := by decide +kernel
theorem dX4_leastPrice_24 : decode cX4_leastPrice 24 = .ok (.if_icmp .ne 5, 3) := by decide +kernel
theorem dX4_leastPrice_27 : decode cX4_leastPrice 27 = .ok (.iconst (-1), 1) := by decide +kernel
theorem dX4_leastPrice_28 : decode cX4_leastPrice 28 = .ok (.ireturn, 1) := by decide +kernel
theorem dX4_leastPrice_29 : decode cX4_leastPrice 29 = .ok (.iload 5, 2) := by decide +kernel
theorem dX4_leastPrice_31 : decode cX4_leastPrice 31 = .ok (.invokestatic 31, 3) := by decide +kernel
theorem dX4_leastPrice_34 : decode cX4_leastPrice 34 = .ok (.iload_n 3, 1) := by decide +kernel
theorem dX4_leastPrice_35 : decode cX4_leastPrice 35 = .ok (.if_icmp .ne 11, 3) := by decide +kernel
theorem dX4_leastPrice_38 : decode cX4_leastPrice 38 = .ok (.aload_n 0, 1) := by decide +kernel
theorem dX4_leastPrice_39 : decode cX4_leastPrice 39 = .ok (.getfield 15, 3) := by decide +kernel
theorem dX4_leastPrice_42 : decode cX4_leastPrice 42 = .ok (.iload 5, 2) := by decide +kernel
theorem dX4_leastPrice_44 : decode cX4_leastPrice 44 = .ok (.iaload, 1) := by decide +kernel
theorem dX4_leastPrice_45 : decode cX4_leastPrice 45 = .ok (.ireturn, 1) := by decide +kernel
theorem dX4_leastPrice_46 : decode cX4_leastPrice 46 = .ok (.aload_n 0, 1) := by decide +kernel
theorem dX4_leastPrice_47 : decode cX4_leastPrice 47 = .ok (.getfield 19, 3) := by decide +kernel
theorem dX4_leastPrice_50 : decode cX4_leastPrice 50 = .ok (.iload 5, 2) := by decide +kernel
theorem dX4_leastPrice_52 : decode cX4_leastPrice 52 = .ok (.iconst 1, 1) := by decide +kernel
theorem dX4_leastPrice_53 : decode cX4_leastPrice 53 = .ok (.bastore, 1) := by decide +kernel
theorem dX4_leastPrice_54 : decode cX4_leastPrice 54 = .ok (.aload_n 0, 1) := by decide +kernel
theorem dX4_leastPrice_55 : decode cX4_leastPrice 55 = .ok (.iload 5, 2) := by decide +kernel
theorem dX4_leastPrice_57 : decode cX4_leastPrice 57 = .ok (.aload_n 1, 1) := by decide +kernel
theorem dX4_leastPrice_58 : decode cX4_leastPrice 58 = .ok (.invokevirtual 35, 3) := by decide +kernel
theorem dX4_leastPrice_61 : decode cX4_leastPrice 61 = .ok (.iinc 4 1, 3) := by decide +kernel
theorem dX4_leastPrice_64 : decode cX4_leastPrice 64 = .ok (.goto (-56), 3) := by decide +kernel
theorem dX4_leastPrice_67 : decode cX4_leastPrice 67 = .ok (.iconst (-1), 1) := by decide +kernel
theorem dX4_leastPrice_68 : decode cX4_leastPrice 68 = .ok (.ireturn, 1) := by decide +kernel
theorem dX4_startIn_0 : decode cX4_startIn 0 = .ok (.iconst 0, 1) := by decide +kernel
theorem dX4_startIn_1 : decode cX4_startIn 1 = .ok (.istore_n 2, 1) := by decide +kernel
theorem dX4_startIn_2 : decode cX4_startIn 2 = .ok (.iload_n 2, 1) := by decide +kernel
theorem dX4_startIn_3 : decode cX4_startIn 3 = .ok (.bipush 60, 2) := by decide +kernel
theorem dX4_startIn_5 : decode cX4_startIn 5 = .ok (.if_icmp .ge 33, 3) := by decide +kernel
theorem dX4_startIn_8 : decode cX4_startIn 8 = .ok (.aload_n 0, 1) := by decide +kernel
theorem dX4_startIn_9 : decode cX4_startIn 9 = .ok (.getfield 15, 3) := by decide +kernel
theorem dX4_startIn_12 : decode cX4_startIn 12 = .ok (.iload_n 2, 1) := by decide +kernel
theorem dX4_startIn_13 : decode cX4_startIn 13 = .ok (.iload_n 2, 1) := by decide +kernel
theorem dX4_startIn_14 : decode cX4_startIn 14 = .ok (.iload_n 1, 1) := by decide +kernel
theorem dX4_startIn_15 : decode cX4_startIn 15 = .ok (.if_icmp .ne 7, 3) := by decide +kernel
theorem dX4_startIn_18 : decode cX4_startIn 18 = .ok (.iconst 0, 1) := by decide +kernel
theorem dX4_startIn_19 : decode cX4_startIn 19 = .ok (.goto 5, 3) := by decide +kernel
theorem dX4_startIn_22 : decode cX4_startIn 22 = .ok (.ldc 39, 2) := by decide +kernel
theorem dX4_startIn_24 : decode cX4_startIn 24 = .ok (.iastore, 1) := by decide +kernel
theorem dX4_startIn_25 : decode cX4_startIn 25 = .ok (.aload_n 0, 1) := by decide +kernel
theorem dX4_startIn_26 : decode cX4_startIn 26 = .ok (.getfield 19, 3) := by decide +kernel
theorem dX4_startIn_29 : decode cX4_startIn 29 = .ok (.iload_n 2, 1) := by decide +kernel
theorem dX4_startIn_30 : decode cX4_startIn 30 = .ok (.iconst 0, 1) := by decide +kernel
theorem dX4_startIn_31 : decode cX4_startIn 31 = .ok (.bastore, 1) := by decide +kernel
theorem dX4_startIn_32 : decode cX4_startIn 32 = .ok (.iinc 2 1, 3) := by decide +kernel
theorem dX4_startIn_35 : decode cX4_startIn 35 = .ok (.goto (-33), 3) := by decide +kernel
theorem dX4_startIn_38 : decode cX4_startIn 38 = .ok (.return_, 1) := by decide +kernel
theorem dX4_nextStage_0 : decode cX4_nextStage 0 = .ok (.iconst (-1), 1) := by decide +kernel
theorem dX4_nextStage_1 : decode cX4_nextStage 1 = .ok (.istore_n 1, 1) := by decide +kernel
theorem dX4_nextStage_2 : decode cX4_nextStage 2 = .ok (.ldc 39, 2) := by decide +kernel
theorem dX4_nextStage_4 : decode cX4_nextStage 4 = .ok (.istore_n 2, 1) := by decide +kernel
theorem dX4_nextStage_5 : decode cX4_nextStage 5 = .ok (.iconst 0, 1) := by decide +kernel
theorem dX4_nextStage_6 : decode cX4_nextStage 6 = .ok (.istore_n 3, 1) := by decide +kernel
theorem dX4_nextStage_7 : decode cX4_nextStage 7 = .ok (.iload_n 3, 1) := by decide +kernel
theorem dX4_nextStage_8 : decode cX4_nextStage 8 = .ok (.bipush 60, 2) := by decide +kernel
theorem dX4_nextStage_10 : decode cX4_nextStage 10 = .ok (.if_icmp .ge 37, 3) := by decide +kernel
theorem dX4_nextStage_13 : decode cX4_nextStage 13 = .ok (.aload_n 0, 1) := by decide +kernel
theorem dX4_nextStage_14 : decode cX4_nextStage 14 = .ok (.getfield 19, 3) := by decide +kernel
theorem dX4_nextStage_17 : decode cX4_nextStage 17 = .ok (.iload_n 3, 1) := by decide +kernel
theorem dX4_nextStage_18 : decode cX4_nextStage 18 = .ok (.baload, 1) := by decide +kernel
theorem dX4_nextStage_19 : decode cX4_nextStage 19 = .ok (.ifCond .ne 22, 3) := by decide +kernel
theorem dX4_nextStage_22 : decode cX4_nextStage 22 = .ok (.aload_n 0, 1) := by decide +kernel
theorem dX4_nextStage_23 : decode cX4_nextStage 23 = .ok (.getfield 15, 3) := by decide +kernel
theorem dX4_nextStage_26 : decode cX4_nextStage 26 = .ok (.iload_n 3, 1) := by decide +kernel
theorem dX4_nextStage_27 : decode cX4_nextStage 27 = .ok (.iaload, 1) := by decide +kernel
theorem dX4_nextStage_28 : decode cX4_nextStage 28 = .ok (.iload_n 2, 1) := by decide +kernel
theorem dX4_nextStage_29 : decode cX4_nextStage 29 = .ok (.if_icmp .ge 12, 3) := by decide +kernel
theorem dX4_nextStage_32 : decode cX4_nextStage 32 = .ok (.iload_n 3, 1) := by decide +kernel
theorem dX4_nextStage_33 : decode cX4_nextStage 33 = .ok (.istore_n 1, 1) := by decide +kernel
theorem dX4_nextStage_34 : decode cX4_nextStage 34 = .ok (.aload_n 0, 1) := by decide +kernel
theorem dX4_nextStage_35 : decode cX4_nextStage 35 = .ok (.getfield 15, 3) := by decide +kernel
theorem dX4_nextStage_38 : decode cX4_nextStage 38 = .ok (.iload_n 3, 1) := by decide +kernel
theorem dX4_nextStage_39 : decode cX4_nextStage 39 = .ok (.iaload, 1) := by decide +kernel
theorem dX4_nextStage_40 : decode cX4_nextStage 40 = .ok (.istore_n 2, 1) := by decide +kernel
theorem dX4_nextStage_41 : decode cX4_nextStage 41 = .ok (.iinc 3 1, 3) := by decide +kernel
theorem dX4_nextStage_44 : decode cX4_nextStage 44 = .ok (.goto (-37), 3) := by decide +kernel
theorem dX4_nextStage_47 : decode cX4_nextStage 47 = .ok (.iload_n 1, 1) := by decide +kernel
theorem dX4_nextStage_48 : decode cX4_nextStage 48 = .ok (.ireturn, 1) := by decide +kernel
theorem dX4_goOnFrom_0 : decode cX4_goOnFrom 0 = .ok (.iconst 0, 1) := by decide +kernel
theorem dX4_goOnFrom_1 : decode cX4_goOnFrom 1 = .ok (.istore_n 3, 1) := by decide +kernel
theorem dX4_goOnFrom_2 : decode cX4_goOnFrom 2 = .ok (.iload_n 3, 1) := by decide +kernel
theorem dX4_goOnFrom_3 : decode cX4_goOnFrom 3 = .ok (.bipush 10, 2) := by decide +kernel
theorem dX4_goOnFrom_5 : decode cX4_goOnFrom 5 = .ok (.if_icmp .ge 37, 3) := by decide +kernel
theorem dX4_goOnFrom_8 : decode cX4_goOnFrom 8 = .ok (.aload_n 0, 1) := by decide +kernel
theorem dX4_goOnFrom_9 : decode cX4_goOnFrom 9 = .ok (.getfield 9, 3) := by decide +kernel
theorem dX4_goOnFrom_12 : decode cX4_goOnFrom 12 = .ok (.iload_n 1, 1) := by decide +kernel
theorem dX4_goOnFrom_13 : decode cX4_goOnFrom 13 = .ok (.invokestatic 31, 3) := by decide +kernel
theorem dX4_goOnFrom_16 : decode cX4_goOnFrom 16 = .ok (.iload_n 3, 1) := by decide +kernel
theorem dX4_goOnFrom_17 : decode cX4_goOnFrom 17 = .ok (.invokevirtual 40, 3) := by decide +kernel
theorem dX4_goOnFrom_20 : decode cX4_goOnFrom 20 = .ok (.astore 4, 2) := by decide +kernel
theorem dX4_goOnFrom_22 : decode cX4_goOnFrom 22 = .ok (.aload 4, 2) := by decide +kernel
theorem dX4_goOnFrom_24 : decode cX4_goOnFrom 24 = .ok (.ifnull 12, 3) := by decide +kernel
theorem dX4_goOnFrom_27 : decode cX4_goOnFrom 27 = .ok (.aload_n 0, 1) := by decide +kernel
theorem dX4_goOnFrom_28 : decode cX4_goOnFrom 28 = .ok (.aload 4, 2) := by decide +kernel
theorem dX4_goOnFrom_30 : decode cX4_goOnFrom 30 = .ok (.iload_n 3, 1) := by decide +kernel
theorem dX4_goOnFrom_31 : decode cX4_goOnFrom 31 = .ok (.iload_n 1, 1) := by decide +kernel
theorem dX4_goOnFrom_32 : decode cX4_goOnFrom 32 = .ok (.aload_n 2, 1) := by decide +kernel
theorem dX4_goOnFrom_33 : decode cX4_goOnFrom 33 = .ok (.invokevirtual 46, 3) := by decide +kernel
theorem dX4_goOnFrom_36 : decode cX4_goOnFrom 36 = .ok (.iinc 3 1, 3) := by decide +kernel
theorem dX4_goOnFrom_39 : decode cX4_goOnFrom 39 = .ok (.goto (-37), 3) := by decide +kernel
theorem dX4_goOnFrom_42 : decode cX4_goOnFrom 42 = .ok (.return_, 1) := by decide +kernel
theorem dX4_goBy_0 : decode cX4_goBy 0 = .ok (.iload_n 3, 1) := by decide +kernel
theorem dX4_goBy_1 : decode cX4_goBy 1 = .ok (.invokestatic 50, 3) := by decide +kernel
theorem dX4_goBy_4 : decode cX4_goBy 4 = .ok (.istore 5, 2) := by decide +kernel
theorem dX4_goBy_6 : decode cX4_goBy 6 = .ok (.iconst 0, 1) := by decide +kernel
theorem dX4_goBy_7 : decode cX4_goBy 7 = .ok (.istore 6, 2) := by decide +kernel
theorem dX4_goBy_9 : decode cX4_goBy 9 = .ok (.iload 6, 2) := by decide +kernel
theorem dX4_goBy_11 : decode cX4_goBy 11 = .ok (.aload 4, 2) := by decide +kernel
theorem dX4_goBy_13 : decode cX4_goBy 13 = .ok (.getfield 53, 3) := by decide +kernel
theorem dX4_goBy_16 : decode cX4_goBy 16 = .ok (.iload 5, 2) := by decide +kernel
theorem dX4_goBy_18 : decode cX4_goBy 18 = .ok (.isub, 1) := by decide +kernel
theorem dX4_goBy_19 : decode cX4_goBy 19 = .ok (.if_icmp .gt 75, 3) := by decide +kernel
theorem dX4_goBy_22 : decode cX4_goBy 22 = .ok (.iload 5, 2) := by decide +kernel
theorem dX4_goBy_24 : decode cX4_goBy 24 = .ok (.iload 6, 2) := by decide +kernel
theorem dX4_goBy_26 : decode cX4_goBy 26 = .ok (.iadd, 1) := by decide +kernel
theorem dX4_goBy_27 : decode cX4_goBy 27 = .ok (.bipush 10, 2) := by decide +kernel
theorem dX4_goBy_29 : decode cX4_goBy 29 = .ok (.imul, 1) := by decide +kernel
theorem dX4_goBy_30 : decode cX4_goBy 30 = .ok (.iload_n 2, 1) := by decide +kernel
theorem dX4_goBy_31 : decode cX4_goBy 31 = .ok (.iadd, 1) := by decide +kernel
theorem dX4_goBy_32 : decode cX4_goBy 32 = .ok (.istore 7, 2) := by decide +kernel
theorem dX4_goBy_34 : decode cX4_goBy 34 = .ok (.aload_n 0, 1) := by decide +kernel
theorem dX4_goBy_35 : decode cX4_goBy 35 = .ok (.getfield 15, 3) := by decide +kernel
theorem dX4_goBy_38 : decode cX4_goBy 38 = .ok (.iload_n 3, 1) := by decide +kernel
theorem dX4_goBy_39 : decode cX4_goBy 39 = .ok (.iaload, 1) := by decide +kernel
theorem dX4_goBy_40 : decode cX4_goBy 40 = .ok (.aload_n 1, 1) := by decide +kernel
theorem dX4_goBy_41 : decode cX4_goBy 41 = .ok (.aload 4, 2) := by decide +kernel
theorem dX4_goBy_43 : decode cX4_goBy 43 = .ok (.iload 6, 2) := by decide +kernel
theorem dX4_goBy_45 : decode cX4_goBy 45 = .ok (.invokevirtual 59, 3) := by decide +kernel
theorem dX4_goBy_48 : decode cX4_goBy 48 = .ok (.sipush 1000, 3) := by decide +kernel
theorem dX4_goBy_51 : decode cX4_goBy 51 = .ok (.imul, 1) := by decide +kernel
theorem dX4_goBy_52 : decode cX4_goBy 52 = .ok (.iadd, 1) := by decide +kernel
theorem dX4_goBy_53 : decode cX4_goBy 53 = .ok (.aload_n 1, 1) := by decide +kernel
theorem dX4_goBy_54 : decode cX4_goBy 54 = .ok (.getfield 65, 3) := by decide +kernel
theorem dX4_goBy_57 : decode cX4_goBy 57 = .ok (.iadd, 1) := by decide +kernel
theorem dX4_goBy_58 : decode cX4_goBy 58 = .ok (.istore 8, 2) := by decide +kernel
theorem dX4_goBy_60 : decode cX4_goBy 60 = .ok (.iload 7, 2) := by decide +kernel
theorem dX4_goBy_62 : decode cX4_goBy 62 = .ok (.bipush 60, 2) := by decide +kernel
theorem dX4_goBy_64 : decode cX4_goBy 64 = .ok (.if_icmp .ge 24, 3) := by decide +kernel
theorem dX4_goBy_67 : decode cX4_goBy 67 = .ok (.iload 8, 2) := by decide +kernel
theorem dX4_goBy_69 : decode cX4_goBy 69 = .ok (.aload_n 0, 1) := by decide +kernel
theorem dX4_goBy_70 : decode cX4_goBy 70 = .ok (.getfield 15, 3) := by decide +kernel
theorem dX4_goBy_73 : decode cX4_goBy 73 = .ok (.iload 7, 2) := by decide +kernel
theorem dX4_goBy_75 : decode cX4_goBy 75 = .ok (.iaload, 1) := by decide +kernel
theorem dX4_goBy_76 : decode cX4_goBy 76 = .ok (.if_icmp .ge 12, 3) := by decide +kernel
theorem dX4_goBy_79 : decode cX4_goBy 79 = .ok (.aload_n 0, 1) := by decide +kernel
theorem dX4_goBy_80 : decode cX4_goBy 80 = .ok (.getfield 15, 3) := by decide +kernel
theorem dX4_goBy_83 : decode cX4_goBy 83 = .ok (.iload 7, 2) := by decide +kernel
theorem dX4_goBy_85 : decode cX4_goBy 85 = .ok (.iload 8, 2) := by decide +kernel
theorem dX4_goBy_87 : decode cX4_goBy 87 = .ok (.iastore, 1) := by decide +kernel
theorem dX4_goBy_88 : decode cX4_goBy 88 = .ok (.iinc 6 1, 3) := by decide +kernel
theorem dX4_goBy_91 : decode cX4_goBy 91 = .ok (.goto (-82), 3) := by decide +kernel
theorem dX4_goBy_94 : decode cX4_goBy 94 = .ok (.return_, 1) := by decide +kernel
theorem dX4_townOf_0 : decode cX4_townOf 0 = .ok (.iload_n 0, 1) := by decide +kernel
theorem dX4_townOf_1 : decode cX4_townOf 1 = .ok (.bipush 10, 2) := by decide +kernel
theorem dX4_townOf_3 : decode cX4_townOf 3 = .ok (.irem, 1) := by decide +kernel
theorem dX4_townOf_4 : decode cX4_townOf 4 = .ok (.ireturn, 1) := by decide +kernel
theorem dX4_burntAt_0 : decode cX4_burntAt 0 = .ok (.iload_n 0, 1) := by decide +kernel
theorem dX4_burntAt_1 : decode cX4_burntAt 1 = .ok (.bipush 10, 2) := by decide +kernel
theorem dX4_burntAt_3 : decode cX4_burntAt 3 = .ok (.idiv, 1) := by decide +kernel
theorem dX4_burntAt_4 : decode cX4_burntAt 4 = .ok (.ireturn, 1) := by decide +kernel
theorem dX5_init_0 : decode cX5_init 0 = .ok (.aload_n 0, 1) := by decide +kernel
theorem dX5_init_1 : decode cX5_init 1 = .ok (.invokespecial 1, 3) := by decide +kernel
theorem dX5_init_4 : decode cX5_init 4 = .ok (.aload_n 0, 1) := by decide +kernel
theorem dX5_init_5 : decode cX5_init 5 = .ok (.new 7, 3) := by decide +kernel
theorem dX5_init_8 : decode cX5_init 8 = .ok (.dup, 1) := by decide +kernel
theorem dX5_init_9 : decode cX5_init 9 = .ok (.invokespecial 9, 3) := by decide +kernel
theorem dX5_init_12 : decode cX5_init 12 = .ok (.putfield 10, 3) := by decide +kernel
theorem dX5_init_15 : decode cX5_init 15 = .ok (.aload_n 0, 1) := by decide +kernel
theorem dX5_init_16 : decode cX5_init 16 = .ok (.new 16, 3) := by decide +kernel
theorem dX5_init_19 : decode cX5_init 19 = .ok (.dup, 1) := by decide +kernel
theorem dX5_init_20 : decode cX5_init 20 = .ok (.aload_n 0, 1) := by decide +kernel
theorem dX5_init_21 : decode cX5_init 21 = .ok (.getfield 10, 3) := by decide +kernel
theorem dX5_init_24 : decode cX5_init 24 = .ok (.invokespecial 18, 3) := by decide +kernel
theorem dX5_init_27 : decode cX5_init 27 = .ok (.putfield 21, 3) := by decide +kernel
theorem dX5_init_30 : decode cX5_init 30 = .ok (.aload_n 0, 1) := by decide +kernel
theorem dX5_init_31 : decode cX5_init 31 = .ok (.new 25, 3) := by decide +kernel
theorem dX5_init_34 : decode cX5_init 34 = .ok (.dup, 1) := by decide +kernel
theorem dX5_init_35 : decode cX5_init 35 = .ok (.invokespecial 27, 3) := by decide +kernel
theorem dX5_init_38 : decode cX5_init 38 = .ok (.putfield 28, 3) := by decide +kernel
theorem dX5_init_41 : decode cX5_init 41 = .ok (.aload_n 0, 1) := by decide +kernel
theorem dX5_init_42 : decode cX5_init 42 = .ok (.new 25, 3) := by decide +kernel
theorem dX5_init_45 : decode cX5_init 45 = .ok (.dup, 1) := by decide +kernel
theorem dX5_init_46 : decode cX5_init 46 = .ok (.invokespecial 27, 3) := by decide +kernel
theorem dX5_init_49 : decode cX5_init 49 = .ok (.putfield 32, 3) := by decide +kernel
theorem dX5_init_52 : decode cX5_init 52 = .ok (.return_, 1) := by decide +kernel
theorem dX5_addTown_0 : decode cX5_addTown 0 = .ok (.aload_n 0, 1) := by decide +kernel
theorem dX5_addTown_1 : decode cX5_addTown 1 = .ok (.getfield 35, 3) := by decide +kernel
theorem dX5_addTown_4 : decode cX5_addTown 4 = .ok (.bipush 10, 2) := by decide +kernel
theorem dX5_addTown_6 : decode cX5_addTown 6 = .ok (.if_icmp .lt 13, 3) := by decide +kernel
theorem dX5_addTown_9 : decode cX5_addTown 9 = .ok (.new 39, 3) := by decide +kernel
theorem dX5_addTown_12 : decode cX5_addTown 12 = .ok (.dup, 1) := by decide +kernel
theorem dX5_addTown_13 : decode cX5_addTown 13 = .ok (.ldc 41, 2) := by decide +kernel
theorem dX5_addTown_15 : decode cX5_addTown 15 = .ok (.invokespecial 43, 3) := by decide +kernel
theorem dX5_addTown_18 : decode cX5_addTown 18 = .ok (.athrow, 1) := by decide +kernel
theorem dX5_addTown_19 : decode cX5_addTown 19 = .ok (.aload_n 0, 1) := by decide +kernel
theorem dX5_addTown_20 : decode cX5_addTown 20 = .ok (.dup, 1) := by decide +kernel
theorem dX5_addTown_21 : decode cX5_addTown 21 = .ok (.getfield 35, 3) := by decide +kernel
theorem dX5_addTown_24 : decode cX5_addTown 24 = .ok (.iconst 1, 1) := by decide +kernel
theorem dX5_addTown_25 : decode cX5_addTown 25 = .ok (.iadd, 1) := by decide +kernel
theorem dX5_addTown_26 : decode cX5_addTown 26 = .ok (.putfield 35, 3) := by decide +kernel
theorem dX5_addTown_29 : decode cX5_addTown 29 = .ok (.aload_n 0, 1) := by decide +kernel
theorem dX5_addTown_30 : decode cX5_addTown 30 = .ok (.getfield 35, 3) := by decide +kernel
theorem dX5_addTown_33 : decode cX5_addTown 33 = .ok (.iconst 1, 1) := by decide +kernel
theorem dX5_addTown_34 : decode cX5_addTown 34 = .ok (.isub, 1) := by decide +kernel
theorem dX5_addTown_35 : decode cX5_addTown 35 = .ok (.ireturn, 1) := by decide +kernel
theorem dX5_build_0 : decode cX5_build 0 = .ok (.aload_n 0, 1) := by decide +kernel
theorem dX5_build_1 : decode cX5_build 1 = .ok (.iload_n 1, 1) := by decide +kernel
theorem dX5_build_2 : decode cX5_build 2 = .ok (.invokevirtual 46, 3) := by decide +kernel
theorem dX5_build_5 : decode cX5_build 5 = .ok (.aload_n 0, 1) := by decide +kernel
theorem dX5_build_6 : decode cX5_build 6 = .ok (.iload_n 2, 1) := by decide +kernel
theorem dX5_build_7 : decode cX5_build 7 = .ok (.invokevirtual 46, 3) := by decide +kernel
theorem dX5_build_10 : decode cX5_build 10 = .ok (.iload_n 1, 1) := by decide +kernel
theorem dX5_build_11 : decode cX5_build 11 = .ok (.iload_n 2, 1) := by decide +kernel
theorem dX5_build_12 : decode cX5_build 12 = .ok (.if_icmp .ne 13, 3) := by decide +kernel
theorem dX5_build_15 : decode cX5_build 15 = .ok (.new 50, 3) := by decide +kernel
theorem dX5_build_18 : decode cX5_build 18 = .ok (.dup, 1) := by decide +kernel
theorem dX5_build_19 : decode cX5_build 19 = .ok (.ldc 52, 2) := by decide +kernel
theorem dX5_build_21 : decode cX5_build 21 = .ok (.invokespecial 54, 3) := by decide +kernel
theorem dX5_build_24 : decode cX5_build 24 = .ok (.athrow, 1) := by decide +kernel
theorem dX5_build_25 : decode cX5_build 25 = .ok (.iload_n 3, 1) := by decide +kernel
theorem dX5_build_26 : decode cX5_build 26 = .ok (.iconst 1, 1) := by decide +kernel
theorem dX5_build_27 : decode cX5_build 27 = .ok (.bipush 9, 2) := by decide +kernel
theorem dX5_build_29 : decode cX5_build 29 = .ok (.invokestatic 55, 3) := by decide +kernel
theorem dX5_build_32 : decode cX5_build 32 = .ok (.iload 4, 2) := by decide +kernel
theorem dX5_build_34 : decode cX5_build 34 = .ok (.iconst 0, 1) := by decide +kernel
theorem dX5_build_35 : decode cX5_build 35 = .ok (.bipush 20, 2) := by decide +kernel
theorem dX5_build_37 : decode cX5_build 37 = .ok (.invokestatic 55, 3) := by decide +kernel
theorem dX5_build_40 : decode cX5_build 40 = .ok (.iload 5, 2) := by decide +kernel
theorem dX5_build_42 : decode cX5_build 42 = .ok (.iconst 0, 1) := by decide +kernel
theorem dX5_build_43 : decode cX5_build 43 = .ok (.bipush 30, 2) := by decide +kernel
theorem dX5_build_45 : decode cX5_build 45 = .ok (.invokestatic 55, 3) := by decide +kernel
theorem dX5_build_48 : decode cX5_build 48 = .ok (.iload 6, 2) := by decide +kernel
theorem dX5_build_50 : decode cX5_build 50 = .ok (.iconst 0, 1) := by decide +kernel
theorem dX5_build_51 : decode cX5_build 51 = .ok (.bipush 9, 2) := by decide +kernel
theorem dX5_build_53 : decode cX5_build 53 = .ok (.invokestatic 55, 3) := by decide +kernel
theorem dX5_build_56 : decode cX5_build 56 = .ok (.aload_n 0, 1) := by decide +kernel
theorem dX5_build_57 : decode cX5_build 57 = .ok (.getfield 10, 3) := by decide +kernel
theorem dX5_build_60 : decode cX5_build 60 = .ok (.iload_n 1, 1) := by decide +kernel
theorem dX5_build_61 : decode cX5_build 61 = .ok (.iload_n 2, 1) := by decide +kernel
theorem dX5_build_62 : decode cX5_build 62 = .ok (.invokevirtual 59, 3) := by decide +kernel
theorem dX5_build_65 : decode cX5_build 65 = .ok (.ifnull 13, 3) := by decide +kernel
theorem dX5_build_68 : decode cX5_build 68 = .ok (.new 39, 3) := by decide +kernel
theorem dX5_build_71 : decode cX5_build 71 = .ok (.dup, 1) := by decide +kernel
theorem dX5_build_72 : decode cX5_build 72 = .ok (.ldc 63, 2) := by decide +kernel
theorem dX5_build_74 : decode cX5_build 74 = .ok (.invokespecial 43, 3) := by decide +kernel
theorem dX5_build_77 : decode cX5_build 77 = .ok (.athrow, 1) := by decide +kernel
theorem dX5_build_78 : decode cX5_build 78 = .ok (.aload_n 0, 1) := by decide +kernel
theorem dX5_build_79 : decode cX5_build 79 = .ok (.getfield 10, 3) := by decide +kernel
theorem dX5_build_82 : decode cX5_build 82 = .ok (.iload_n 1, 1) := by decide +kernel
theorem dX5_build_83 : decode cX5_build 83 = .ok (.iload_n 2, 1) := by decide +kernel
theorem dX5_build_84 : decode cX5_build 84 = .ok (.new 65, 3) := by decide +kernel
theorem dX5_build_87 : decode cX5_build 87 = .ok (.dup, 1) := by decide +kernel
theorem dX5_build_88 : decode cX5_build 88 = .ok (.iload_n 3, 1) := by decide +kernel
theorem dX5_build_89 : decode cX5_build 89 = .ok (.iload 4, 2) := by decide +kernel
theorem dX5_build_91 : decode cX5_build 91 = .ok (.iload 5, 2) := by decide +kernel
theorem dX5_build_93 : decode cX5_build 93 = .ok (.iload 6, 2) := by decide +kernel
theorem dX5_build_95 : decode cX5_build 95 = .ok (.invokespecial 67, 3) := by decide +kernel
theorem dX5_build_98 : decode cX5_build 98 = .ok (.invokevirtual 70, 3) := by decide +kernel
theorem dX5_build_101 : decode cX5_build 101 = .ok (.aload_n 0, 1) := by decide +kernel
theorem dX5_build_102 : decode cX5_build 102 = .ok (.dup, 1) := by decide +kernel
theorem dX5_build_103 : decode cX5_build 103 = .ok (.getfield 74, 3) := by decide +kernel
theorem dX5_build_106 : decode cX5_build 106 = .ok (.iconst 1, 1) := by decide +kernel
theorem dX5_build_107 : decode cX5_build 107 = .ok (.iadd, 1) := by decide +kernel
theorem dX5_build_108 : decode cX5_build 108 = .ok (.putfield 74, 3) := by decide +kernel
theorem dX5_build_111 : decode cX5_build 111 = .ok (.aload_n 0, 1) := by decide +kernel
theorem dX5_build_112 : decode cX5_build 112 = .ok (.getfield 74, 3) := by decide +kernel
theorem dX5_build_115 : decode cX5_build 115 = .ok (.ireturn, 1) := by decide +kernel
theorem dX5_road_0 : decode cX5_road 0 = .ok (.aload_n 0, 1) := by decide +kernel
theorem dX5_road_1 : decode cX5_road 1 = .ok (.iload_n 1, 1) := by decide +kernel
theorem dX5_road_2 : decode cX5_road 2 = .ok (.invokevirtual 46, 3) := by decide +kernel
theorem dX5_road_5 : decode cX5_road 5 = .ok (.aload_n 0, 1) := by decide +kernel
theorem dX5_road_6 : decode cX5_road 6 = .ok (.iload_n 2, 1) := by decide +kernel
theorem dX5_road_7 : decode cX5_road 7 = .ok (.invokevirtual 46, 3) := by decide +kernel
theorem dX5_road_10 : decode cX5_road 10 = .ok (.iload_n 3, 1) := by decide +kernel
theorem dX5_road_11 : decode cX5_road 11 = .ok (.bipush 6, 2) := by decide +kernel
theorem dX5_road_13 : decode cX5_road 13 = .ok (.invokestatic 77, 3) := by decide +kernel
theorem dX5_road_16 : decode cX5_road 16 = .ok (.aload_n 0, 1) := by decide +kernel
theorem dX5_road_17 : decode cX5_road 17 = .ok (.getfield 10, 3) := by decide +kernel
theorem dX5_road_20 : decode cX5_road 20 = .ok (.iload_n 1, 1) := by decide +kernel
theorem dX5_road_21 : decode cX5_road 21 = .ok (.iload_n 2, 1) := by decide +kernel
theorem dX5_road_22 : decode cX5_road 22 = .ok (.invokevirtual 59, 3) := by decide +kernel
theorem dX5_road_25 : decode cX5_road 25 = .ok (.astore 4, 2) := by decide +kernel
theorem dX5_road_27 : decode cX5_road 27 = .ok (.aload 4, 2) := by decide +kernel
theorem dX5_road_29 : decode cX5_road 29 = .ok (.ifnonnull 7, 3) := by decide +kernel
theorem dX5_road_32 : decode cX5_road 32 = .ok (.iconst 0, 1) := by decide +kernel
theorem dX5_road_33 : decode cX5_road 33 = .ok (.goto 9, 3) := by decide +kernel
theorem dX5_road_36 : decode cX5_road 36 = .ok (.aload 4, 2) := by decide +kernel
theorem dX5_road_38 : decode cX5_road 38 = .ok (.iload_n 3, 1) := by decide +kernel
theorem dX5_road_39 : decode cX5_road 39 = .ok (.invokevirtual 81, 3) := by decide +kernel
theorem dX5_road_42 : decode cX5_road 42 = .ok (.ireturn, 1) := by decide +kernel
theorem dX5_makeUp_0 : decode cX5_makeUp 0 = .ok (.aload_n 0, 1) := by decide +kernel
theorem dX5_makeUp_1 : decode cX5_makeUp 1 = .ok (.iload_n 1, 1) := by decide +kernel
theorem dX5_makeUp_2 : decode cX5_makeUp 2 = .ok (.invokevirtual 46, 3) := by decide +kernel
theorem dX5_makeUp_5 : decode cX5_makeUp 5 = .ok (.iload_n 2, 1) := by decide +kernel
theorem dX5_makeUp_6 : decode cX5_makeUp 6 = .ok (.iconst 1, 1) := by decide +kernel
theorem dX5_makeUp_7 : decode cX5_makeUp 7 = .ok (.bipush 30, 2) := by decide +kernel
theorem dX5_makeUp_9 : decode cX5_makeUp 9 = .ok (.invokestatic 55, 3) := by decide +kernel
theorem dX5_makeUp_12 : decode cX5_makeUp 12 = .ok (.iload_n 3, 1) := by decide +kernel
theorem dX5_makeUp_13 : decode cX5_makeUp 13 = .ok (.iconst 0, 1) := by decide +kernel
theorem dX5_makeUp_14 : decode cX5_makeUp 14 = .ok (.iconst 5, 1) := by decide +kernel
theorem dX5_makeUp_15 : decode cX5_makeUp 15 = .ok (.invokestatic 55, 3) := by decide +kernel
theorem dX5_makeUp_18 : decode cX5_makeUp 18 = .ok (.aload_n 0, 1) := by decide +kernel
theorem dX5_makeUp_19 : decode cX5_makeUp 19 = .ok (.getfield 28, 3) := by decide +kernel
theorem dX5_makeUp_22 : decode cX5_makeUp 22 = .ok (.invokevirtual 85, 3) := by decide +kernel
theorem dX5_makeUp_25 : decode cX5_makeUp 25 = .ok (.bipush 60, 2) := by decide +kernel
theorem dX5_makeUp_27 : decode cX5_makeUp 27 = .ok (.if_icmp .lt 13, 3) := by decide +kernel
theorem dX5_makeUp_30 : decode cX5_makeUp 30 = .ok (.new 39, 3) := by decide +kernel
theorem dX5_makeUp_33 : decode cX5_makeUp 33 = .ok (.dup, 1) := by decide +kernel
theorem dX5_makeUp_34 : decode cX5_makeUp 34 = .ok (.ldc 89, 2) := by decide +kernel
theorem dX5_makeUp_36 : decode cX5_makeUp 36 = .ok (.invokespecial 43, 3) := by decide +kernel
theorem dX5_makeUp_39 : decode cX5_makeUp 39 = .ok (.athrow, 1) := by decide +kernel
theorem dX5_makeUp_40 : decode cX5_makeUp 40 = .ok (.aload_n 0, 1) := by decide +kernel
theorem dX5_makeUp_41 : decode cX5_makeUp 41 = .ok (.getfield 28, 3) := by decide +kernel
theorem dX5_makeUp_44 : decode cX5_makeUp 44 = .ok (.invokevirtual 85, 3) := by decide +kernel
theorem dX5_makeUp_47 : decode cX5_makeUp 47 = .ok (.istore 4, 2) := by decide +kernel
theorem dX5_makeUp_49 : decode cX5_makeUp 49 = .ok (.aload_n 0, 1) := by decide +kernel
theorem dX5_makeUp_50 : decode cX5_makeUp 50 = .ok (.getfield 28, 3) := by decide +kernel
theorem dX5_makeUp_53 : decode cX5_makeUp 53 = .ok (.new 91, 3) := by decide +kernel
theorem dX5_makeUp_56 : decode cX5_makeUp 56 = .ok (.dup, 1) := by decide +kernel
theorem dX5_makeUp_57 : decode cX5_makeUp 57 = .ok (.iload 4, 2) := by decide +kernel
theorem dX5_makeUp_59 : decode cX5_makeUp 59 = .ok (.iload 4, 2) := by decide +kernel
theorem dX5_makeUp_61 : decode cX5_makeUp 61 = .ok (.iload_n 2, 1) := by decide +kernel
theorem dX5_makeUp_62 : decode cX5_makeUp 62 = .ok (.iconst 0, 1) := by decide +kernel
theorem dX5_makeUp_63 : decode cX5_makeUp 63 = .ok (.iload_n 3, 1) := by decide +kernel
theorem dX5_makeUp_64 : decode cX5_makeUp 64 = .ok (.iload_n 1, 1) := by decide +kernel
theorem dX5_makeUp_65 : decode cX5_makeUp 65 = .ok (.invokespecial 93, 3) := by decide +kernel
theorem dX5_makeUp_68 : decode cX5_makeUp 68 = .ok (.invokevirtual 96, 3) := by decide +kernel
theorem dX5_makeUp_71 : decode cX5_makeUp 71 = .ok (.pop, 1) := by decide +kernel
theorem dX5_makeUp_72 : decode cX5_makeUp 72 = .ok (.iload 4, 2) := by decide +kernel
theorem dX5_makeUp_74 : decode cX5_makeUp 74 = .ok (.ireturn, 1) := by decide +kernel
theorem dX5_rumour_0 : decode cX5_rumour 0 = .ok (.aload_n 0, 1) := by decide +kernel
theorem dX5_rumour_1 : decode cX5_rumour 1 = .ok (.iload_n 1, 1) := by decide +kernel
theorem dX5_rumour_2 : decode cX5_rumour 2 = .ok (.invokevirtual 100, 3) := by decide +kernel
theorem dX5_rumour_5 : decode cX5_rumour 5 = .ok (.astore_n 3, 1) := by decide +kernel
theorem dX5_rumour_6 : decode cX5_rumour 6 = .ok (.iload_n 2, 1) := by decide +kernel
theorem dX5_rumour_7 : decode cX5_rumour 7 = .ok (.bipush 6, 2) := by decide +kernel
theorem dX5_rumour_9 : decode cX5_rumour 9 = .ok (.invokestatic 77, 3) := by decide +kernel
theorem dX5_rumour_12 : decode cX5_rumour 12 = .ok (.aload_n 3, 1) := by decide +kernel
theorem dX5_rumour_13 : decode cX5_rumour 13 = .ok (.iload_n 2, 1) := by decide +kernel
theorem dX5_rumour_14 : decode cX5_rumour 14 = .ok (.invokevirtual 104, 3) := by decide +kernel
theorem dX5_rumour_17 : decode cX5_rumour 17 = .ok (.ireturn, 1) := by decide +kernel
theorem dX5_town_0 : decode cX5_town 0 = .ok (.aload_n 0, 1) := by decide +kernel
theorem dX5_town_1 : decode cX5_town 1 = .ok (.iload_n 1, 1) := by decide +kernel
theorem dX5_town_2 : decode cX5_town 2 = .ok (.invokevirtual 46, 3) := by decide +kernel
theorem dX5_town_5 : decode cX5_town 5 = .ok (.iload_n 2, 1) := by decide +kernel
theorem dX5_town_6 : decode cX5_town 6 = .ok (.iconst 3, 1) := by decide +kernel
theorem dX5_town_7 : decode cX5_town 7 = .ok (.invokestatic 77, 3) := by decide +kernel
theorem dX5_town_10 : decode cX5_town 10 = .ok (.iload_n 2, 1) := by decide +kernel
theorem dX5_town_11 : decode cX5_town 11 = .ok (.tableswitch 43 0 2 #[25, 31, 37], 25) := by decide +kernel
theorem dX5_town_36 : decode cX5_town 36 = .ok (.aload_n 0, 1) := by decide +kernel
theorem dX5_town_37 : decode cX5_town 37 = .ok (.iload_n 1, 1) := by decide +kernel
theorem dX5_town_38 : decode cX5_town 38 = .ok (.invokevirtual 105, 3) := by decide +kernel
theorem dX5_town_41 : decode cX5_town 41 = .ok (.ireturn, 1) := by decide +kernel
theorem dX5_town_42 : decode cX5_town 42 = .ok (.aload_n 0, 1) := by decide +kernel
theorem dX5_town_43 : decode cX5_town 43 = .ok (.iload_n 1, 1) := by decide +kernel
theorem dX5_town_44 : decode cX5_town 44 = .ok (.invokevirtual 108, 3) := by decide +kernel
theorem dX5_town_47 : decode cX5_town 47 = .ok (.ireturn, 1) := by decide +kernel
theorem dX5_town_48 : decode cX5_town 48 = .ok (.aload_n 0, 1) := by decide +kernel
theorem dX5_town_49 : decode cX5_town 49 = .ok (.iload_n 1, 1) := by decide +kernel
theorem dX5_town_50 : decode cX5_town 50 = .ok (.invokevirtual 111, 3) := by decide +kernel
theorem dX5_town_53 : decode cX5_town 53 = .ok (.ireturn, 1) := by decide +kernel
theorem dX5_town_54 : decode cX5_town 54 = .ok (.aload_n 0, 1) := by decide +kernel
theorem dX5_town_55 : decode cX5_town 55 = .ok (.iload_n 1, 1) := by decide +kernel
theorem dX5_town_56 : decode cX5_town 56 = .ok (.invokevirtual 114, 3) := by decide +kernel
theorem dX5_town_59 : decode cX5_town 59 = .ok (.ireturn, 1) := by decide +kernel
theorem dX5_heard_0 : decode cX5_heard 0 = .ok (.aload_n 0, 1) := by decide +kernel
theorem dX5_heard_1 : decode cX5_heard 1 = .ok (.iload_n 1, 1) := by decide +kernel
theorem dX5_heard_2 : decode cX5_heard 2 = .ok (.invokevirtual 46, 3) := by decide +kernel
theorem dX5_heard_5 : decode cX5_heard 5 = .ok (.aload_n 0, 1) := by decide +kernel
theorem dX5_heard_6 : decode cX5_heard 6 = .ok (.iload_n 1, 1) := by decide +kernel
theorem dX5_heard_7 : decode cX5_heard 7 = .ok (.aload_n 0, 1) := by decide +kernel
theorem dX5_heard_8 : decode cX5_heard 8 = .ok (.iload_n 2, 1) := by decide +kernel
theorem dX5_heard_9 : decode cX5_heard 9 = .ok (.invokevirtual 100, 3) := by decide +kernel
theorem dX5_heard_12 : decode cX5_heard 12 = .ok (.getfield 117, 3) := by decide +kernel
theorem dX5_heard_15 : decode cX5_heard 15 = .ok (.invokevirtual 120, 3) := by decide +kernel
theorem dX5_heard_18 : decode cX5_heard 18 = .ok (.astore_n 3, 1) := by decide +kernel
theorem dX5_heard_19 : decode cX5_heard 19 = .ok (.aload_n 3, 1) := by decide +kernel
theorem dX5_heard_20 : decode cX5_heard 20 = .ok (.ifnonnull 7, 3) := by decide +kernel
theorem dX5_heard_23 : decode cX5_heard 23 = .ok (.iconst (-1), 1) := by decide +kernel
theorem dX5_heard_24 : decode cX5_heard 24 = .ok (.goto 7, 3) := by decide +kernel
theorem dX5_heard_27 : decode cX5_heard 27 = .ok (.aload_n 3, 1) := by decide +kernel
theorem dX5_heard_28 : decode cX5_heard 28 = .ok (.getfield 124, 3) := by decide +kernel
theorem dX5_heard_31 : decode cX5_heard 31 = .ok (.ireturn, 1) := by decide +kernel
theorem dX5_addCarrier_0 : decode cX5_addCarrier 0 = .ok (.aload_n 0, 1) := by decide +kernel
theorem dX5_addCarrier_1 : decode cX5_addCarrier 1 = .ok (.iload_n 1, 1) := by decide +kernel
theorem dX5_addCarrier_2 : decode cX5_addCarrier 2 = .ok (.invokevirtual 46, 3) := by decide +kernel
theorem dX5_addCarrier_5 : decode cX5_addCarrier 5 = .ok (.iload_n 2, 1) := by decide +kernel
theorem dX5_addCarrier_6 : decode cX5_addCarrier 6 = .ok (.iconst 0, 1) := by decide +kernel
theorem dX5_addCarrier_7 : decode cX5_addCarrier 7 = .ok (.ldc 127, 2) := by decide +kernel
theorem dX5_addCarrier_9 : decode cX5_addCarrier 9 = .ok (.invokestatic 55, 3) := by decide +kernel
theorem dX5_addCarrier_12 : decode cX5_addCarrier 12 = .ok (.aload_n 0, 1) := by decide +kernel
theorem dX5_addCarrier_13 : decode cX5_addCarrier 13 = .ok (.getfield 32, 3) := by decide +kernel
theorem dX5_addCarrier_16 : decode cX5_addCarrier 16 = .ok (.invokevirtual 85, 3) := by decide +kernel
theorem dX5_addCarrier_19 : decode cX5_addCarrier 19 = .ok (.bipush 8, 2) := by decide +kernel
theorem dX5_addCarrier_21 : decode cX5_addCarrier 21 = .ok (.if_icmp .lt 13, 3) := by decide +kernel
theorem dX5_addCarrier_24 : decode cX5_addCarrier 24 = .ok (.new 39, 3) := by decide +kernel
theorem dX5_addCarrier_27 : decode cX5_addCarrier 27 = .ok (.dup, 1) := by decide +kernel
theorem dX5_addCarrier_28 : decode cX5_addCarrier 28 = .ok (.ldc 128, 2) := by decide +kernel
theorem dX5_addCarrier_30 : decode cX5_addCarrier 30 = .ok (.invokespecial 43, 3) := by decide +kernel
theorem dX5_addCarrier_33 : decode cX5_addCarrier 33 = .ok (.athrow, 1) := by decide +kernel
theorem dX5_addCarrier_34 : decode cX5_addCarrier 34 = .ok (.aload_n 0, 1) := by decide +kernel
theorem dX5_addCarrier_35 : decode cX5_addCarrier 35 = .ok (.getfield 32, 3) := by decide +kernel
theorem dX5_addCarrier_38 : decode cX5_addCarrier 38 = .ok (.invokevirtual 85, 3) := by decide +kernel
theorem dX5_addCarrier_41 : decode cX5_addCarrier 41 = .ok (.istore_n 3, 1) := by decide +kernel
theorem dX5_addCarrier_42 : decode cX5_addCarrier 42 = .ok (.aload_n 0, 1) := by decide +kernel
theorem dX5_addCarrier_43 : decode cX5_addCarrier 43 = .ok (.getfield 32, 3) := by decide +kernel
theorem dX5_addCarrier_46 : decode cX5_addCarrier 46 = .ok (.new 130, 3) := by decide +kernel
theorem dX5_addCarrier_49 : decode cX5_addCarrier 49 = .ok (.dup, 1) := by decide +kernel
theorem dX5_addCarrier_50 : decode cX5_addCarrier 50 = .ok (.iload_n 3, 1) := by decide +kernel
theorem dX5_addCarrier_51 : decode cX5_addCarrier 51 = .ok (.iload_n 1, 1) := by decide +kernel
theorem dX5_addCarrier_52 : decode cX5_addCarrier 52 = .ok (.iload_n 2, 1) := by decide +kernel
theorem dX5_addCarrier_53 : decode cX5_addCarrier 53 = .ok (.invokespecial 132, 3) := by decide +kernel
theorem dX5_addCarrier_56 : decode cX5_addCarrier 56 = .ok (.invokevirtual 96, 3) := by decide +kernel
theorem dX5_addCarrier_59 : decode cX5_addCarrier 59 = .ok (.pop, 1) := by decide +kernel
theorem dX5_addCarrier_60 : decode cX5_addCarrier 60 = .ok (.iload_n 3, 1) := by decide +kernel
theorem dX5_addCarrier_61 : decode cX5_addCarrier 61 = .ok (.ireturn, 1) := by decide +kernel
theorem dX5_take_0 : decode cX5_take 0 = .ok (.aload_n 0, 1) := by decide +kernel
theorem dX5_take_1 : decode cX5_take 1 = .ok (.iload_n 1, 1) := by decide +kernel
theorem dX5_take_2 : decode cX5_take 2 = .ok (.invokevirtual 134, 3) := by decide +kernel
theorem dX5_take_5 : decode cX5_take 5 = .ok (.astore_n 3, 1) := by decide +kernel
theorem dX5_take_6 : decode cX5_take 6 = .ok (.aload_n 0, 1) := by decide +kernel
theorem dX5_take_7 : decode cX5_take 7 = .ok (.iload_n 2, 1) := by decide +kernel
theorem dX5_take_8 : decode cX5_take 8 = .ok (.invokevirtual 100, 3) := by decide +kernel
theorem dX5_take_11 : decode cX5_take 11 = .ok (.astore 4, 2) := by decide +kernel
theorem dX5_take_13 : decode cX5_take 13 = .ok (.aload_n 3, 1) := by decide +kernel
theorem dX5_take_14 : decode cX5_take 14 = .ok (.invokestatic 138, 3) := by decide +kernel
theorem dX5_take_17 : decode cX5_take 17 = .ok (.aload 4, 2) := by decide +kernel
theorem dX5_take_19 : decode cX5_take 19 = .ok (.getfield 142, 3) := by decide +kernel
theorem dX5_take_22 : decode cX5_take 22 = .ok (.aload_n 3, 1) := by decide +kernel
theorem dX5_take_23 : decode cX5_take 23 = .ok (.getfield 145, 3) := by decide +kernel
theorem dX5_take_26 : decode cX5_take 26 = .ok (.if_icmp .eq 13, 3) := by decide +kernel
theorem dX5_take_29 : decode cX5_take 29 = .ok (.new 39, 3) := by decide +kernel
theorem dX5_take_32 : decode cX5_take 32 = .ok (.dup, 1) := by decide +kernel
theorem dX5_take_33 : decode cX5_take 33 = .ok (.ldc 146, 2) := by decide +kernel
theorem dX5_take_35 : decode cX5_take 35 = .ok (.invokespecial 43, 3) := by decide +kernel
theorem dX5_take_38 : decode cX5_take 38 = .ok (.athrow, 1) := by decide +kernel
theorem dX5_take_39 : decode cX5_take 39 = .ok (.aload_n 0, 1) := by decide +kernel
theorem dX5_take_40 : decode cX5_take 40 = .ok (.aload_n 3, 1) := by decide +kernel
theorem dX5_take_41 : decode cX5_take 41 = .ok (.invokevirtual 148, 3) := by decide +kernel
theorem dX5_take_44 : decode cX5_take 44 = .ok (.bipush 6, 2) := by decide +kernel
theorem dX5_take_46 : decode cX5_take 46 = .ok (.if_icmp .lt 13, 3) := by decide +kernel
theorem dX5_take_49 : decode cX5_take 49 = .ok (.new 39, 3) := by decide +kernel
theorem dX5_take_52 : decode cX5_take 52 = .ok (.dup, 1) := by decide +kernel
theorem dX5_take_53 : decode cX5_take 53 = .ok (.ldc 152, 2) := by decide +kernel
theorem dX5_take_55 : decode cX5_take 55 = .ok (.invokespecial 43, 3) := by decide +kernel
theorem dX5_take_58 : decode cX5_take 58 = .ok (.athrow, 1) := by decide +kernel
theorem dX5_take_59 : decode cX5_take 59 = .ok (.aload 4, 2) := by decide +kernel
theorem dX5_take_61 : decode cX5_take 61 = .ok (.aload_n 3, 1) := by decide +kernel
theorem dX5_take_62 : decode cX5_take 62 = .ok (.invokevirtual 154, 3) := by decide +kernel
theorem dX5_take_65 : decode cX5_take 65 = .ok (.aload_n 0, 1) := by decide +kernel
theorem dX5_take_66 : decode cX5_take 66 = .ok (.aload_n 3, 1) := by decide +kernel
theorem dX5_take_67 : decode cX5_take 67 = .ok (.invokevirtual 148, 3) := by decide +kernel
theorem dX5_take_70 : decode cX5_take 70 = .ok (.ireturn, 1) := by decide +kernel
theorem dX5_leave_0 : decode cX5_leave 0 = .ok (.aload_n 0, 1) := by decide +kernel
theorem dX5_leave_1 : decode cX5_leave 1 = .ok (.iload_n 1, 1) := by decide +kernel
theorem dX5_leave_2 : decode cX5_leave 2 = .ok (.invokevirtual 134, 3) := by decide +kernel
theorem dX5_leave_5 : decode cX5_leave 5 = .ok (.astore_n 3, 1) := by decide +kernel
theorem dX5_leave_6 : decode cX5_leave 6 = .ok (.aload_n 0, 1) := by decide +kernel
theorem dX5_leave_7 : decode cX5_leave 7 = .ok (.iload_n 2, 1) := by decide +kernel
theorem dX5_leave_8 : decode cX5_leave 8 = .ok (.invokevirtual 100, 3) := by decide +kernel
theorem dX5_leave_11 : decode cX5_leave 11 = .ok (.astore 4, 2) := by decide +kernel
theorem dX5_leave_13 : decode cX5_leave 13 = .ok (.aload_n 3, 1) := by decide +kernel
theorem dX5_leave_14 : decode cX5_leave 14 = .ok (.invokestatic 138, 3) := by decide +kernel
theorem dX5_leave_17 : decode cX5_leave 17 = .ok (.aload_n 3, 1) := by decide +kernel
theorem dX5_leave_18 : decode cX5_leave 18 = .ok (.aload 4, 2) := by decide +kernel
theorem dX5_leave_20 : decode cX5_leave 20 = .ok (.invokestatic 157, 3) := by decide +kernel
theorem dX5_leave_23 : decode cX5_leave 23 = .ok (.aload 4, 2) := by decide +kernel
theorem dX5_leave_25 : decode cX5_leave 25 = .ok (.aload_n 3, 1) := by decide +kernel
theorem dX5_leave_26 : decode cX5_leave 26 = .ok (.getfield 145, 3) := by decide +kernel
theorem dX5_leave_29 : decode cX5_leave 29 = .ok (.invokevirtual 161, 3) := by decide +kernel
theorem dX5_leave_32 : decode cX5_leave 32 = .ok (.aload_n 0, 1) := by decide +kernel
theorem dX5_leave_33 : decode cX5_leave 33 = .ok (.aload_n 3, 1) := by decide +kernel
theorem dX5_leave_34 : decode cX5_leave 34 = .ok (.invokevirtual 148, 3) := by decide +kernel
theorem dX5_leave_37 : decode cX5_leave 37 = .ok (.ireturn, 1) := by decide +kernel
theorem dX5_hide_0 : decode cX5_hide 0 = .ok (.aload_n 0, 1) := by decide +kernel
theorem dX5_hide_1 : decode cX5_hide 1 = .ok (.iload_n 1, 1) := by decide +kernel
theorem dX5_hide_2 : decode cX5_hide 2 = .ok (.invokevirtual 134, 3) := by decide +kernel
theorem dX5_hide_5 : decode cX5_hide 5 = .ok (.astore 4, 2) := by decide +kernel
theorem dX5_hide_7 : decode cX5_hide 7 = .ok (.aload_n 0, 1) := by decide +kernel
theorem dX5_hide_8 : decode cX5_hide 8 = .ok (.iload_n 2, 1) := by decide +kernel
theorem dX5_hide_9 : decode cX5_hide 9 = .ok (.invokevirtual 100, 3) := by decide +kernel
theorem dX5_hide_12 : decode cX5_hide 12 = .ok (.astore 5, 2) := by decide +kernel
theorem dX5_hide_14 : decode cX5_hide 14 = .ok (.aload 4, 2) := by decide +kernel
theorem dX5_hide_16 : decode cX5_hide 16 = .ok (.aload 5, 2) := by decide +kernel
theorem dX5_hide_18 : decode cX5_hide 18 = .ok (.invokestatic 157, 3) := by decide +kernel
theorem dX5_hide_21 : decode cX5_hide 21 = .ok (.aload 5, 2) := by decide +kernel
theorem dX5_hide_23 : decode cX5_hide 23 = .ok (.iload_n 3, 1) := by decide +kernel
theorem dX5_hide_24 : decode cX5_hide 24 = .ok (.putfield 164, 3) := by decide +kernel
theorem dX5_hide_27 : decode cX5_hide 27 = .ok (.aload_n 0, 1) := by decide +kernel
theorem dX5_hide_28 : decode cX5_hide 28 = .ok (.aload 4, 2) := by decide +kernel
theorem dX5_hide_30 : decode cX5_hide 30 = .ok (.invokevirtual 168, 3) := by decide +kernel
theorem dX5_hide_33 : decode cX5_hide 33 = .ok (.ireturn, 1) := by decide +kernel
theorem dX5_tell_0 : decode cX5_tell 0 = .ok (.aload_n 0, 1) := by decide +kernel
theorem dX5_tell_1 : decode cX5_tell 1 = .ok (.iload_n 1, 1) := by decide +kernel
theorem dX5_tell_2 : decode cX5_tell 2 = .ok (.invokevirtual 134, 3) := by decide +kernel
theorem dX5_tell_5 : decode cX5_tell 5 = .ok (.astore_n 3, 1) := by decide +kernel
theorem dX5_tell_6 : decode cX5_tell 6 = .ok (.aload_n 0, 1) := by decide +kernel
theorem dX5_tell_7 : decode cX5_tell 7 = .ok (.iload_n 2, 1) := by decide +kernel
theorem dX5_tell_8 : decode cX5_tell 8 = .ok (.invokevirtual 100, 3) := by decide +kernel
theorem dX5_tell_11 : decode cX5_tell 11 = .ok (.astore 4, 2) := by decide +kernel
theorem dX5_tell_13 : decode cX5_tell 13 = .ok (.aload_n 3, 1) := by decide +kernel
theorem dX5_tell_14 : decode cX5_tell 14 = .ok (.invokestatic 138, 3) := by decide +kernel
theorem dX5_tell_17 : decode cX5_tell 17 = .ok (.aload_n 3, 1) := by decide +kernel
theorem dX5_tell_18 : decode cX5_tell 18 = .ok (.aload 4, 2) := by decide +kernel
theorem dX5_tell_20 : decode cX5_tell 20 = .ok (.invokestatic 157, 3) := by decide +kernel
theorem dX5_tell_23 : decode cX5_tell 23 = .ok (.aload 4, 2) := by decide +kernel
theorem dX5_tell_25 : decode cX5_tell 25 = .ok (.getfield 171, 3) := by decide +kernel
theorem dX5_tell_28 : decode cX5_tell 28 = .ok (.iconst 1, 1) := by decide +kernel
theorem dX5_tell_29 : decode cX5_tell 29 = .ok (.iadd, 1) := by decide +kernel
theorem dX5_tell_30 : decode cX5_tell 30 = .ok (.istore 5, 2) := by decide +kernel
theorem dX5_tell_32 : decode cX5_tell 32 = .ok (.aload_n 0, 1) := by decide +kernel
theorem dX5_tell_33 : decode cX5_tell 33 = .ok (.aload_n 3, 1) := by decide +kernel
theorem dX5_tell_34 : decode cX5_tell 34 = .ok (.getfield 145, 3) := by decide +kernel
theorem dX5_tell_37 : decode cX5_tell 37 = .ok (.aload 4, 2) := by decide +kernel
theorem dX5_tell_39 : decode cX5_tell 39 = .ok (.getfield 117, 3) := by decide +kernel
theorem dX5_tell_42 : decode cX5_tell 42 = .ok (.invokevirtual 120, 3) := by decide +kernel
theorem dX5_tell_45 : decode cX5_tell 45 = .ok (.astore 6, 2) := by decide +kernel
theorem dX5_tell_47 : decode cX5_tell 47 = .ok (.aload 6, 2) := by decide +kernel
theorem dX5_tell_49 : decode cX5_tell 49 = .ok (.ifnull 15, 3) := by decide +kernel
theorem dX5_tell_52 : decode cX5_tell 52 = .ok (.aload 6, 2) := by decide +kernel
theorem dX5_tell_54 : decode cX5_tell 54 = .ok (.getfield 171, 3) := by decide +kernel
theorem dX5_tell_57 : decode cX5_tell 57 = .ok (.iload 5, 2) := by decide +kernel
theorem dX5_tell_59 : decode cX5_tell 59 = .ok (.if_icmp .gt 5, 3) := by decide +kernel
theorem dX5_tell_62 : decode cX5_tell 62 = .ok (.iconst (-1), 1) := by decide +kernel
theorem dX5_tell_63 : decode cX5_tell 63 = .ok (.ireturn, 1) := by decide +kernel
theorem dX5_tell_64 : decode cX5_tell 64 = .ok (.aload_n 0, 1) := by decide +kernel
theorem dX5_tell_65 : decode cX5_tell 65 = .ok (.getfield 28, 3) := by decide +kernel
theorem dX5_tell_68 : decode cX5_tell 68 = .ok (.invokevirtual 85, 3) := by decide +kernel
theorem dX5_tell_71 : decode cX5_tell 71 = .ok (.bipush 60, 2) := by decide +kernel
theorem dX5_tell_73 : decode cX5_tell 73 = .ok (.if_icmp .lt 13, 3) := by decide +kernel
theorem dX5_tell_76 : decode cX5_tell 76 = .ok (.new 39, 3) := by decide +kernel
theorem dX5_tell_79 : decode cX5_tell 79 = .ok (.dup, 1) := by decide +kernel
theorem dX5_tell_80 : decode cX5_tell 80 = .ok (.ldc 89, 2) := by decide +kernel
theorem dX5_tell_82 : decode cX5_tell 82 = .ok (.invokespecial 43, 3) := by decide +kernel
theorem dX5_tell_85 : decode cX5_tell 85 = .ok (.athrow, 1) := by decide +kernel
theorem dX5_tell_86 : decode cX5_tell 86 = .ok (.iload 5, 2) := by decide +kernel
theorem dX5_tell_88 : decode cX5_tell 88 = .ok (.bipush 99, 2) := by decide +kernel
theorem dX5_tell_90 : decode cX5_tell 90 = .ok (.if_icmp .le 13, 3) := by decide +kernel
theorem dX5_tell_93 : decode cX5_tell 93 = .ok (.new 39, 3) := by decide +kernel
theorem dX5_tell_96 : decode cX5_tell 96 = .ok (.dup, 1) := by decide +kernel
theorem dX5_tell_97 : decode cX5_tell 97 = .ok (.ldc 174, 2) := by decide +kernel
theorem dX5_tell_99 : decode cX5_tell 99 = .ok (.invokespecial 43, 3) := by decide +kernel
theorem dX5_tell_102 : decode cX5_tell 102 = .ok (.athrow, 1) := by decide +kernel
theorem dX5_tell_103 : decode cX5_tell 103 = .ok (.aload_n 0, 1) := by decide +kernel
theorem dX5_tell_104 : decode cX5_tell 104 = .ok (.getfield 28, 3) := by decide +kernel
theorem dX5_tell_107 : decode cX5_tell 107 = .ok (.invokevirtual 85, 3) := by decide +kernel
theorem dX5_tell_110 : decode cX5_tell 110 = .ok (.istore 7, 2) := by decide +kernel
theorem dX5_tell_112 : decode cX5_tell 112 = .ok (.aload_n 0, 1) := by decide +kernel
theorem dX5_tell_113 : decode cX5_tell 113 = .ok (.getfield 28, 3) := by decide +kernel
theorem dX5_tell_116 : decode cX5_tell 116 = .ok (.new 91, 3) := by decide +kernel
theorem dX5_tell_119 : decode cX5_tell 119 = .ok (.dup, 1) := by decide +kernel
theorem dX5_tell_120 : decode cX5_tell 120 = .ok (.iload 7, 2) := by decide +kernel
theorem dX5_tell_122 : decode cX5_tell 122 = .ok (.aload 4, 2) := by decide +kernel
theorem dX5_tell_124 : decode cX5_tell 124 = .ok (.getfield 117, 3) := by decide +kernel
theorem dX5_tell_127 : decode cX5_tell 127 = .ok (.aload 4, 2) := by decide +kernel
theorem dX5_tell_129 : decode cX5_tell 129 = .ok (.getfield 176, 3) := by decide +kernel
theorem dX5_tell_132 : decode cX5_tell 132 = .ok (.iload 5, 2) := by decide +kernel
theorem dX5_tell_134 : decode cX5_tell 134 = .ok (.aload 4, 2) := by decide +kernel
theorem dX5_tell_136 : decode cX5_tell 136 = .ok (.getfield 179, 3) := by decide +kernel
theorem dX5_tell_139 : decode cX5_tell 139 = .ok (.aload_n 3, 1) := by decide +kernel
theorem dX5_tell_140 : decode cX5_tell 140 = .ok (.getfield 145, 3) := by decide +kernel
theorem dX5_tell_143 : decode cX5_tell 143 = .ok (.invokespecial 93, 3) := by decide +kernel
theorem dX5_tell_146 : decode cX5_tell 146 = .ok (.invokevirtual 96, 3) := by decide +kernel
theorem dX5_tell_149 : decode cX5_tell 149 = .ok (.pop, 1) := by decide +kernel
theorem dX5_tell_150 : decode cX5_tell 150 = .ok (.iload 7, 2) := by decide +kernel
theorem dX5_tell_152 : decode cX5_tell 152 = .ok (.ireturn, 1) := by decide +kernel
theorem dX5_go_0 : decode cX5_go 0 = .ok (.aload_n 0, 1) := by decide +kernel
theorem dX5_go_1 : decode cX5_go 1 = .ok (.iload_n 1, 1) := by decide +kernel
theorem dX5_go_2 : decode cX5_go 2 = .ok (.invokevirtual 134, 3) := by decide +kernel
theorem dX5_go_5 : decode cX5_go 5 = .ok (.astore 4, 2) := by decide +kernel
theorem dX5_go_7 : decode cX5_go 7 = .ok (.aload_n 0, 1) := by decide +kernel
theorem dX5_go_8 : decode cX5_go 8 = .ok (.iload_n 2, 1) := by decide +kernel
theorem dX5_go_9 : decode cX5_go 9 = .ok (.invokevirtual 46, 3) := by decide +kernel
theorem dX5_go_12 : decode cX5_go 12 = .ok (.iload_n 3, 1) := by decide +kernel
theorem dX5_go_13 : decode cX5_go 13 = .ok (.iconst 0, 1) := by decide +kernel
theorem dX5_go_14 : decode cX5_go 14 = .ok (.iconst 5, 1) := by decide +kernel
theorem dX5_go_15 : decode cX5_go 15 = .ok (.invokestatic 55, 3) := by decide +kernel
theorem dX5_go_18 : decode cX5_go 18 = .ok (.aload 4, 2) := by decide +kernel
theorem dX5_go_20 : decode cX5_go 20 = .ok (.invokestatic 138, 3) := by decide +kernel
theorem dX5_go_23 : decode cX5_go 23 = .ok (.aload_n 0, 1) := by decide +kernel
theorem dX5_go_24 : decode cX5_go 24 = .ok (.getfield 10, 3) := by decide +kernel
theorem dX5_go_27 : decode cX5_go 27 = .ok (.aload 4, 2) := by decide +kernel
theorem dX5_go_29 : decode cX5_go 29 = .ok (.getfield 145, 3) := by decide +kernel
theorem dX5_go_32 : decode cX5_go 32 = .ok (.iload_n 2, 1) := by decide +kernel
theorem dX5_go_33 : decode cX5_go 33 = .ok (.invokevirtual 59, 3) := by decide +kernel
theorem dX5_go_36 : decode cX5_go 36 = .ok (.astore 5, 2) := by decide +kernel
theorem dX5_go_38 : decode cX5_go 38 = .ok (.aload 5, 2) := by decide +kernel
theorem dX5_go_40 : decode cX5_go 40 = .ok (.ifnonnull 13, 3) := by decide +kernel
theorem dX5_go_43 : decode cX5_go 43 = .ok (.new 39, 3) := by decide +kernel
theorem dX5_go_46 : decode cX5_go 46 = .ok (.dup, 1) := by decide +kernel
theorem dX5_go_47 : decode cX5_go 47 = .ok (.ldc 182, 2) := by decide +kernel
theorem dX5_go_49 : decode cX5_go 49 = .ok (.invokespecial 43, 3) := by decide +kernel
theorem dX5_go_52 : decode cX5_go 52 = .ok (.athrow, 1) := by decide +kernel
theorem dX5_go_53 : decode cX5_go 53 = .ok (.aload_n 0, 1) := by decide +kernel
theorem dX5_go_54 : decode cX5_go 54 = .ok (.aload 4, 2) := by decide +kernel
theorem dX5_go_56 : decode cX5_go 56 = .ok (.aload 5, 2) := by decide +kernel
theorem dX5_go_58 : decode cX5_go 58 = .ok (.iload_n 3, 1) := by decide +kernel
theorem dX5_go_59 : decode cX5_go 59 = .ok (.invokevirtual 184, 3) := by decide +kernel
theorem dX5_go_62 : decode cX5_go 62 = .ok (.istore 6, 2) := by decide +kernel
theorem dX5_go_64 : decode cX5_go 64 = .ok (.iload 6, 2) := by decide +kernel
theorem dX5_go_66 : decode cX5_go 66 = .ok (.aload 4, 2) := by decide +kernel
theorem dX5_go_68 : decode cX5_go 68 = .ok (.getfield 188, 3) := by decide +kernel
theorem dX5_go_71 : decode cX5_go 71 = .ok (.if_icmp .le 13, 3) := by decide +kernel
theorem dX5_go_74 : decode cX5_go 74 = .ok (.new 39, 3) := by decide +kernel
theorem dX5_go_77 : decode cX5_go 77 = .ok (.dup, 1) := by decide +kernel
theorem dX5_go_78 : decode cX5_go 78 = .ok (.ldc 191, 2) := by decide +kernel
theorem dX5_go_80 : decode cX5_go 80 = .ok (.invokespecial 43, 3) := by decide +kernel
theorem dX5_go_83 : decode cX5_go 83 = .ok (.athrow, 1) := by decide +kernel
theorem dX5_go_84 : decode cX5_go 84 = .ok (.aload_n 0, 1) := by decide +kernel
theorem dX5_go_85 : decode cX5_go 85 = .ok (.aload 4, 2) := by decide +kernel
theorem dX5_go_87 : decode cX5_go 87 = .ok (.aload 5, 2) := by decide +kernel
theorem dX5_go_89 : decode cX5_go 89 = .ok (.aload 4, 2) := by decide +kernel
theorem dX5_go_91 : decode cX5_go 91 = .ok (.getfield 188, 3) := by decide +kernel
theorem dX5_go_94 : decode cX5_go 94 = .ok (.iload 6, 2) := by decide +kernel
theorem dX5_go_96 : decode cX5_go 96 = .ok (.isub, 1) := by decide +kernel
theorem dX5_go_97 : decode cX5_go 97 = .ok (.invokevirtual 193, 3) := by decide +kernel
theorem dX5_go_100 : decode cX5_go 100 = .ok (.istore 7, 2) := by decide +kernel
theorem dX5_go_102 : decode cX5_go 102 = .ok (.aload_n 0, 1) := by decide +kernel
theorem dX5_go_103 : decode cX5_go 103 = .ok (.aload 4, 2) := by decide +kernel
theorem dX5_go_105 : decode cX5_go 105 = .ok (.iload_n 3, 1) := by decide +kernel
theorem dX5_go_106 : decode cX5_go 106 = .ok (.invokevirtual 196, 3) := by decide +kernel
theorem dX5_go_109 : decode cX5_go 109 = .ok (.aload_n 0, 1) := by decide +kernel
theorem dX5_go_110 : decode cX5_go 110 = .ok (.aload 4, 2) := by decide +kernel
theorem dX5_go_112 : decode cX5_go 112 = .ok (.aload 5, 2) := by decide +kernel
theorem dX5_go_114 : decode cX5_go 114 = .ok (.invokevirtual 200, 3) := by decide +kernel
theorem dX5_go_117 : decode cX5_go 117 = .ok (.aload_n 0, 1) := by decide +kernel
theorem dX5_go_118 : decode cX5_go 118 = .ok (.aload 4, 2) := by decide +kernel
theorem dX5_go_120 : decode cX5_go 120 = .ok (.aload 5, 2) := by decide +kernel
theorem dX5_go_122 : decode cX5_go 122 = .ok (.iload 6, 2) := by decide +kernel
theorem dX5_go_124 : decode cX5_go 124 = .ok (.iload 7, 2) := by decide +kernel
theorem dX5_go_126 : decode cX5_go 126 = .ok (.invokevirtual 204, 3) := by decide +kernel
theorem dX5_go_129 : decode cX5_go 129 = .ok (.aload 4, 2) := by decide +kernel
theorem dX5_go_131 : decode cX5_go 131 = .ok (.iload_n 2, 1) := by decide +kernel
theorem dX5_go_132 : decode cX5_go 132 = .ok (.aload 5, 2) := by decide +kernel
theorem dX5_go_134 : decode cX5_go 134 = .ok (.getfield 208, 3) := by decide +kernel
theorem dX5_go_137 : decode cX5_go 137 = .ok (.invokevirtual 211, 3) := by decide +kernel
theorem dX5_go_140 : decode cX5_go 140 = .ok (.iload 6, 2) := by decide +kernel
theorem dX5_go_142 : decode cX5_go 142 = .ok (.iload 7, 2) := by decide +kernel
theorem dX5_go_144 : decode cX5_go 144 = .ok (.iadd, 1) := by decide +kernel
theorem dX5_go_145 : decode cX5_go 145 = .ok (.ireturn, 1) := by decide +kernel
theorem dX5_carrier_0 : decode cX5_carrier 0 = .ok (.aload_n 0, 1) := by decide +kernel
theorem dX5_carrier_1 : decode cX5_carrier 1 = .ok (.iload_n 1, 1) := by decide +kernel
theorem dX5_carrier_2 : decode cX5_carrier 2 = .ok (.invokevirtual 134, 3) := by decide +kernel
theorem dX5_carrier_5 : decode cX5_carrier 5 = .ok (.astore_n 3, 1) := by decide +kernel
theorem dX5_carrier_6 : decode cX5_carrier 6 = .ok (.iload_n 2, 1) := by decide +kernel
theorem dX5_carrier_7 : decode cX5_carrier 7 = .ok (.iconst 5, 1) := by decide +kernel
theorem dX5_carrier_8 : decode cX5_carrier 8 = .ok (.invokestatic 77, 3) := by decide +kernel
theorem dX5_carrier_11 : decode cX5_carrier 11 = .ok (.aload_n 0, 1) := by decide +kernel
theorem dX5_carrier_12 : decode cX5_carrier 12 = .ok (.aload_n 3, 1) := by decide +kernel
theorem dX5_carrier_13 : decode cX5_carrier 13 = .ok (.iload_n 2, 1) := by decide +kernel
theorem dX5_carrier_14 : decode cX5_carrier 14 = .ok (.invokevirtual 214, 3) := by decide +kernel
theorem dX5_carrier_17 : decode cX5_carrier 17 = .ok (.ireturn, 1) := by decide +kernel
theorem dX5_wouldPay_0 : decode cX5_wouldPay 0 = .ok (.aload_n 0, 1) := by decide +kernel
theorem dX5_wouldPay_1 : decode cX5_wouldPay 1 = .ok (.iload_n 1, 1) := by decide +kernel
theorem dX5_wouldPay_2 : decode cX5_wouldPay 2 = .ok (.invokevirtual 134, 3) := by decide +kernel
theorem dX5_wouldPay_5 : decode cX5_wouldPay 5 = .ok (.astore 4, 2) := by decide +kernel
theorem dX5_wouldPay_7 : decode cX5_wouldPay 7 = .ok (.aload_n 0, 1) := by decide +kernel
theorem dX5_wouldPay_8 : decode cX5_wouldPay 8 = .ok (.iload_n 2, 1) := by decide +kernel
theorem dX5_wouldPay_9 : decode cX5_wouldPay 9 = .ok (.invokevirtual 46, 3) := by decide +kernel
theorem dX5_wouldPay_12 : decode cX5_wouldPay 12 = .ok (.iload_n 3, 1) := by decide +kernel
theorem dX5_wouldPay_13 : decode cX5_wouldPay 13 = .ok (.iconst 0, 1) := by decide +kernel
theorem dX5_wouldPay_14 : decode cX5_wouldPay 14 = .ok (.iconst 5, 1) := by decide +kernel
theorem dX5_wouldPay_15 : decode cX5_wouldPay 15 = .ok (.invokestatic 55, 3) := by decide +kernel
theorem dX5_wouldPay_18 : decode cX5_wouldPay 18 = .ok (.aload 4, 2) := by decide +kernel
theorem dX5_wouldPay_20 : decode cX5_wouldPay 20 = .ok (.invokestatic 138, 3) := by decide +kernel
theorem dX5_wouldPay_23 : decode cX5_wouldPay 23 = .ok (.aload_n 0, 1) := by decide +kernel
theorem dX5_wouldPay_24 : decode cX5_wouldPay 24 = .ok (.getfield 10, 3) := by decide +kernel
theorem dX5_wouldPay_27 : decode cX5_wouldPay 27 = .ok (.aload 4, 2) := by decide +kernel
theorem dX5_wouldPay_29 : decode cX5_wouldPay 29 = .ok (.getfield 145, 3) := by decide +kernel
theorem dX5_wouldPay_32 : decode cX5_wouldPay 32 = .ok (.iload_n 2, 1) := by decide +kernel
theorem dX5_wouldPay_33 : decode cX5_wouldPay 33 = .ok (.invokevirtual 59, 3) := by decide +kernel
theorem dX5_wouldPay_36 : decode cX5_wouldPay 36 = .ok (.astore 5, 2) := by decide +kernel
theorem dX5_wouldPay_38 : decode cX5_wouldPay 38 = .ok (.aload 5, 2) := by decide +kernel
theorem dX5_wouldPay_40 : decode cX5_wouldPay 40 = .ok (.ifnonnull 5, 3) := by decide +kernel
theorem dX5_wouldPay_43 : decode cX5_wouldPay 43 = .ok (.iconst (-1), 1) := by decide +kernel
theorem dX5_wouldPay_44 : decode cX5_wouldPay 44 = .ok (.ireturn, 1) := by decide +kernel
theorem dX5_wouldPay_45 : decode cX5_wouldPay 45 = .ok (.aload_n 0, 1) := by decide +kernel
theorem dX5_wouldPay_46 : decode cX5_wouldPay 46 = .ok (.aload 4, 2) := by decide +kernel
theorem dX5_wouldPay_48 : decode cX5_wouldPay 48 = .ok (.aload 5, 2) := by decide +kernel
theorem dX5_wouldPay_50 : decode cX5_wouldPay 50 = .ok (.iload_n 3, 1) := by decide +kernel
theorem dX5_wouldPay_51 : decode cX5_wouldPay 51 = .ok (.invokevirtual 184, 3) := by decide +kernel
theorem dX5_wouldPay_54 : decode cX5_wouldPay 54 = .ok (.istore 6, 2) := by decide +kernel
theorem dX5_wouldPay_56 : decode cX5_wouldPay 56 = .ok (.iload 6, 2) := by decide +kernel
theorem dX5_wouldPay_58 : decode cX5_wouldPay 58 = .ok (.aload_n 0, 1) := by decide +kernel
theorem dX5_wouldPay_59 : decode cX5_wouldPay 59 = .ok (.aload 4, 2) := by decide +kernel
theorem dX5_wouldPay_61 : decode cX5_wouldPay 61 = .ok (.aload 5, 2) := by decide +kernel
theorem dX5_wouldPay_63 : decode cX5_wouldPay 63 = .ok (.aload 4, 2) := by decide +kernel
theorem dX5_wouldPay_65 : decode cX5_wouldPay 65 = .ok (.getfield 188, 3) := by decide +kernel
theorem dX5_wouldPay_68 : decode cX5_wouldPay 68 = .ok (.iload 6, 2) := by decide +kernel
theorem dX5_wouldPay_70 : decode cX5_wouldPay 70 = .ok (.isub, 1) := by decide +kernel
theorem dX5_wouldPay_71 : decode cX5_wouldPay 71 = .ok (.invokevirtual 193, 3) := by decide +kernel
theorem dX5_wouldPay_74 : decode cX5_wouldPay 74 = .ok (.iadd, 1) := by decide +kernel
theorem dX5_wouldPay_75 : decode cX5_wouldPay 75 = .ok (.ireturn, 1) := by decide +kernel
theorem dX5_pass_0 : decode cX5_pass 0 = .ok (.iload_n 1, 1) := by decide +kernel
theorem dX5_pass_1 : decode cX5_pass 1 = .ok (.iconst 1, 1) := by decide +kernel
theorem dX5_pass_2 : decode cX5_pass 2 = .ok (.bipush 100, 2) := by decide +kernel
theorem dX5_pass_4 : decode cX5_pass 4 = .ok (.invokestatic 55, 3) := by decide +kernel
theorem dX5_pass_7 : decode cX5_pass 7 = .ok (.aload_n 0, 1) := by decide +kernel
theorem dX5_pass_8 : decode cX5_pass 8 = .ok (.dup, 1) := by decide +kernel
theorem dX5_pass_9 : decode cX5_pass 9 = .ok (.getfield 218, 3) := by decide +kernel
theorem dX5_pass_12 : decode cX5_pass 12 = .ok (.iload_n 1, 1) := by decide +kernel
theorem dX5_pass_13 : decode cX5_pass 13 = .ok (.iadd, 1) := by decide +kernel
theorem dX5_pass_14 : decode cX5_pass 14 = .ok (.putfield 218, 3) := by decide +kernel
theorem dX5_pass_17 : decode cX5_pass 17 = .ok (.iconst 0, 1) := by decide +kernel
theorem dX5_pass_18 : decode cX5_pass 18 = .ok (.istore_n 2, 1) := by decide +kernel
theorem dX5_pass_19 : decode cX5_pass 19 = .ok (.iconst 0, 1) := by decide +kernel
theorem dX5_pass_20 : decode cX5_pass 20 = .ok (.istore_n 3, 1) := by decide +kernel
theorem dX5_pass_21 : decode cX5_pass 21 = .ok (.iload_n 3, 1) := by decide +kernel
theorem dX5_pass_22 : decode cX5_pass 22 = .ok (.aload_n 0, 1) := by decide +kernel
theorem dX5_pass_23 : decode cX5_pass 23 = .ok (.getfield 32, 3) := by decide +kernel
theorem dX5_pass_26 : decode cX5_pass 26 = .ok (.invokevirtual 85, 3) := by decide +kernel
theorem dX5_pass_29 : decode cX5_pass 29 = .ok (.if_icmp .ge 30, 3) := by decide +kernel
theorem dX5_pass_32 : decode cX5_pass 32 = .ok (.aload_n 0, 1) := by decide +kernel
theorem dX5_pass_33 : decode cX5_pass 33 = .ok (.getfield 32, 3) := by decide +kernel
theorem dX5_pass_36 : decode cX5_pass 36 = .ok (.iload_n 3, 1) := by decide +kernel
theorem dX5_pass_37 : decode cX5_pass 37 = .ok (.invokevirtual 221, 3) := by decide +kernel
theorem dX5_pass_40 : decode cX5_pass 40 = .ok (.checkcast 130, 3) := by decide +kernel
theorem dX5_pass_43 : decode cX5_pass 43 = .ok (.iload_n 1, 1) := by decide +kernel
theorem dX5_pass_44 : decode cX5_pass 44 = .ok (.invokevirtual 225, 3) := by decide +kernel
theorem dX5_pass_47 : decode cX5_pass 47 = .ok (.ifCond .eq 6, 3) := by decide +kernel
theorem dX5_pass_50 : decode cX5_pass 50 = .ok (.iinc 2 1, 3) := by decide +kernel
theorem dX5_pass_53 : decode cX5_pass 53 = .ok (.iinc 3 1, 3) := by decide +kernel
theorem dX5_pass_56 : decode cX5_pass 56 = .ok (.goto (-35), 3) := by decide +kernel
theorem dX5_pass_59 : decode cX5_pass 59 = .ok (.iload_n 2, 1) := by decide +kernel
theorem dX5_pass_60 : decode cX5_pass 60 = .ok (.ireturn, 1) := by decide +kernel
theorem dX5_count_0 : decode cX5_count 0 = .ok (.iload_n 1, 1) := by decide +kernel
theorem dX5_count_1 : decode cX5_count 1 = .ok (.bipush 10, 2) := by decide +kernel
theorem dX5_count_3 : decode cX5_count 3 = .ok (.invokestatic 77, 3) := by decide +kernel
theorem dX5_count_6 : decode cX5_count 6 = .ok (.aload_n 0, 1) := by decide +kernel
theorem dX5_count_7 : decode cX5_count 7 = .ok (.iload_n 1, 1) := by decide +kernel
theorem dX5_count_8 : decode cX5_count 8 = .ok (.invokevirtual 229, 3) := by decide +kernel
theorem dX5_count_11 : decode cX5_count 11 = .ok (.ireturn, 1) := by decide +kernel
theorem dX5_cheapest_0 : decode cX5_cheapest 0 = .ok (.aload_n 0, 1) := by decide +kernel
theorem dX5_cheapest_1 : decode cX5_cheapest 1 = .ok (.iload_n 1, 1) := by decide +kernel
theorem dX5_cheapest_2 : decode cX5_cheapest 2 = .ok (.invokevirtual 100, 3) := by decide +kernel
theorem dX5_cheapest_5 : decode cX5_cheapest 5 = .ok (.astore 5, 2) := by decide +kernel
theorem dX5_cheapest_7 : decode cX5_cheapest 7 = .ok (.aload_n 0, 1) := by decide +kernel
theorem dX5_cheapest_8 : decode cX5_cheapest 8 = .ok (.iload_n 2, 1) := by decide +kernel
theorem dX5_cheapest_9 : decode cX5_cheapest 9 = .ok (.invokevirtual 46, 3) := by decide +kernel
theorem dX5_cheapest_12 : decode cX5_cheapest 12 = .ok (.aload_n 0, 1) := by decide +kernel
theorem dX5_cheapest_13 : decode cX5_cheapest 13 = .ok (.iload_n 3, 1) := by decide +kernel
theorem dX5_cheapest_14 : decode cX5_cheapest 14 = .ok (.invokevirtual 46, 3) := by decide +kernel
theorem dX5_cheapest_17 : decode cX5_cheapest 17 = .ok (.iload 4, 2) := by decide +kernel
theorem dX5_cheapest_19 : decode cX5_cheapest 19 = .ok (.iconst 1, 1) := by decide +kernel
theorem dX5_cheapest_20 : decode cX5_cheapest 20 = .ok (.invokestatic 77, 3) := by decide +kernel
theorem dX5_cheapest_23 : decode cX5_cheapest 23 = .ok (.aload_n 0, 1) := by decide +kernel
theorem dX5_cheapest_24 : decode cX5_cheapest 24 = .ok (.getfield 21, 3) := by decide +kernel
theorem dX5_cheapest_27 : decode cX5_cheapest 27 = .ok (.aload 5, 2) := by decide +kernel
theorem dX5_cheapest_29 : decode cX5_cheapest 29 = .ok (.iload_n 2, 1) := by decide +kernel
theorem dX5_cheapest_30 : decode cX5_cheapest 30 = .ok (.iload_n 3, 1) := by decide +kernel
theorem dX5_cheapest_31 : decode cX5_cheapest 31 = .ok (.invokevirtual 232, 3) := by decide +kernel
theorem dX5_cheapest_34 : decode cX5_cheapest 34 = .ok (.istore 6, 2) := by decide +kernel
theorem dX5_cheapest_36 : decode cX5_cheapest 36 = .ok (.iload 6, 2) := by decide +kernel
theorem dX5_cheapest_38 : decode cX5_cheapest 38 = .ok (.iconst (-1), 1) := by decide +kernel
theorem dX5_cheapest_39 : decode cX5_cheapest 39 = .ok (.if_icmp .ne 5, 3) := by decide +kernel
theorem dX5_cheapest_42 : decode cX5_cheapest 42 = .ok (.iconst (-1), 1) := by decide +kernel
theorem dX5_cheapest_43 : decode cX5_cheapest 43 = .ok (.ireturn, 1) := by decide +kernel
theorem dX5_cheapest_44 : decode cX5_cheapest 44 = .ok (.iload 4, 2) := by decide +kernel
theorem dX5_cheapest_46 : decode cX5_cheapest 46 = .ok (.ifCond .ne 11, 3) := by decide +kernel
theorem dX5_cheapest_49 : decode cX5_cheapest 49 = .ok (.iload 6, 2) := by decide +kernel
theorem dX5_cheapest_51 : decode cX5_cheapest 51 = .ok (.invokestatic 236, 3) := by decide +kernel
theorem dX5_cheapest_54 : decode cX5_cheapest 54 = .ok (.goto 8, 3) := by decide +kernel
theorem dX5_cheapest_57 : decode cX5_cheapest 57 = .ok (.iload 6, 2) := by decide +kernel
theorem dX5_cheapest_59 : decode cX5_cheapest 59 = .ok (.invokestatic 239, 3) := by decide +kernel
theorem dX5_cheapest_62 : decode cX5_cheapest 62 = .ok (.ireturn, 1) := by decide +kernel
theorem dX5_spread_0 : decode cX5_spread 0 = .ok (.aload_n 0, 1) := by decide +kernel
theorem dX5_spread_1 : decode cX5_spread 1 = .ok (.iload_n 1, 1) := by decide +kernel
theorem dX5_spread_2 : decode cX5_spread 2 = .ok (.invokevirtual 100, 3) := by decide +kernel
theorem dX5_spread_5 : decode cX5_spread 5 = .ok (.getfield 117, 3) := by decide +kernel
theorem dX5_spread_8 : decode cX5_spread 8 = .ok (.istore_n 3, 1) := by decide +kernel
theorem dX5_spread_9 : decode cX5_spread 9 = .ok (.iload_n 2, 1) := by decide +kernel
theorem dX5_spread_10 : decode cX5_spread 10 = .ok (.iconst 2, 1) := by decide +kernel
theorem dX5_spread_11 : decode cX5_spread 11 = .ok (.invokestatic 77, 3) := by decide +kernel
theorem dX5_spread_14 : decode cX5_spread 14 = .ok (.iload_n 2, 1) := by decide +kernel
theorem dX5_spread_15 : decode cX5_spread 15 = .ok (.lookupswitch 37 #[(0, 25), (1, 31)], 25) := by decide +kernel
theorem dX5_spread_40 : decode cX5_spread 40 = .ok (.aload_n 0, 1) := by decide +kernel
theorem dX5_spread_41 : decode cX5_spread 41 = .ok (.iload_n 3, 1) := by decide +kernel
theorem dX5_spread_42 : decode cX5_spread 42 = .ok (.invokevirtual 242, 3) := by decide +kernel
theorem dX5_spread_45 : decode cX5_spread 45 = .ok (.ireturn, 1) := by decide +kernel
theorem dX5_spread_46 : decode cX5_spread 46 = .ok (.aload_n 0, 1) := by decide +kernel
theorem dX5_spread_47 : decode cX5_spread 47 = .ok (.iload_n 3, 1) := by decide +kernel
theorem dX5_spread_48 : decode cX5_spread 48 = .ok (.invokevirtual 245, 3) := by decide +kernel
theorem dX5_spread_51 : decode cX5_spread 51 = .ok (.ireturn, 1) := by decide +kernel
theorem dX5_spread_52 : decode cX5_spread 52 = .ok (.aload_n 0, 1) := by decide +kernel
theorem dX5_spread_53 : decode cX5_spread 53 = .ok (.iload_n 3, 1) := by decide +kernel
theorem dX5_spread_54 : decode cX5_spread 54 = .ok (.invokevirtual 248, 3) := by decide +kernel
theorem dX5_spread_57 : decode cX5_spread 57 = .ok (.ireturn, 1) := by decide +kernel
theorem dX5_hearsay_0 : decode cX5_hearsay 0 = .ok (.iconst 0, 1) := by decide +kernel
theorem dX5_hearsay_1 : decode cX5_hearsay 1 = .ok (.istore_n 1, 1) := by decide +kernel

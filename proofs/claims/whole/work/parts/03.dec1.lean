theorem dX5_hearsay_2 : decode cX5_hearsay 2 = .ok (.iconst 0, 1) := by decide +kernel
theorem dX5_hearsay_3 : decode cX5_hearsay 3 = .ok (.istore_n 2, 1) := by decide +kernel
theorem dX5_hearsay_4 : decode cX5_hearsay 4 = .ok (.iconst 0, 1) := by decide +kernel
theorem dX5_hearsay_5 : decode cX5_hearsay 5 = .ok (.istore_n 3, 1) := by decide +kernel
theorem dX5_hearsay_6 : decode cX5_hearsay 6 = .ok (.iload_n 3, 1) := by decide +kernel
theorem dX5_hearsay_7 : decode cX5_hearsay 7 = .ok (.aload_n 0, 1) := by decide +kernel
theorem dX5_hearsay_8 : decode cX5_hearsay 8 = .ok (.getfield 28, 3) := by decide +kernel
theorem dX5_hearsay_11 : decode cX5_hearsay 11 = .ok (.invokevirtual 85, 3) := by decide +kernel
theorem dX5_hearsay_14 : decode cX5_hearsay 14 = .ok (.if_icmp .ge 42, 3) := by decide +kernel
theorem dX5_hearsay_17 : decode cX5_hearsay 17 = .ok (.aload_n 0, 1) := by decide +kernel
theorem dX5_hearsay_18 : decode cX5_hearsay 18 = .ok (.getfield 28, 3) := by decide +kernel
theorem dX5_hearsay_21 : decode cX5_hearsay 21 = .ok (.iload_n 3, 1) := by decide +kernel
theorem dX5_hearsay_22 : decode cX5_hearsay 22 = .ok (.invokevirtual 221, 3) := by decide +kernel
theorem dX5_hearsay_25 : decode cX5_hearsay 25 = .ok (.checkcast 91, 3) := by decide +kernel
theorem dX5_hearsay_28 : decode cX5_hearsay 28 = .ok (.astore 4, 2) := by decide +kernel
theorem dX5_hearsay_30 : decode cX5_hearsay 30 = .ok (.aload 4, 2) := by decide +kernel
theorem dX5_hearsay_32 : decode cX5_hearsay 32 = .ok (.getfield 142, 3) := by decide +kernel
theorem dX5_hearsay_35 : decode cX5_hearsay 35 = .ok (.iconst (-1), 1) := by decide +kernel
theorem dX5_hearsay_36 : decode cX5_hearsay 36 = .ok (.if_icmp .eq 14, 3) := by decide +kernel
theorem dX5_hearsay_39 : decode cX5_hearsay 39 = .ok (.iinc 1 1, 3) := by decide +kernel
theorem dX5_hearsay_42 : decode cX5_hearsay 42 = .ok (.iload_n 2, 1) := by decide +kernel
theorem dX5_hearsay_43 : decode cX5_hearsay 43 = .ok (.aload 4, 2) := by decide +kernel
theorem dX5_hearsay_45 : decode cX5_hearsay 45 = .ok (.getfield 171, 3) := by decide +kernel
theorem dX5_hearsay_48 : decode cX5_hearsay 48 = .ok (.iadd, 1) := by decide +kernel
theorem dX5_hearsay_49 : decode cX5_hearsay 49 = .ok (.istore_n 2, 1) := by decide +kernel
theorem dX5_hearsay_50 : decode cX5_hearsay 50 = .ok (.iinc 3 1, 3) := by decide +kernel
theorem dX5_hearsay_53 : decode cX5_hearsay 53 = .ok (.goto (-47), 3) := by decide +kernel
theorem dX5_hearsay_56 : decode cX5_hearsay 56 = .ok (.iload_n 1, 1) := by decide +kernel
theorem dX5_hearsay_57 : decode cX5_hearsay 57 = .ok (.ifCond .ne 7, 3) := by decide +kernel
theorem dX5_hearsay_60 : decode cX5_hearsay 60 = .ok (.dconst 0, 1) := by decide +kernel
theorem dX5_hearsay_61 : decode cX5_hearsay 61 = .ok (.goto 8, 3) := by decide +kernel
theorem dX5_hearsay_64 : decode cX5_hearsay 64 = .ok (.iload_n 2, 1) := by decide +kernel
theorem dX5_hearsay_65 : decode cX5_hearsay 65 = .ok (.i2d, 1) := by decide +kernel
theorem dX5_hearsay_66 : decode cX5_hearsay 66 = .ok (.iload_n 1, 1) := by decide +kernel
theorem dX5_hearsay_67 : decode cX5_hearsay 67 = .ok (.i2d, 1) := by decide +kernel
theorem dX5_hearsay_68 : decode cX5_hearsay 68 = .ok (.ddiv, 1) := by decide +kernel
theorem dX5_hearsay_69 : decode cX5_hearsay 69 = .ok (.dreturn, 1) := by decide +kernel
theorem dX5_digest_0 : decode cX5_digest 0 = .ok (.ldc2_w 251, 3) := by decide +kernel
theorem dX5_digest_3 : decode cX5_digest 3 = .ok (.lstore_n 1, 1) := by decide +kernel
theorem dX5_digest_4 : decode cX5_digest 4 = .ok (.iconst 0, 1) := by decide +kernel
theorem dX5_digest_5 : decode cX5_digest 5 = .ok (.istore_n 3, 1) := by decide +kernel
theorem dX5_digest_6 : decode cX5_digest 6 = .ok (.iload_n 3, 1) := by decide +kernel
theorem dX5_digest_7 : decode cX5_digest 7 = .ok (.bipush 10, 2) := by decide +kernel
theorem dX5_digest_9 : decode cX5_digest 9 = .ok (.if_icmp .gt 22, 3) := by decide +kernel
theorem dX5_digest_12 : decode cX5_digest 12 = .ok (.lload_n 1, 1) := by decide +kernel
theorem dX5_digest_13 : decode cX5_digest 13 = .ok (.ldc2_w 253, 3) := by decide +kernel
theorem dX5_digest_16 : decode cX5_digest 16 = .ok (.lmul, 1) := by decide +kernel
theorem dX5_digest_17 : decode cX5_digest 17 = .ok (.aload_n 0, 1) := by decide +kernel
theorem dX5_digest_18 : decode cX5_digest 18 = .ok (.iload_n 3, 1) := by decide +kernel
theorem dX5_digest_19 : decode cX5_digest 19 = .ok (.invokevirtual 229, 3) := by decide +kernel
theorem dX5_digest_22 : decode cX5_digest 22 = .ok (.i2l, 1) := by decide +kernel
theorem dX5_digest_23 : decode cX5_digest 23 = .ok (.ladd, 1) := by decide +kernel
theorem dX5_digest_24 : decode cX5_digest 24 = .ok (.lstore_n 1, 1) := by decide +kernel
theorem dX5_digest_25 : decode cX5_digest 25 = .ok (.iinc 3 1, 3) := by decide +kernel
theorem dX5_digest_28 : decode cX5_digest 28 = .ok (.goto (-22), 3) := by decide +kernel
theorem dX5_digest_31 : decode cX5_digest 31 = .ok (.aload_n 0, 1) := by decide +kernel
theorem dX5_digest_32 : decode cX5_digest 32 = .ok (.lload_n 1, 1) := by decide +kernel
theorem dX5_digest_33 : decode cX5_digest 33 = .ok (.invokevirtual 255, 3) := by decide +kernel
theorem dX5_digest_36 : decode cX5_digest 36 = .ok (.lstore_n 1, 1) := by decide +kernel
theorem dX5_digest_37 : decode cX5_digest 37 = .ok (.aload_n 0, 1) := by decide +kernel
theorem dX5_digest_38 : decode cX5_digest 38 = .ok (.lload_n 1, 1) := by decide +kernel
theorem dX5_digest_39 : decode cX5_digest 39 = .ok (.invokevirtual 259, 3) := by decide +kernel
theorem dX5_digest_42 : decode cX5_digest 42 = .ok (.lstore_n 1, 1) := by decide +kernel
theorem dX5_digest_43 : decode cX5_digest 43 = .ok (.aload_n 0, 1) := by decide +kernel
theorem dX5_digest_44 : decode cX5_digest 44 = .ok (.lload_n 1, 1) := by decide +kernel
theorem dX5_digest_45 : decode cX5_digest 45 = .ok (.invokevirtual 262, 3) := by decide +kernel
theorem dX5_digest_48 : decode cX5_digest 48 = .ok (.lreturn, 1) := by decide +kernel
theorem dX5_requireWithin_0 : decode cX5_requireWithin 0 = .ok (.iload_n 0, 1) := by decide +kernel
theorem dX5_requireWithin_1 : decode cX5_requireWithin 1 = .ok (.iload_n 1, 1) := by decide +kernel
theorem dX5_requireWithin_2 : decode cX5_requireWithin 2 = .ok (.if_icmp .lt 8, 3) := by decide +kernel
theorem dX5_requireWithin_5 : decode cX5_requireWithin 5 = .ok (.iload_n 0, 1) := by decide +kernel
theorem dX5_requireWithin_6 : decode cX5_requireWithin 6 = .ok (.iload_n 2, 1) := by decide +kernel
theorem dX5_requireWithin_7 : decode cX5_requireWithin 7 = .ok (.if_icmp .le 14, 3) := by decide +kernel
theorem dX5_requireWithin_10 : decode cX5_requireWithin 10 = .ok (.new 50, 3) := by decide +kernel
theorem dX5_requireWithin_13 : decode cX5_requireWithin 13 = .ok (.dup, 1) := by decide +kernel
theorem dX5_requireWithin_14 : decode cX5_requireWithin 14 = .ok (.ldc_w 265, 3) := by decide +kernel
theorem dX5_requireWithin_17 : decode cX5_requireWithin 17 = .ok (.invokespecial 54, 3) := by decide +kernel
theorem dX5_requireWithin_20 : decode cX5_requireWithin 20 = .ok (.athrow, 1) := by decide +kernel
theorem dX5_requireWithin_21 : decode cX5_requireWithin 21 = .ok (.return_, 1) := by decide +kernel
theorem dX5_requireWhat_0 : decode cX5_requireWhat 0 = .ok (.iload_n 0, 1) := by decide +kernel
theorem dX5_requireWhat_1 : decode cX5_requireWhat 1 = .ok (.ifCond .lt 8, 3) := by decide +kernel
theorem dX5_requireWhat_4 : decode cX5_requireWhat 4 = .ok (.iload_n 0, 1) := by decide +kernel
theorem dX5_requireWhat_5 : decode cX5_requireWhat 5 = .ok (.iload_n 1, 1) := by decide +kernel
theorem dX5_requireWhat_6 : decode cX5_requireWhat 6 = .ok (.if_icmp .le 14, 3) := by decide +kernel
theorem dX5_requireWhat_9 : decode cX5_requireWhat 9 = .ok (.new 267, 3) := by decide +kernel
theorem dX5_requireWhat_12 : decode cX5_requireWhat 12 = .ok (.dup, 1) := by decide +kernel
theorem dX5_requireWhat_13 : decode cX5_requireWhat 13 = .ok (.ldc_w 269, 3) := by decide +kernel
theorem dX5_requireWhat_16 : decode cX5_requireWhat 16 = .ok (.invokespecial 271, 3) := by decide +kernel
theorem dX5_requireWhat_19 : decode cX5_requireWhat 19 = .ok (.athrow, 1) := by decide +kernel
theorem dX5_requireWhat_20 : decode cX5_requireWhat 20 = .ok (.return_, 1) := by decide +kernel
theorem dX5_requireTown_0 : decode cX5_requireTown 0 = .ok (.iload_n 1, 1) := by decide +kernel
theorem dX5_requireTown_1 : decode cX5_requireTown 1 = .ok (.ifCond .lt 11, 3) := by decide +kernel
theorem dX5_requireTown_4 : decode cX5_requireTown 4 = .ok (.iload_n 1, 1) := by decide +kernel
theorem dX5_requireTown_5 : decode cX5_requireTown 5 = .ok (.aload_n 0, 1) := by decide +kernel
theorem dX5_requireTown_6 : decode cX5_requireTown 6 = .ok (.getfield 35, 3) := by decide +kernel
theorem dX5_requireTown_9 : decode cX5_requireTown 9 = .ok (.if_icmp .lt 14, 3) := by decide +kernel
theorem dX5_requireTown_12 : decode cX5_requireTown 12 = .ok (.new 267, 3) := by decide +kernel
theorem dX5_requireTown_15 : decode cX5_requireTown 15 = .ok (.dup, 1) := by decide +kernel
theorem dX5_requireTown_16 : decode cX5_requireTown 16 = .ok (.ldc_w 272, 3) := by decide +kernel
theorem dX5_requireTown_19 : decode cX5_requireTown 19 = .ok (.invokespecial 271, 3) := by decide +kernel
theorem dX5_requireTown_22 : decode cX5_requireTown 22 = .ok (.athrow, 1) := by decide +kernel
theorem dX5_requireTown_23 : decode cX5_requireTown 23 = .ok (.return_, 1) := by decide +kernel
theorem dX5_rumourAt_0 : decode cX5_rumourAt 0 = .ok (.iload_n 1, 1) := by decide +kernel
theorem dX5_rumourAt_1 : decode cX5_rumourAt 1 = .ok (.ifCond .lt 14, 3) := by decide +kernel
theorem dX5_rumourAt_4 : decode cX5_rumourAt 4 = .ok (.iload_n 1, 1) := by decide +kernel
theorem dX5_rumourAt_5 : decode cX5_rumourAt 5 = .ok (.aload_n 0, 1) := by decide +kernel
theorem dX5_rumourAt_6 : decode cX5_rumourAt 6 = .ok (.getfield 28, 3) := by decide +kernel
theorem dX5_rumourAt_9 : decode cX5_rumourAt 9 = .ok (.invokevirtual 85, 3) := by decide +kernel
theorem dX5_rumourAt_12 : decode cX5_rumourAt 12 = .ok (.if_icmp .lt 14, 3) := by decide +kernel
theorem dX5_rumourAt_15 : decode cX5_rumourAt 15 = .ok (.new 267, 3) := by decide +kernel
theorem dX5_rumourAt_18 : decode cX5_rumourAt 18 = .ok (.dup, 1) := by decide +kernel
theorem dX5_rumourAt_19 : decode cX5_rumourAt 19 = .ok (.ldc_w 274, 3) := by decide +kernel
theorem dX5_rumourAt_22 : decode cX5_rumourAt 22 = .ok (.invokespecial 271, 3) := by decide +kernel
theorem dX5_rumourAt_25 : decode cX5_rumourAt 25 = .ok (.athrow, 1) := by decide +kernel
theorem dX5_rumourAt_26 : decode cX5_rumourAt 26 = .ok (.aload_n 0, 1) := by decide +kernel
theorem dX5_rumourAt_27 : decode cX5_rumourAt 27 = .ok (.getfield 28, 3) := by decide +kernel
theorem dX5_rumourAt_30 : decode cX5_rumourAt 30 = .ok (.iload_n 1, 1) := by decide +kernel
theorem dX5_rumourAt_31 : decode cX5_rumourAt 31 = .ok (.invokevirtual 221, 3) := by decide +kernel
theorem dX5_rumourAt_34 : decode cX5_rumourAt 34 = .ok (.checkcast 91, 3) := by decide +kernel
theorem dX5_rumourAt_37 : decode cX5_rumourAt 37 = .ok (.areturn, 1) := by decide +kernel
theorem dX5_carrierAt_0 : decode cX5_carrierAt 0 = .ok (.iload_n 1, 1) := by decide +kernel
theorem dX5_carrierAt_1 : decode cX5_carrierAt 1 = .ok (.ifCond .lt 14, 3) := by decide +kernel
theorem dX5_carrierAt_4 : decode cX5_carrierAt 4 = .ok (.iload_n 1, 1) := by decide +kernel
theorem dX5_carrierAt_5 : decode cX5_carrierAt 5 = .ok (.aload_n 0, 1) := by decide +kernel
theorem dX5_carrierAt_6 : decode cX5_carrierAt 6 = .ok (.getfield 32, 3) := by decide +kernel
theorem dX5_carrierAt_9 : decode cX5_carrierAt 9 = .ok (.invokevirtual 85, 3) := by decide +kernel
theorem dX5_carrierAt_12 : decode cX5_carrierAt 12 = .ok (.if_icmp .lt 14, 3) := by decide +kernel
theorem dX5_carrierAt_15 : decode cX5_carrierAt 15 = .ok (.new 267, 3) := by decide +kernel
theorem dX5_carrierAt_18 : decode cX5_carrierAt 18 = .ok (.dup, 1) := by decide +kernel
theorem dX5_carrierAt_19 : decode cX5_carrierAt 19 = .ok (.ldc_w 276, 3) := by decide +kernel
theorem dX5_carrierAt_22 : decode cX5_carrierAt 22 = .ok (.invokespecial 271, 3) := by decide +kernel
theorem dX5_carrierAt_25 : decode cX5_carrierAt 25 = .ok (.athrow, 1) := by decide +kernel
theorem dX5_carrierAt_26 : decode cX5_carrierAt 26 = .ok (.aload_n 0, 1) := by decide +kernel
theorem dX5_carrierAt_27 : decode cX5_carrierAt 27 = .ok (.getfield 32, 3) := by decide +kernel
theorem dX5_carrierAt_30 : decode cX5_carrierAt 30 = .ok (.iload_n 1, 1) := by decide +kernel
theorem dX5_carrierAt_31 : decode cX5_carrierAt 31 = .ok (.invokevirtual 221, 3) := by decide +kernel
theorem dX5_carrierAt_34 : decode cX5_carrierAt 34 = .ok (.checkcast 130, 3) := by decide +kernel
theorem dX5_carrierAt_37 : decode cX5_carrierAt 37 = .ok (.areturn, 1) := by decide +kernel
theorem dX5_requireInTown_0 : decode cX5_requireInTown 0 = .ok (.aload_n 0, 1) := by decide +kernel
theorem dX5_requireInTown_1 : decode cX5_requireInTown 1 = .ok (.invokevirtual 278, 3) := by decide +kernel
theorem dX5_requireInTown_4 : decode cX5_requireInTown 4 = .ok (.ifCond .eq 14, 3) := by decide +kernel
theorem dX5_requireInTown_7 : decode cX5_requireInTown 7 = .ok (.new 39, 3) := by decide +kernel
theorem dX5_requireInTown_10 : decode cX5_requireInTown 10 = .ok (.dup, 1) := by decide +kernel
theorem dX5_requireInTown_11 : decode cX5_requireInTown 11 = .ok (.ldc_w 282, 3) := by decide +kernel
theorem dX5_requireInTown_14 : decode cX5_requireInTown 14 = .ok (.invokespecial 43, 3) := by decide +kernel
theorem dX5_requireInTown_17 : decode cX5_requireInTown 17 = .ok (.athrow, 1) := by decide +kernel
theorem dX5_requireInTown_18 : decode cX5_requireInTown 18 = .ok (.return_, 1) := by decide +kernel
theorem dX5_requireHas_0 : decode cX5_requireHas 0 = .ok (.aload_n 1, 1) := by decide +kernel
theorem dX5_requireHas_1 : decode cX5_requireHas 1 = .ok (.aload_n 0, 1) := by decide +kernel
theorem dX5_requireHas_2 : decode cX5_requireHas 2 = .ok (.invokevirtual 284, 3) := by decide +kernel
theorem dX5_requireHas_5 : decode cX5_requireHas 5 = .ok (.ifCond .ne 14, 3) := by decide +kernel
theorem dX5_requireHas_8 : decode cX5_requireHas 8 = .ok (.new 39, 3) := by decide +kernel
theorem dX5_requireHas_11 : decode cX5_requireHas 11 = .ok (.dup, 1) := by decide +kernel
theorem dX5_requireHas_12 : decode cX5_requireHas 12 = .ok (.ldc_w 288, 3) := by decide +kernel
theorem dX5_requireHas_15 : decode cX5_requireHas 15 = .ok (.invokespecial 43, 3) := by decide +kernel
theorem dX5_requireHas_18 : decode cX5_requireHas 18 = .ok (.athrow, 1) := by decide +kernel
theorem dX5_requireHas_19 : decode cX5_requireHas 19 = .ok (.return_, 1) := by decide +kernel
theorem dX5_rumoursIn_0 : decode cX5_rumoursIn 0 = .ok (.iconst 0, 1) := by decide +kernel
theorem dX5_rumoursIn_1 : decode cX5_rumoursIn 1 = .ok (.istore_n 2, 1) := by decide +kernel
theorem dX5_rumoursIn_2 : decode cX5_rumoursIn 2 = .ok (.iconst 0, 1) := by decide +kernel
theorem dX5_rumoursIn_3 : decode cX5_rumoursIn 3 = .ok (.istore_n 3, 1) := by decide +kernel
theorem dX5_rumoursIn_4 : decode cX5_rumoursIn 4 = .ok (.iload_n 3, 1) := by decide +kernel
theorem dX5_rumoursIn_5 : decode cX5_rumoursIn 5 = .ok (.aload_n 0, 1) := by decide +kernel
theorem dX5_rumoursIn_6 : decode cX5_rumoursIn 6 = .ok (.getfield 28, 3) := by decide +kernel
theorem dX5_rumoursIn_9 : decode cX5_rumoursIn 9 = .ok (.invokevirtual 85, 3) := by decide +kernel
theorem dX5_rumoursIn_12 : decode cX5_rumoursIn 12 = .ok (.if_icmp .ge 30, 3) := by decide +kernel
theorem dX5_rumoursIn_15 : decode cX5_rumoursIn 15 = .ok (.aload_n 0, 1) := by decide +kernel
theorem dX5_rumoursIn_16 : decode cX5_rumoursIn 16 = .ok (.getfield 28, 3) := by decide +kernel
theorem dX5_rumoursIn_19 : decode cX5_rumoursIn 19 = .ok (.iload_n 3, 1) := by decide +kernel
theorem dX5_rumoursIn_20 : decode cX5_rumoursIn 20 = .ok (.invokevirtual 221, 3) := by decide +kernel
theorem dX5_rumoursIn_23 : decode cX5_rumoursIn 23 = .ok (.checkcast 91, 3) := by decide +kernel
theorem dX5_rumoursIn_26 : decode cX5_rumoursIn 26 = .ok (.getfield 142, 3) := by decide +kernel
theorem dX5_rumoursIn_29 : decode cX5_rumoursIn 29 = .ok (.iload_n 1, 1) := by decide +kernel
theorem dX5_rumoursIn_30 : decode cX5_rumoursIn 30 = .ok (.if_icmp .ne 6, 3) := by decide +kernel
theorem dX5_rumoursIn_33 : decode cX5_rumoursIn 33 = .ok (.iinc 2 1, 3) := by decide +kernel
theorem dX5_rumoursIn_36 : decode cX5_rumoursIn 36 = .ok (.iinc 3 1, 3) := by decide +kernel
theorem dX5_rumoursIn_39 : decode cX5_rumoursIn 39 = .ok (.goto (-35), 3) := by decide +kernel
theorem dX5_rumoursIn_42 : decode cX5_rumoursIn 42 = .ok (.iload_n 2, 1) := by decide +kernel
theorem dX5_rumoursIn_43 : decode cX5_rumoursIn 43 = .ok (.ireturn, 1) := by decide +kernel
theorem dX5_familiesIn_0 : decode cX5_familiesIn 0 = .ok (.lconst 0, 1) := by decide +kernel
theorem dX5_familiesIn_1 : decode cX5_familiesIn 1 = .ok (.lstore_n 2, 1) := by decide +kernel
theorem dX5_familiesIn_2 : decode cX5_familiesIn 2 = .ok (.iconst 0, 1) := by decide +kernel
theorem dX5_familiesIn_3 : decode cX5_familiesIn 3 = .ok (.istore 4, 2) := by decide +kernel
theorem dX5_familiesIn_5 : decode cX5_familiesIn 5 = .ok (.iload 4, 2) := by decide +kernel
theorem dX5_familiesIn_7 : decode cX5_familiesIn 7 = .ok (.aload_n 0, 1) := by decide +kernel
theorem dX5_familiesIn_8 : decode cX5_familiesIn 8 = .ok (.getfield 28, 3) := by decide +kernel
theorem dX5_familiesIn_11 : decode cX5_familiesIn 11 = .ok (.invokevirtual 85, 3) := by decide +kernel
theorem dX5_familiesIn_14 : decode cX5_familiesIn 14 = .ok (.if_icmp .ge 42, 3) := by decide +kernel
theorem dX5_familiesIn_17 : decode cX5_familiesIn 17 = .ok (.aload_n 0, 1) := by decide +kernel
theorem dX5_familiesIn_18 : decode cX5_familiesIn 18 = .ok (.getfield 28, 3) := by decide +kernel
theorem dX5_familiesIn_21 : decode cX5_familiesIn 21 = .ok (.iload 4, 2) := by decide +kernel
theorem dX5_familiesIn_23 : decode cX5_familiesIn 23 = .ok (.invokevirtual 221, 3) := by decide +kernel
theorem dX5_familiesIn_26 : decode cX5_familiesIn 26 = .ok (.checkcast 91, 3) := by decide +kernel
theorem dX5_familiesIn_29 : decode cX5_familiesIn 29 = .ok (.astore 5, 2) := by decide +kernel
theorem dX5_familiesIn_31 : decode cX5_familiesIn 31 = .ok (.aload 5, 2) := by decide +kernel
theorem dX5_familiesIn_33 : decode cX5_familiesIn 33 = .ok (.getfield 142, 3) := by decide +kernel
theorem dX5_familiesIn_36 : decode cX5_familiesIn 36 = .ok (.iload_n 1, 1) := by decide +kernel
theorem dX5_familiesIn_37 : decode cX5_familiesIn 37 = .ok (.if_icmp .ne 13, 3) := by decide +kernel
theorem dX5_familiesIn_40 : decode cX5_familiesIn 40 = .ok (.lload_n 2, 1) := by decide +kernel
theorem dX5_familiesIn_41 : decode cX5_familiesIn 41 = .ok (.lconst 1, 1) := by decide +kernel
theorem dX5_familiesIn_42 : decode cX5_familiesIn 42 = .ok (.aload 5, 2) := by decide +kernel
theorem dX5_familiesIn_44 : decode cX5_familiesIn 44 = .ok (.getfield 117, 3) := by decide +kernel
theorem dX5_familiesIn_47 : decode cX5_familiesIn 47 = .ok (.lshl, 1) := by decide +kernel
theorem dX5_familiesIn_48 : decode cX5_familiesIn 48 = .ok (.lor, 1) := by decide +kernel
theorem dX5_familiesIn_49 : decode cX5_familiesIn 49 = .ok (.lstore_n 2, 1) := by decide +kernel
theorem dX5_familiesIn_50 : decode cX5_familiesIn 50 = .ok (.iinc 4 1, 3) := by decide +kernel
theorem dX5_familiesIn_53 : decode cX5_familiesIn 53 = .ok (.goto (-48), 3) := by decide +kernel
theorem dX5_familiesIn_56 : decode cX5_familiesIn 56 = .ok (.lload_n 2, 1) := by decide +kernel
theorem dX5_familiesIn_57 : decode cX5_familiesIn 57 = .ok (.invokestatic 290, 3) := by decide +kernel
theorem dX5_familiesIn_60 : decode cX5_familiesIn 60 = .ok (.ireturn, 1) := by decide +kernel
theorem dX5_deepestIn_0 : decode cX5_deepestIn 0 = .ok (.iconst (-1), 1) := by decide +kernel
theorem dX5_deepestIn_1 : decode cX5_deepestIn 1 = .ok (.istore_n 2, 1) := by decide +kernel
theorem dX5_deepestIn_2 : decode cX5_deepestIn 2 = .ok (.iconst (-1), 1) := by decide +kernel
theorem dX5_deepestIn_3 : decode cX5_deepestIn 3 = .ok (.istore_n 3, 1) := by decide +kernel
theorem dX5_deepestIn_4 : decode cX5_deepestIn 4 = .ok (.iconst 0, 1) := by decide +kernel
theorem dX5_deepestIn_5 : decode cX5_deepestIn 5 = .ok (.istore 4, 2) := by decide +kernel
theorem dX5_deepestIn_7 : decode cX5_deepestIn 7 = .ok (.iload 4, 2) := by decide +kernel
theorem dX5_deepestIn_9 : decode cX5_deepestIn 9 = .ok (.aload_n 0, 1) := by decide +kernel
theorem dX5_deepestIn_10 : decode cX5_deepestIn 10 = .ok (.getfield 28, 3) := by decide +kernel
theorem dX5_deepestIn_13 : decode cX5_deepestIn 13 = .ok (.invokevirtual 85, 3) := by decide +kernel
theorem dX5_deepestIn_16 : decode cX5_deepestIn 16 = .ok (.if_icmp .ge 50, 3) := by decide +kernel
theorem dX5_deepestIn_19 : decode cX5_deepestIn 19 = .ok (.aload_n 0, 1) := by decide +kernel
theorem dX5_deepestIn_20 : decode cX5_deepestIn 20 = .ok (.getfield 28, 3) := by decide +kernel
theorem dX5_deepestIn_23 : decode cX5_deepestIn 23 = .ok (.iload 4, 2) := by decide +kernel
theorem dX5_deepestIn_25 : decode cX5_deepestIn 25 = .ok (.invokevirtual 221, 3) := by decide +kernel
theorem dX5_deepestIn_28 : decode cX5_deepestIn 28 = .ok (.checkcast 91, 3) := by decide +kernel
theorem dX5_deepestIn_31 : decode cX5_deepestIn 31 = .ok (.astore 5, 2) := by decide +kernel
theorem dX5_deepestIn_33 : decode cX5_deepestIn 33 = .ok (.aload 5, 2) := by decide +kernel
theorem dX5_deepestIn_35 : decode cX5_deepestIn 35 = .ok (.getfield 142, 3) := by decide +kernel
theorem dX5_deepestIn_38 : decode cX5_deepestIn 38 = .ok (.iload_n 1, 1) := by decide +kernel
theorem dX5_deepestIn_39 : decode cX5_deepestIn 39 = .ok (.if_icmp .ne 21, 3) := by decide +kernel
theorem dX5_deepestIn_42 : decode cX5_deepestIn 42 = .ok (.aload 5, 2) := by decide +kernel
theorem dX5_deepestIn_44 : decode cX5_deepestIn 44 = .ok (.getfield 171, 3) := by decide +kernel
theorem dX5_deepestIn_47 : decode cX5_deepestIn 47 = .ok (.iload_n 3, 1) := by decide +kernel
theorem dX5_deepestIn_48 : decode cX5_deepestIn 48 = .ok (.if_icmp .le 12, 3) := by decide +kernel
theorem dX5_deepestIn_51 : decode cX5_deepestIn 51 = .ok (.iload 4, 2) := by decide +kernel
theorem dX5_deepestIn_53 : decode cX5_deepestIn 53 = .ok (.istore_n 2, 1) := by decide +kernel
theorem dX5_deepestIn_54 : decode cX5_deepestIn 54 = .ok (.aload 5, 2) := by decide +kernel
theorem dX5_deepestIn_56 : decode cX5_deepestIn 56 = .ok (.getfield 171, 3) := by decide +kernel
theorem dX5_deepestIn_59 : decode cX5_deepestIn 59 = .ok (.istore_n 3, 1) := by decide +kernel
theorem dX5_deepestIn_60 : decode cX5_deepestIn 60 = .ok (.iinc 4 1, 3) := by decide +kernel
theorem dX5_deepestIn_63 : decode cX5_deepestIn 63 = .ok (.goto (-56), 3) := by decide +kernel
theorem dX5_deepestIn_66 : decode cX5_deepestIn 66 = .ok (.iload_n 2, 1) := by decide +kernel
theorem dX5_deepestIn_67 : decode cX5_deepestIn 67 = .ok (.ireturn, 1) := by decide +kernel
theorem dX5_carriersIn_0 : decode cX5_carriersIn 0 = .ok (.iconst 0, 1) := by decide +kernel
theorem dX5_carriersIn_1 : decode cX5_carriersIn 1 = .ok (.istore_n 2, 1) := by decide +kernel
theorem dX5_carriersIn_2 : decode cX5_carriersIn 2 = .ok (.iconst 0, 1) := by decide +kernel
theorem dX5_carriersIn_3 : decode cX5_carriersIn 3 = .ok (.istore_n 3, 1) := by decide +kernel
theorem dX5_carriersIn_4 : decode cX5_carriersIn 4 = .ok (.iload_n 3, 1) := by decide +kernel
theorem dX5_carriersIn_5 : decode cX5_carriersIn 5 = .ok (.aload_n 0, 1) := by decide +kernel
theorem dX5_carriersIn_6 : decode cX5_carriersIn 6 = .ok (.getfield 32, 3) := by decide +kernel
theorem dX5_carriersIn_9 : decode cX5_carriersIn 9 = .ok (.invokevirtual 85, 3) := by decide +kernel
theorem dX5_carriersIn_12 : decode cX5_carriersIn 12 = .ok (.if_icmp .ge 42, 3) := by decide +kernel
theorem dX5_carriersIn_15 : decode cX5_carriersIn 15 = .ok (.aload_n 0, 1) := by decide +kernel
theorem dX5_carriersIn_16 : decode cX5_carriersIn 16 = .ok (.getfield 32, 3) := by decide +kernel
theorem dX5_carriersIn_19 : decode cX5_carriersIn 19 = .ok (.iload_n 3, 1) := by decide +kernel
theorem dX5_carriersIn_20 : decode cX5_carriersIn 20 = .ok (.invokevirtual 221, 3) := by decide +kernel
theorem dX5_carriersIn_23 : decode cX5_carriersIn 23 = .ok (.checkcast 130, 3) := by decide +kernel
theorem dX5_carriersIn_26 : decode cX5_carriersIn 26 = .ok (.astore 4, 2) := by decide +kernel
theorem dX5_carriersIn_28 : decode cX5_carriersIn 28 = .ok (.aload 4, 2) := by decide +kernel
theorem dX5_carriersIn_30 : decode cX5_carriersIn 30 = .ok (.getfield 145, 3) := by decide +kernel
theorem dX5_carriersIn_33 : decode cX5_carriersIn 33 = .ok (.iload_n 1, 1) := by decide +kernel
theorem dX5_carriersIn_34 : decode cX5_carriersIn 34 = .ok (.if_icmp .ne 14, 3) := by decide +kernel
theorem dX5_carriersIn_37 : decode cX5_carriersIn 37 = .ok (.aload 4, 2) := by decide +kernel
theorem dX5_carriersIn_39 : decode cX5_carriersIn 39 = .ok (.invokevirtual 278, 3) := by decide +kernel
theorem dX5_carriersIn_42 : decode cX5_carriersIn 42 = .ok (.ifCond .ne 6, 3) := by decide +kernel
theorem dX5_carriersIn_45 : decode cX5_carriersIn 45 = .ok (.iinc 2 1, 3) := by decide +kernel
theorem dX5_carriersIn_48 : decode cX5_carriersIn 48 = .ok (.iinc 3 1, 3) := by decide +kernel
theorem dX5_carriersIn_51 : decode cX5_carriersIn 51 = .ok (.goto (-47), 3) := by decide +kernel
theorem dX5_carriersIn_54 : decode cX5_carriersIn 54 = .ok (.iload_n 2, 1) := by decide +kernel
theorem dX5_carriersIn_55 : decode cX5_carriersIn 55 = .ok (.ireturn, 1) := by decide +kernel
theorem dX5_leastDeepIn_0 : decode cX5_leastDeepIn 0 = .ok (.aconst_null, 1) := by decide +kernel
theorem dX5_leastDeepIn_1 : decode cX5_leastDeepIn 1 = .ok (.astore_n 3, 1) := by decide +kernel
theorem dX5_leastDeepIn_2 : decode cX5_leastDeepIn 2 = .ok (.iconst 0, 1) := by decide +kernel
theorem dX5_leastDeepIn_3 : decode cX5_leastDeepIn 3 = .ok (.istore 4, 2) := by decide +kernel
theorem dX5_leastDeepIn_5 : decode cX5_leastDeepIn 5 = .ok (.iload 4, 2) := by decide +kernel
theorem dX5_leastDeepIn_7 : decode cX5_leastDeepIn 7 = .ok (.aload_n 0, 1) := by decide +kernel
theorem dX5_leastDeepIn_8 : decode cX5_leastDeepIn 8 = .ok (.getfield 28, 3) := by decide +kernel
theorem dX5_leastDeepIn_11 : decode cX5_leastDeepIn 11 = .ok (.invokevirtual 85, 3) := by decide +kernel
theorem dX5_leastDeepIn_14 : decode cX5_leastDeepIn 14 = .ok (.if_icmp .ge 60, 3) := by decide +kernel
theorem dX5_leastDeepIn_17 : decode cX5_leastDeepIn 17 = .ok (.aload_n 0, 1) := by decide +kernel
theorem dX5_leastDeepIn_18 : decode cX5_leastDeepIn 18 = .ok (.getfield 28, 3) := by decide +kernel
theorem dX5_leastDeepIn_21 : decode cX5_leastDeepIn 21 = .ok (.iload 4, 2) := by decide +kernel
theorem dX5_leastDeepIn_23 : decode cX5_leastDeepIn 23 = .ok (.invokevirtual 221, 3) := by decide +kernel
theorem dX5_leastDeepIn_26 : decode cX5_leastDeepIn 26 = .ok (.checkcast 91, 3) := by decide +kernel
theorem dX5_leastDeepIn_29 : decode cX5_leastDeepIn 29 = .ok (.astore 5, 2) := by decide +kernel
theorem dX5_leastDeepIn_31 : decode cX5_leastDeepIn 31 = .ok (.aload 5, 2) := by decide +kernel
theorem dX5_leastDeepIn_33 : decode cX5_leastDeepIn 33 = .ok (.getfield 142, 3) := by decide +kernel
theorem dX5_leastDeepIn_36 : decode cX5_leastDeepIn 36 = .ok (.iload_n 1, 1) := by decide +kernel
theorem dX5_leastDeepIn_37 : decode cX5_leastDeepIn 37 = .ok (.if_icmp .ne 31, 3) := by decide +kernel
theorem dX5_leastDeepIn_40 : decode cX5_leastDeepIn 40 = .ok (.aload 5, 2) := by decide +kernel
theorem dX5_leastDeepIn_42 : decode cX5_leastDeepIn 42 = .ok (.getfield 117, 3) := by decide +kernel
theorem dX5_leastDeepIn_45 : decode cX5_leastDeepIn 45 = .ok (.iload_n 2, 1) := by decide +kernel
theorem dX5_leastDeepIn_46 : decode cX5_leastDeepIn 46 = .ok (.if_icmp .ne 22, 3) := by decide +kernel
theorem dX5_leastDeepIn_49 : decode cX5_leastDeepIn 49 = .ok (.aload_n 3, 1) := by decide +kernel
theorem dX5_leastDeepIn_50 : decode cX5_leastDeepIn 50 = .ok (.ifnull 15, 3) := by decide +kernel
theorem dX5_leastDeepIn_53 : decode cX5_leastDeepIn 53 = .ok (.aload 5, 2) := by decide +kernel
theorem dX5_leastDeepIn_55 : decode cX5_leastDeepIn 55 = .ok (.getfield 171, 3) := by decide +kernel
theorem dX5_leastDeepIn_58 : decode cX5_leastDeepIn 58 = .ok (.aload_n 3, 1) := by decide +kernel
theorem dX5_leastDeepIn_59 : decode cX5_leastDeepIn 59 = .ok (.getfield 171, 3) := by decide +kernel
theorem dX5_leastDeepIn_62 : decode cX5_leastDeepIn 62 = .ok (.if_icmp .ge 6, 3) := by decide +kernel
theorem dX5_leastDeepIn_65 : decode cX5_leastDeepIn 65 = .ok (.aload 5, 2) := by decide +kernel
theorem dX5_leastDeepIn_67 : decode cX5_leastDeepIn 67 = .ok (.astore_n 3, 1) := by decide +kernel
theorem dX5_leastDeepIn_68 : decode cX5_leastDeepIn 68 = .ok (.iinc 4 1, 3) := by decide +kernel
theorem dX5_leastDeepIn_71 : decode cX5_leastDeepIn 71 = .ok (.goto (-66), 3) := by decide +kernel
theorem dX5_leastDeepIn_74 : decode cX5_leastDeepIn 74 = .ok (.aload_n 3, 1) := by decide +kernel
theorem dX5_leastDeepIn_75 : decode cX5_leastDeepIn 75 = .ok (.areturn, 1) := by decide +kernel
theorem dX5_inBag_0 : decode cX5_inBag 0 = .ok (.iconst 0, 1) := by decide +kernel
theorem dX5_inBag_1 : decode cX5_inBag 1 = .ok (.istore_n 2, 1) := by decide +kernel
theorem dX5_inBag_2 : decode cX5_inBag 2 = .ok (.iconst 0, 1) := by decide +kernel
theorem dX5_inBag_3 : decode cX5_inBag 3 = .ok (.istore_n 3, 1) := by decide +kernel
theorem dX5_inBag_4 : decode cX5_inBag 4 = .ok (.iload_n 3, 1) := by decide +kernel
theorem dX5_inBag_5 : decode cX5_inBag 5 = .ok (.aload_n 0, 1) := by decide +kernel
theorem dX5_inBag_6 : decode cX5_inBag 6 = .ok (.getfield 28, 3) := by decide +kernel
theorem dX5_inBag_9 : decode cX5_inBag 9 = .ok (.invokevirtual 85, 3) := by decide +kernel
theorem dX5_inBag_12 : decode cX5_inBag 12 = .ok (.if_icmp .ge 30, 3) := by decide +kernel
theorem dX5_inBag_15 : decode cX5_inBag 15 = .ok (.aload_n 0, 1) := by decide +kernel
theorem dX5_inBag_16 : decode cX5_inBag 16 = .ok (.getfield 28, 3) := by decide +kernel
theorem dX5_inBag_19 : decode cX5_inBag 19 = .ok (.iload_n 3, 1) := by decide +kernel
theorem dX5_inBag_20 : decode cX5_inBag 20 = .ok (.invokevirtual 221, 3) := by decide +kernel
theorem dX5_inBag_23 : decode cX5_inBag 23 = .ok (.checkcast 91, 3) := by decide +kernel
theorem dX5_inBag_26 : decode cX5_inBag 26 = .ok (.aload_n 1, 1) := by decide +kernel
theorem dX5_inBag_27 : decode cX5_inBag 27 = .ok (.invokevirtual 284, 3) := by decide +kernel
theorem dX5_inBag_30 : decode cX5_inBag 30 = .ok (.ifCond .eq 6, 3) := by decide +kernel
theorem dX5_inBag_33 : decode cX5_inBag 33 = .ok (.iinc 2 1, 3) := by decide +kernel
theorem dX5_inBag_36 : decode cX5_inBag 36 = .ok (.iinc 3 1, 3) := by decide +kernel
theorem dX5_inBag_39 : decode cX5_inBag 39 = .ok (.goto (-35), 3) := by decide +kernel
theorem dX5_inBag_42 : decode cX5_inBag 42 = .ok (.iload_n 2, 1) := by decide +kernel
theorem dX5_inBag_43 : decode cX5_inBag 43 = .ok (.ireturn, 1) := by decide +kernel
theorem dX5_hiddenInBag_0 : decode cX5_hiddenInBag 0 = .ok (.iconst 0, 1) := by decide +kernel
theorem dX5_hiddenInBag_1 : decode cX5_hiddenInBag 1 = .ok (.istore_n 2, 1) := by decide +kernel
theorem dX5_hiddenInBag_2 : decode cX5_hiddenInBag 2 = .ok (.iconst 0, 1) := by decide +kernel
theorem dX5_hiddenInBag_3 : decode cX5_hiddenInBag 3 = .ok (.istore_n 3, 1) := by decide +kernel
theorem dX5_hiddenInBag_4 : decode cX5_hiddenInBag 4 = .ok (.iload_n 3, 1) := by decide +kernel
theorem dX5_hiddenInBag_5 : decode cX5_hiddenInBag 5 = .ok (.aload_n 0, 1) := by decide +kernel
theorem dX5_hiddenInBag_6 : decode cX5_hiddenInBag 6 = .ok (.getfield 28, 3) := by decide +kernel
theorem dX5_hiddenInBag_9 : decode cX5_hiddenInBag 9 = .ok (.invokevirtual 85, 3) := by decide +kernel
theorem dX5_hiddenInBag_12 : decode cX5_hiddenInBag 12 = .ok (.if_icmp .ge 30, 3) := by decide +kernel
theorem dX5_hiddenInBag_15 : decode cX5_hiddenInBag 15 = .ok (.aload_n 0, 1) := by decide +kernel
theorem dX5_hiddenInBag_16 : decode cX5_hiddenInBag 16 = .ok (.getfield 28, 3) := by decide +kernel
theorem dX5_hiddenInBag_19 : decode cX5_hiddenInBag 19 = .ok (.iload_n 3, 1) := by decide +kernel
theorem dX5_hiddenInBag_20 : decode cX5_hiddenInBag 20 = .ok (.invokevirtual 221, 3) := by decide +kernel
theorem dX5_hiddenInBag_23 : decode cX5_hiddenInBag 23 = .ok (.checkcast 91, 3) := by decide +kernel
theorem dX5_hiddenInBag_26 : decode cX5_hiddenInBag 26 = .ok (.aload_n 1, 1) := by decide +kernel
theorem dX5_hiddenInBag_27 : decode cX5_hiddenInBag 27 = .ok (.invokevirtual 296, 3) := by decide +kernel
theorem dX5_hiddenInBag_30 : decode cX5_hiddenInBag 30 = .ok (.ifCond .eq 6, 3) := by decide +kernel
theorem dX5_hiddenInBag_33 : decode cX5_hiddenInBag 33 = .ok (.iinc 2 1, 3) := by decide +kernel
theorem dX5_hiddenInBag_36 : decode cX5_hiddenInBag 36 = .ok (.iinc 3 1, 3) := by decide +kernel
theorem dX5_hiddenInBag_39 : decode cX5_hiddenInBag 39 = .ok (.goto (-35), 3) := by decide +kernel
theorem dX5_hiddenInBag_42 : decode cX5_hiddenInBag 42 = .ok (.iload_n 2, 1) := by decide +kernel
theorem dX5_hiddenInBag_43 : decode cX5_hiddenInBag 43 = .ok (.ireturn, 1) := by decide +kernel
theorem dX5_owedBy_0 : decode cX5_owedBy 0 = .ok (.iconst 0, 1) := by decide +kernel
theorem dX5_owedBy_1 : decode cX5_owedBy 1 = .ok (.istore 4, 2) := by decide +kernel
theorem dX5_owedBy_3 : decode cX5_owedBy 3 = .ok (.iconst 0, 1) := by decide +kernel
theorem dX5_owedBy_4 : decode cX5_owedBy 4 = .ok (.istore 5, 2) := by decide +kernel
theorem dX5_owedBy_6 : decode cX5_owedBy 6 = .ok (.iload 5, 2) := by decide +kernel
theorem dX5_owedBy_8 : decode cX5_owedBy 8 = .ok (.aload_n 0, 1) := by decide +kernel
theorem dX5_owedBy_9 : decode cX5_owedBy 9 = .ok (.getfield 28, 3) := by decide +kernel
theorem dX5_owedBy_12 : decode cX5_owedBy 12 = .ok (.invokevirtual 85, 3) := by decide +kernel
theorem dX5_owedBy_15 : decode cX5_owedBy 15 = .ok (.if_icmp .ge 49, 3) := by decide +kernel
theorem dX5_owedBy_18 : decode cX5_owedBy 18 = .ok (.aload_n 0, 1) := by decide +kernel
theorem dX5_owedBy_19 : decode cX5_owedBy 19 = .ok (.getfield 28, 3) := by decide +kernel
theorem dX5_owedBy_22 : decode cX5_owedBy 22 = .ok (.iload 5, 2) := by decide +kernel
theorem dX5_owedBy_24 : decode cX5_owedBy 24 = .ok (.invokevirtual 221, 3) := by decide +kernel
theorem dX5_owedBy_27 : decode cX5_owedBy 27 = .ok (.checkcast 91, 3) := by decide +kernel
theorem dX5_owedBy_30 : decode cX5_owedBy 30 = .ok (.astore 6, 2) := by decide +kernel
theorem dX5_owedBy_32 : decode cX5_owedBy 32 = .ok (.aload 6, 2) := by decide +kernel
theorem dX5_owedBy_34 : decode cX5_owedBy 34 = .ok (.aload_n 1, 1) := by decide +kernel
theorem dX5_owedBy_35 : decode cX5_owedBy 35 = .ok (.invokevirtual 299, 3) := by decide +kernel
theorem dX5_owedBy_38 : decode cX5_owedBy 38 = .ok (.ifCond .eq 20, 3) := by decide +kernel
theorem dX5_owedBy_41 : decode cX5_owedBy 41 = .ok (.iload 4, 2) := by decide +kernel
theorem dX5_owedBy_43 : decode cX5_owedBy 43 = .ok (.aload_n 2, 1) := by decide +kernel
theorem dX5_owedBy_44 : decode cX5_owedBy 44 = .ok (.aload 6, 2) := by decide +kernel
theorem dX5_owedBy_46 : decode cX5_owedBy 46 = .ok (.aload 6, 2) := by decide +kernel
theorem dX5_owedBy_48 : decode cX5_owedBy 48 = .ok (.iload_n 3, 1) := by decide +kernel
theorem dX5_owedBy_49 : decode cX5_owedBy 49 = .ok (.invokevirtual 302, 3) := by decide +kernel
theorem dX5_owedBy_52 : decode cX5_owedBy 52 = .ok (.invokevirtual 305, 3) := by decide +kernel
theorem dX5_owedBy_55 : decode cX5_owedBy 55 = .ok (.iadd, 1) := by decide +kernel
theorem dX5_owedBy_56 : decode cX5_owedBy 56 = .ok (.istore 4, 2) := by decide +kernel
theorem dX5_owedBy_58 : decode cX5_owedBy 58 = .ok (.iinc 5 1, 3) := by decide +kernel
theorem dX5_owedBy_61 : decode cX5_owedBy 61 = .ok (.goto (-55), 3) := by decide +kernel
theorem dX5_owedBy_64 : decode cX5_owedBy 64 = .ok (.iload 4, 2) := by decide +kernel
theorem dX5_owedBy_66 : decode cX5_owedBy 66 = .ok (.ireturn, 1) := by decide +kernel
theorem dX5_fineOf_0 : decode cX5_fineOf 0 = .ok (.aload_n 2, 1) := by decide +kernel
theorem dX5_fineOf_1 : decode cX5_fineOf 1 = .ok (.aload_n 0, 1) := by decide +kernel
theorem dX5_fineOf_2 : decode cX5_fineOf 2 = .ok (.aload_n 1, 1) := by decide +kernel
theorem dX5_fineOf_3 : decode cX5_fineOf 3 = .ok (.invokevirtual 168, 3) := by decide +kernel
theorem dX5_fineOf_6 : decode cX5_fineOf 6 = .ok (.invokevirtual 309, 3) := by decide +kernel
theorem dX5_fineOf_9 : decode cX5_fineOf 9 = .ok (.bipush 10, 2) := by decide +kernel
theorem dX5_fineOf_11 : decode cX5_fineOf 11 = .ok (.if_icmp .ge 5, 3) := by decide +kernel
theorem dX5_fineOf_14 : decode cX5_fineOf 14 = .ok (.iconst 0, 1) := by decide +kernel
theorem dX5_fineOf_15 : decode cX5_fineOf 15 = .ok (.ireturn, 1) := by decide +kernel
theorem dX5_fineOf_16 : decode cX5_fineOf 16 = .ok (.iconst 0, 1) := by decide +kernel
theorem dX5_fineOf_17 : decode cX5_fineOf 17 = .ok (.istore 4, 2) := by decide +kernel
theorem dX5_fineOf_19 : decode cX5_fineOf 19 = .ok (.iconst 0, 1) := by decide +kernel
theorem dX5_fineOf_20 : decode cX5_fineOf 20 = .ok (.istore 5, 2) := by decide +kernel
theorem dX5_fineOf_22 : decode cX5_fineOf 22 = .ok (.iload 5, 2) := by decide +kernel
theorem dX5_fineOf_24 : decode cX5_fineOf 24 = .ok (.aload_n 0, 1) := by decide +kernel
theorem dX5_fineOf_25 : decode cX5_fineOf 25 = .ok (.getfield 28, 3) := by decide +kernel
theorem dX5_fineOf_28 : decode cX5_fineOf 28 = .ok (.invokevirtual 85, 3) := by decide +kernel
theorem dX5_fineOf_31 : decode cX5_fineOf 31 = .ok (.if_icmp .ge 44, 3) := by decide +kernel
theorem dX5_fineOf_34 : decode cX5_fineOf 34 = .ok (.aload_n 0, 1) := by decide +kernel
theorem dX5_fineOf_35 : decode cX5_fineOf 35 = .ok (.getfield 28, 3) := by decide +kernel
theorem dX5_fineOf_38 : decode cX5_fineOf 38 = .ok (.iload 5, 2) := by decide +kernel
theorem dX5_fineOf_40 : decode cX5_fineOf 40 = .ok (.invokevirtual 221, 3) := by decide +kernel
theorem dX5_fineOf_43 : decode cX5_fineOf 43 = .ok (.checkcast 91, 3) := by decide +kernel
theorem dX5_fineOf_46 : decode cX5_fineOf 46 = .ok (.astore 6, 2) := by decide +kernel
theorem dX5_fineOf_48 : decode cX5_fineOf 48 = .ok (.aload 6, 2) := by decide +kernel
theorem dX5_fineOf_50 : decode cX5_fineOf 50 = .ok (.aload_n 1, 1) := by decide +kernel
theorem dX5_fineOf_51 : decode cX5_fineOf 51 = .ok (.invokevirtual 296, 3) := by decide +kernel
theorem dX5_fineOf_54 : decode cX5_fineOf 54 = .ok (.ifCond .eq 15, 3) := by decide +kernel
theorem dX5_fineOf_57 : decode cX5_fineOf 57 = .ok (.iload 4, 2) := by decide +kernel
theorem dX5_fineOf_59 : decode cX5_fineOf 59 = .ok (.aload_n 2, 1) := by decide +kernel
theorem dX5_fineOf_60 : decode cX5_fineOf 60 = .ok (.aload 6, 2) := by decide +kernel
theorem dX5_fineOf_62 : decode cX5_fineOf 62 = .ok (.iconst 0, 1) := by decide +kernel
theorem dX5_fineOf_63 : decode cX5_fineOf 63 = .ok (.invokevirtual 305, 3) := by decide +kernel
theorem dX5_fineOf_66 : decode cX5_fineOf 66 = .ok (.iadd, 1) := by decide +kernel
theorem dX5_fineOf_67 : decode cX5_fineOf 67 = .ok (.istore 4, 2) := by decide +kernel
theorem dX5_fineOf_69 : decode cX5_fineOf 69 = .ok (.iinc 5 1, 3) := by decide +kernel
theorem dX5_fineOf_72 : decode cX5_fineOf 72 = .ok (.goto (-50), 3) := by decide +kernel
theorem dX5_fineOf_75 : decode cX5_fineOf 75 = .ok (.iconst 0, 1) := by decide +kernel
theorem dX5_fineOf_76 : decode cX5_fineOf 76 = .ok (.iconst 3, 1) := by decide +kernel
theorem dX5_fineOf_77 : decode cX5_fineOf 77 = .ok (.iload 4, 2) := by decide +kernel
theorem dX5_fineOf_79 : decode cX5_fineOf 79 = .ok (.imul, 1) := by decide +kernel
theorem dX5_fineOf_80 : decode cX5_fineOf 80 = .ok (.iload_n 3, 1) := by decide +kernel
theorem dX5_fineOf_81 : decode cX5_fineOf 81 = .ok (.invokestatic 312, 3) := by decide +kernel
theorem dX5_fineOf_84 : decode cX5_fineOf 84 = .ok (.invokestatic 318, 3) := by decide +kernel
theorem dX5_fineOf_87 : decode cX5_fineOf 87 = .ok (.ireturn, 1) := by decide +kernel
theorem dX5_burnProofs_0 : decode cX5_burnProofs 0 = .ok (.iconst 0, 1) := by decide +kernel
theorem dX5_burnProofs_1 : decode cX5_burnProofs 1 = .ok (.istore_n 3, 1) := by decide +kernel
theorem dX5_burnProofs_2 : decode cX5_burnProofs 2 = .ok (.iload_n 3, 1) := by decide +kernel
theorem dX5_burnProofs_3 : decode cX5_burnProofs 3 = .ok (.aload_n 0, 1) := by decide +kernel
theorem dX5_burnProofs_4 : decode cX5_burnProofs 4 = .ok (.getfield 28, 3) := by decide +kernel
theorem dX5_burnProofs_7 : decode cX5_burnProofs 7 = .ok (.invokevirtual 85, 3) := by decide +kernel
theorem dX5_burnProofs_10 : decode cX5_burnProofs 10 = .ok (.if_icmp .ge 62, 3) := by decide +kernel
theorem dX5_burnProofs_13 : decode cX5_burnProofs 13 = .ok (.aload_n 0, 1) := by decide +kernel
theorem dX5_burnProofs_14 : decode cX5_burnProofs 14 = .ok (.getfield 28, 3) := by decide +kernel
theorem dX5_burnProofs_17 : decode cX5_burnProofs 17 = .ok (.iload_n 3, 1) := by decide +kernel
theorem dX5_burnProofs_18 : decode cX5_burnProofs 18 = .ok (.invokevirtual 221, 3) := by decide +kernel
theorem dX5_burnProofs_21 : decode cX5_burnProofs 21 = .ok (.checkcast 91, 3) := by decide +kernel
theorem dX5_burnProofs_24 : decode cX5_burnProofs 24 = .ok (.astore 4, 2) := by decide +kernel
theorem dX5_burnProofs_26 : decode cX5_burnProofs 26 = .ok (.aload 4, 2) := by decide +kernel
theorem dX5_burnProofs_28 : decode cX5_burnProofs 28 = .ok (.aload_n 1, 1) := by decide +kernel
theorem dX5_burnProofs_29 : decode cX5_burnProofs 29 = .ok (.invokevirtual 299, 3) := by decide +kernel
theorem dX5_burnProofs_32 : decode cX5_burnProofs 32 = .ok (.ifCond .eq 34, 3) := by decide +kernel
theorem dX5_burnProofs_35 : decode cX5_burnProofs 35 = .ok (.aload 4, 2) := by decide +kernel
theorem dX5_burnProofs_37 : decode cX5_burnProofs 37 = .ok (.iload_n 2, 1) := by decide +kernel
theorem dX5_burnProofs_38 : decode cX5_burnProofs 38 = .ok (.invokevirtual 302, 3) := by decide +kernel
theorem dX5_burnProofs_41 : decode cX5_burnProofs 41 = .ok (.istore 5, 2) := by decide +kernel
theorem dX5_burnProofs_43 : decode cX5_burnProofs 43 = .ok (.aload 4, 2) := by decide +kernel
theorem dX5_burnProofs_45 : decode cX5_burnProofs 45 = .ok (.dup, 1) := by decide +kernel
theorem dX5_burnProofs_46 : decode cX5_burnProofs 46 = .ok (.getfield 179, 3) := by decide +kernel
theorem dX5_burnProofs_49 : decode cX5_burnProofs 49 = .ok (.iload 5, 2) := by decide +kernel
theorem dX5_burnProofs_51 : decode cX5_burnProofs 51 = .ok (.isub, 1) := by decide +kernel
theorem dX5_burnProofs_52 : decode cX5_burnProofs 52 = .ok (.putfield 179, 3) := by decide +kernel
theorem dX5_burnProofs_55 : decode cX5_burnProofs 55 = .ok (.aload_n 0, 1) := by decide +kernel
theorem dX5_burnProofs_56 : decode cX5_burnProofs 56 = .ok (.dup, 1) := by decide +kernel
theorem dX5_burnProofs_57 : decode cX5_burnProofs 57 = .ok (.getfield 321, 3) := by decide +kernel
theorem dX5_burnProofs_60 : decode cX5_burnProofs 60 = .ok (.iload 5, 2) := by decide +kernel
theorem dX5_burnProofs_62 : decode cX5_burnProofs 62 = .ok (.iadd, 1) := by decide +kernel
theorem dX5_burnProofs_63 : decode cX5_burnProofs 63 = .ok (.putfield 321, 3) := by decide +kernel
theorem dX5_burnProofs_66 : decode cX5_burnProofs 66 = .ok (.iinc 3 1, 3) := by decide +kernel
theorem dX5_burnProofs_69 : decode cX5_burnProofs 69 = .ok (.goto (-67), 3) := by decide +kernel
theorem dX5_burnProofs_72 : decode cX5_burnProofs 72 = .ok (.return_, 1) := by decide +kernel
theorem dX5_inspect_0 : decode cX5_inspect 0 = .ok (.aload_n 2, 1) := by decide +kernel
theorem dX5_inspect_1 : decode cX5_inspect 1 = .ok (.aload_n 2, 1) := by decide +kernel
theorem dX5_inspect_2 : decode cX5_inspect 2 = .ok (.aload_n 0, 1) := by decide +kernel
theorem dX5_inspect_3 : decode cX5_inspect 3 = .ok (.aload_n 1, 1) := by decide +kernel
theorem dX5_inspect_4 : decode cX5_inspect 4 = .ok (.invokevirtual 168, 3) := by decide +kernel
theorem dX5_inspect_7 : decode cX5_inspect 7 = .ok (.invokevirtual 309, 3) := by decide +kernel
theorem dX5_inspect_10 : decode cX5_inspect 10 = .ok (.putfield 324, 3) := by decide +kernel
theorem dX5_inspect_13 : decode cX5_inspect 13 = .ok (.aload_n 2, 1) := by decide +kernel
theorem dX5_inspect_14 : decode cX5_inspect 14 = .ok (.getfield 324, 3) := by decide +kernel
theorem dX5_inspect_17 : decode cX5_inspect 17 = .ok (.bipush 10, 2) := by decide +kernel
theorem dX5_inspect_19 : decode cX5_inspect 19 = .ok (.if_icmp .lt 29, 3) := by decide +kernel
theorem dX5_inspect_22 : decode cX5_inspect 22 = .ok (.aload_n 2, 1) := by decide +kernel
theorem dX5_inspect_23 : decode cX5_inspect 23 = .ok (.dup, 1) := by decide +kernel
theorem dX5_inspect_24 : decode cX5_inspect 24 = .ok (.getfield 324, 3) := by decide +kernel
theorem dX5_inspect_27 : decode cX5_inspect 27 = .ok (.bipush 10, 2) := by decide +kernel
theorem dX5_inspect_29 : decode cX5_inspect 29 = .ok (.isub, 1) := by decide +kernel
theorem dX5_inspect_30 : decode cX5_inspect 30 = .ok (.putfield 324, 3) := by decide +kernel
theorem dX5_inspect_33 : decode cX5_inspect 33 = .ok (.aload_n 0, 1) := by decide +kernel
theorem dX5_inspect_34 : decode cX5_inspect 34 = .ok (.dup, 1) := by decide +kernel
theorem dX5_inspect_35 : decode cX5_inspect 35 = .ok (.getfield 327, 3) := by decide +kernel
theorem dX5_inspect_38 : decode cX5_inspect 38 = .ok (.iconst 1, 1) := by decide +kernel
theorem dX5_inspect_39 : decode cX5_inspect 39 = .ok (.iadd, 1) := by decide +kernel
theorem dX5_inspect_40 : decode cX5_inspect 40 = .ok (.putfield 327, 3) := by decide +kernel
theorem dX5_inspect_43 : decode cX5_inspect 43 = .ok (.aload_n 0, 1) := by decide +kernel
theorem dX5_inspect_44 : decode cX5_inspect 44 = .ok (.aload_n 1, 1) := by decide +kernel
theorem dX5_inspect_45 : decode cX5_inspect 45 = .ok (.invokevirtual 330, 3) := by decide +kernel
theorem dX5_inspect_48 : decode cX5_inspect 48 = .ok (.return_, 1) := by decide +kernel
theorem dX5_takeHidden_0 : decode cX5_takeHidden 0 = .ok (.iconst 0, 1) := by decide +kernel
theorem dX5_takeHidden_1 : decode cX5_takeHidden 1 = .ok (.istore_n 2, 1) := by decide +kernel
theorem dX5_takeHidden_2 : decode cX5_takeHidden 2 = .ok (.iload_n 2, 1) := by decide +kernel
theorem dX5_takeHidden_3 : decode cX5_takeHidden 3 = .ok (.aload_n 0, 1) := by decide +kernel
theorem dX5_takeHidden_4 : decode cX5_takeHidden 4 = .ok (.getfield 28, 3) := by decide +kernel
theorem dX5_takeHidden_7 : decode cX5_takeHidden 7 = .ok (.invokevirtual 85, 3) := by decide +kernel
theorem dX5_takeHidden_10 : decode cX5_takeHidden 10 = .ok (.if_icmp .ge 33, 3) := by decide +kernel
theorem dX5_takeHidden_13 : decode cX5_takeHidden 13 = .ok (.aload_n 0, 1) := by decide +kernel
theorem dX5_takeHidden_14 : decode cX5_takeHidden 14 = .ok (.getfield 28, 3) := by decide +kernel
theorem dX5_takeHidden_17 : decode cX5_takeHidden 17 = .ok (.iload_n 2, 1) := by decide +kernel
theorem dX5_takeHidden_18 : decode cX5_takeHidden 18 = .ok (.invokevirtual 221, 3) := by decide +kernel
theorem dX5_takeHidden_21 : decode cX5_takeHidden 21 = .ok (.checkcast 91, 3) := by decide +kernel
theorem dX5_takeHidden_24 : decode cX5_takeHidden 24 = .ok (.astore_n 3, 1) := by decide +kernel
theorem dX5_takeHidden_25 : decode cX5_takeHidden 25 = .ok (.aload_n 3, 1) := by decide +kernel
theorem dX5_takeHidden_26 : decode cX5_takeHidden 26 = .ok (.aload_n 1, 1) := by decide +kernel
theorem dX5_takeHidden_27 : decode cX5_takeHidden 27 = .ok (.invokevirtual 296, 3) := by decide +kernel
theorem dX5_takeHidden_30 : decode cX5_takeHidden 30 = .ok (.ifCond .eq 7, 3) := by decide +kernel
theorem dX5_takeHidden_33 : decode cX5_takeHidden 33 = .ok (.aload_n 3, 1) := by decide +kernel
theorem dX5_takeHidden_34 : decode cX5_takeHidden 34 = .ok (.invokevirtual 333, 3) := by decide +kernel
theorem dX5_takeHidden_37 : decode cX5_takeHidden 37 = .ok (.iinc 2 1, 3) := by decide +kernel
theorem dX5_takeHidden_40 : decode cX5_takeHidden 40 = .ok (.goto (-38), 3) := by decide +kernel
theorem dX5_takeHidden_43 : decode cX5_takeHidden 43 = .ok (.return_, 1) := by decide +kernel
theorem dX5_pay_0 : decode cX5_pay 0 = .ok (.aload_n 1, 1) := by decide +kernel
theorem dX5_pay_1 : decode cX5_pay 1 = .ok (.iload_n 3, 1) := by decide +kernel
theorem dX5_pay_2 : decode cX5_pay 2 = .ok (.iload 4, 2) := by decide +kernel
theorem dX5_pay_4 : decode cX5_pay 4 = .ok (.iadd, 1) := by decide +kernel
theorem dX5_pay_5 : decode cX5_pay 5 = .ok (.invokevirtual 336, 3) := by decide +kernel
theorem dX5_pay_8 : decode cX5_pay 8 = .ok (.aload_n 2, 1) := by decide +kernel
theorem dX5_pay_9 : decode cX5_pay 9 = .ok (.dup, 1) := by decide +kernel
theorem dX5_pay_10 : decode cX5_pay 10 = .ok (.getfield 338, 3) := by decide +kernel
theorem dX5_pay_13 : decode cX5_pay 13 = .ok (.iload_n 3, 1) := by decide +kernel
theorem dX5_pay_14 : decode cX5_pay 14 = .ok (.iload 4, 2) := by decide +kernel
theorem dX5_pay_16 : decode cX5_pay 16 = .ok (.iadd, 1) := by decide +kernel
theorem dX5_pay_17 : decode cX5_pay 17 = .ok (.iadd, 1) := by decide +kernel
theorem dX5_pay_18 : decode cX5_pay 18 = .ok (.putfield 338, 3) := by decide +kernel
theorem dX5_pay_21 : decode cX5_pay 21 = .ok (.aload_n 0, 1) := by decide +kernel
theorem dX5_pay_22 : decode cX5_pay 22 = .ok (.dup, 1) := by decide +kernel
theorem dX5_pay_23 : decode cX5_pay 23 = .ok (.getfield 341, 3) := by decide +kernel
theorem dX5_pay_26 : decode cX5_pay 26 = .ok (.iload_n 3, 1) := by decide +kernel
theorem dX5_pay_27 : decode cX5_pay 27 = .ok (.iadd, 1) := by decide +kernel
theorem dX5_pay_28 : decode cX5_pay 28 = .ok (.putfield 341, 3) := by decide +kernel
theorem dX5_pay_31 : decode cX5_pay 31 = .ok (.aload_n 0, 1) := by decide +kernel
theorem dX5_pay_32 : decode cX5_pay 32 = .ok (.dup, 1) := by decide +kernel
theorem dX5_pay_33 : decode cX5_pay 33 = .ok (.getfield 344, 3) := by decide +kernel
theorem dX5_pay_36 : decode cX5_pay 36 = .ok (.iload 4, 2) := by decide +kernel
theorem dX5_pay_38 : decode cX5_pay 38 = .ok (.iadd, 1) := by decide +kernel
theorem dX5_pay_39 : decode cX5_pay 39 = .ok (.putfield 344, 3) := by decide +kernel
theorem dX5_pay_42 : decode cX5_pay 42 = .ok (.return_, 1) := by decide +kernel
theorem dX5_townsThatKnow_0 : decode cX5_townsThatKnow 0 = .ok (.iconst 0, 1) := by decide +kernel
theorem dX5_townsThatKnow_1 : decode cX5_townsThatKnow 1 = .ok (.istore_n 2, 1) := by decide +kernel
theorem dX5_townsThatKnow_2 : decode cX5_townsThatKnow 2 = .ok (.iconst 0, 1) := by decide +kernel
theorem dX5_townsThatKnow_3 : decode cX5_townsThatKnow 3 = .ok (.istore_n 3, 1) := by decide +kernel
theorem dX5_townsThatKnow_4 : decode cX5_townsThatKnow 4 = .ok (.iload_n 3, 1) := by decide +kernel
theorem dX5_townsThatKnow_5 : decode cX5_townsThatKnow 5 = .ok (.aload_n 0, 1) := by decide +kernel
theorem dX5_townsThatKnow_6 : decode cX5_townsThatKnow 6 = .ok (.getfield 28, 3) := by decide +kernel
theorem dX5_townsThatKnow_9 : decode cX5_townsThatKnow 9 = .ok (.invokevirtual 85, 3) := by decide +kernel
theorem dX5_townsThatKnow_12 : decode cX5_townsThatKnow 12 = .ok (.if_icmp .ge 50, 3) := by decide +kernel
theorem dX5_townsThatKnow_15 : decode cX5_townsThatKnow 15 = .ok (.aload_n 0, 1) := by decide +kernel
theorem dX5_townsThatKnow_16 : decode cX5_townsThatKnow 16 = .ok (.getfield 28, 3) := by decide +kernel
theorem dX5_townsThatKnow_19 : decode cX5_townsThatKnow 19 = .ok (.iload_n 3, 1) := by decide +kernel
theorem dX5_townsThatKnow_20 : decode cX5_townsThatKnow 20 = .ok (.invokevirtual 221, 3) := by decide +kernel
theorem dX5_townsThatKnow_23 : decode cX5_townsThatKnow 23 = .ok (.checkcast 91, 3) := by decide +kernel
theorem dX5_townsThatKnow_26 : decode cX5_townsThatKnow 26 = .ok (.astore 4, 2) := by decide +kernel
theorem dX5_townsThatKnow_28 : decode cX5_townsThatKnow 28 = .ok (.aload 4, 2) := by decide +kernel
theorem dX5_townsThatKnow_30 : decode cX5_townsThatKnow 30 = .ok (.getfield 117, 3) := by decide +kernel
theorem dX5_townsThatKnow_33 : decode cX5_townsThatKnow 33 = .ok (.iload_n 1, 1) := by decide +kernel
theorem dX5_townsThatKnow_34 : decode cX5_townsThatKnow 34 = .ok (.if_icmp .ne 22, 3) := by decide +kernel
theorem dX5_townsThatKnow_37 : decode cX5_townsThatKnow 37 = .ok (.aload 4, 2) := by decide +kernel
theorem dX5_townsThatKnow_39 : decode cX5_townsThatKnow 39 = .ok (.getfield 142, 3) := by decide +kernel
theorem dX5_townsThatKnow_42 : decode cX5_townsThatKnow 42 = .ok (.iconst (-1), 1) := by decide +kernel
theorem dX5_townsThatKnow_43 : decode cX5_townsThatKnow 43 = .ok (.if_icmp .eq 13, 3) := by decide +kernel
theorem dX5_townsThatKnow_46 : decode cX5_townsThatKnow 46 = .ok (.iload_n 2, 1) := by decide +kernel
theorem dX5_townsThatKnow_47 : decode cX5_townsThatKnow 47 = .ok (.iconst 1, 1) := by decide +kernel
theorem dX5_townsThatKnow_48 : decode cX5_townsThatKnow 48 = .ok (.aload 4, 2) := by decide +kernel
theorem dX5_townsThatKnow_50 : decode cX5_townsThatKnow 50 = .ok (.getfield 142, 3) := by decide +kernel
theorem dX5_townsThatKnow_53 : decode cX5_townsThatKnow 53 = .ok (.ishl, 1) := by decide +kernel
theorem dX5_townsThatKnow_54 : decode cX5_townsThatKnow 54 = .ok (.ior, 1) := by decide +kernel
theorem dX5_townsThatKnow_55 : decode cX5_townsThatKnow 55 = .ok (.istore_n 2, 1) := by decide +kernel
theorem dX5_townsThatKnow_56 : decode cX5_townsThatKnow 56 = .ok (.iinc 3 1, 3) := by decide +kernel
theorem dX5_townsThatKnow_59 : decode cX5_townsThatKnow 59 = .ok (.goto (-55), 3) := by decide +kernel
theorem dX5_townsThatKnow_62 : decode cX5_townsThatKnow 62 = .ok (.iload_n 2, 1) := by decide +kernel
theorem dX5_townsThatKnow_63 : decode cX5_townsThatKnow 63 = .ok (.invokestatic 347, 3) := by decide +kernel
theorem dX5_townsThatKnow_66 : decode cX5_townsThatKnow 66 = .ok (.ireturn, 1) := by decide +kernel
theorem dX5_greatestDepthInTowns_0 : decode cX5_greatestDepthInTowns 0 = .ok (.iconst (-1), 1) := by decide +kernel
theorem dX5_greatestDepthInTowns_1 : decode cX5_greatestDepthInTowns 1 = .ok (.istore_n 2, 1) := by decide +kernel
theorem dX5_greatestDepthInTowns_2 : decode cX5_greatestDepthInTowns 2 = .ok (.iconst 0, 1) := by decide +kernel
theorem dX5_greatestDepthInTowns_3 : decode cX5_greatestDepthInTowns 3 = .ok (.istore_n 3, 1) := by decide +kernel
theorem dX5_greatestDepthInTowns_4 : decode cX5_greatestDepthInTowns 4 = .ok (.iload_n 3, 1) := by decide +kernel
theorem dX5_greatestDepthInTowns_5 : decode cX5_greatestDepthInTowns 5 = .ok (.aload_n 0, 1) := by decide +kernel
theorem dX5_greatestDepthInTowns_6 : decode cX5_greatestDepthInTowns 6 = .ok (.getfield 28, 3) := by decide +kernel
theorem dX5_greatestDepthInTowns_9 : decode cX5_greatestDepthInTowns 9 = .ok (.invokevirtual 85, 3) := by decide +kernel
theorem dX5_greatestDepthInTowns_12 : decode cX5_greatestDepthInTowns 12 = .ok (.if_icmp .ge 50, 3) := by decide +kernel
theorem dX5_greatestDepthInTowns_15 : decode cX5_greatestDepthInTowns 15 = .ok (.aload_n 0, 1) := by decide +kernel
theorem dX5_greatestDepthInTowns_16 : decode cX5_greatestDepthInTowns 16 = .ok (.getfield 28, 3) := by decide +kernel
theorem dX5_greatestDepthInTowns_19 : decode cX5_greatestDepthInTowns 19 = .ok (.iload_n 3, 1) := by decide +kernel
theorem dX5_greatestDepthInTowns_20 : decode cX5_greatestDepthInTowns 20 = .ok (.invokevirtual 221, 3) := by decide +kernel
theorem dX5_greatestDepthInTowns_23 : decode cX5_greatestDepthInTowns 23 = .ok (.checkcast 91, 3) := by decide +kernel
theorem dX5_greatestDepthInTowns_26 : decode cX5_greatestDepthInTowns 26 = .ok (.astore 4, 2) := by decide +kernel
theorem dX5_greatestDepthInTowns_28 : decode cX5_greatestDepthInTowns 28 = .ok (.aload 4, 2) := by decide +kernel
theorem dX5_greatestDepthInTowns_30 : decode cX5_greatestDepthInTowns 30 = .ok (.getfield 117, 3) := by decide +kernel
theorem dX5_greatestDepthInTowns_33 : decode cX5_greatestDepthInTowns 33 = .ok (.iload_n 1, 1) := by decide +kernel
theorem dX5_greatestDepthInTowns_34 : decode cX5_greatestDepthInTowns 34 = .ok (.if_icmp .ne 22, 3) := by decide +kernel
theorem dX5_greatestDepthInTowns_37 : decode cX5_greatestDepthInTowns 37 = .ok (.aload 4, 2) := by decide +kernel
theorem dX5_greatestDepthInTowns_39 : decode cX5_greatestDepthInTowns 39 = .ok (.getfield 142, 3) := by decide +kernel
theorem dX5_greatestDepthInTowns_42 : decode cX5_greatestDepthInTowns 42 = .ok (.iconst (-1), 1) := by decide +kernel
theorem dX5_greatestDepthInTowns_43 : decode cX5_greatestDepthInTowns 43 = .ok (.if_icmp .eq 13, 3) := by decide +kernel
theorem dX5_greatestDepthInTowns_46 : decode cX5_greatestDepthInTowns 46 = .ok (.iload_n 2, 1) := by decide +kernel
theorem dX5_greatestDepthInTowns_47 : decode cX5_greatestDepthInTowns 47 = .ok (.aload 4, 2) := by decide +kernel
theorem dX5_greatestDepthInTowns_49 : decode cX5_greatestDepthInTowns 49 = .ok (.getfield 171, 3) := by decide +kernel
theorem dX5_greatestDepthInTowns_52 : decode cX5_greatestDepthInTowns 52 = .ok (.invokestatic 318, 3) := by decide +kernel
theorem dX5_greatestDepthInTowns_55 : decode cX5_greatestDepthInTowns 55 = .ok (.istore_n 2, 1) := by decide +kernel
theorem dX5_greatestDepthInTowns_56 : decode cX5_greatestDepthInTowns 56 = .ok (.iinc 3 1, 3) := by decide +kernel
theorem dX5_greatestDepthInTowns_59 : decode cX5_greatestDepthInTowns 59 = .ok (.goto (-55), 3) := by decide +kernel
theorem dX5_greatestDepthInTowns_62 : decode cX5_greatestDepthInTowns 62 = .ok (.iload_n 2, 1) := by decide +kernel
theorem dX5_greatestDepthInTowns_63 : decode cX5_greatestDepthInTowns 63 = .ok (.ireturn, 1) := by decide +kernel
theorem dX5_notGoneOf_0 : decode cX5_notGoneOf 0 = .ok (.iconst 0, 1) := by decide +kernel
theorem dX5_notGoneOf_1 : decode cX5_notGoneOf 1 = .ok (.istore_n 2, 1) := by decide +kernel
theorem dX5_notGoneOf_2 : decode cX5_notGoneOf 2 = .ok (.iconst 0, 1) := by decide +kernel
theorem dX5_notGoneOf_3 : decode cX5_notGoneOf 3 = .ok (.istore_n 3, 1) := by decide +kernel
theorem dX5_notGoneOf_4 : decode cX5_notGoneOf 4 = .ok (.iload_n 3, 1) := by decide +kernel
theorem dX5_notGoneOf_5 : decode cX5_notGoneOf 5 = .ok (.aload_n 0, 1) := by decide +kernel
theorem dX5_notGoneOf_6 : decode cX5_notGoneOf 6 = .ok (.getfield 28, 3) := by decide +kernel
theorem dX5_notGoneOf_9 : decode cX5_notGoneOf 9 = .ok (.invokevirtual 85, 3) := by decide +kernel
theorem dX5_notGoneOf_12 : decode cX5_notGoneOf 12 = .ok (.if_icmp .ge 42, 3) := by decide +kernel
theorem dX5_notGoneOf_15 : decode cX5_notGoneOf 15 = .ok (.aload_n 0, 1) := by decide +kernel
theorem dX5_notGoneOf_16 : decode cX5_notGoneOf 16 = .ok (.getfield 28, 3) := by decide +kernel
theorem dX5_notGoneOf_19 : decode cX5_notGoneOf 19 = .ok (.iload_n 3, 1) := by decide +kernel
theorem dX5_notGoneOf_20 : decode cX5_notGoneOf 20 = .ok (.invokevirtual 221, 3) := by decide +kernel
theorem dX5_notGoneOf_23 : decode cX5_notGoneOf 23 = .ok (.checkcast 91, 3) := by decide +kernel
theorem dX5_notGoneOf_26 : decode cX5_notGoneOf 26 = .ok (.astore 4, 2) := by decide +kernel
theorem dX5_notGoneOf_28 : decode cX5_notGoneOf 28 = .ok (.aload 4, 2) := by decide +kernel
theorem dX5_notGoneOf_30 : decode cX5_notGoneOf 30 = .ok (.getfield 117, 3) := by decide +kernel
theorem dX5_notGoneOf_33 : decode cX5_notGoneOf 33 = .ok (.iload_n 1, 1) := by decide +kernel
theorem dX5_notGoneOf_34 : decode cX5_notGoneOf 34 = .ok (.if_icmp .ne 14, 3) := by decide +kernel
theorem dX5_notGoneOf_37 : decode cX5_notGoneOf 37 = .ok (.aload 4, 2) := by decide +kernel
theorem dX5_notGoneOf_39 : decode cX5_notGoneOf 39 = .ok (.invokevirtual 351, 3) := by decide +kernel
theorem dX5_notGoneOf_42 : decode cX5_notGoneOf 42 = .ok (.ifCond .ne 6, 3) := by decide +kernel
theorem dX5_notGoneOf_45 : decode cX5_notGoneOf 45 = .ok (.iinc 2 1, 3) := by decide +kernel
theorem dX5_notGoneOf_48 : decode cX5_notGoneOf 48 = .ok (.iinc 3 1, 3) := by decide +kernel
theorem dX5_notGoneOf_51 : decode cX5_notGoneOf 51 = .ok (.goto (-47), 3) := by decide +kernel
theorem dX5_notGoneOf_54 : decode cX5_notGoneOf 54 = .ok (.iload_n 2, 1) := by decide +kernel
theorem dX5_notGoneOf_55 : decode cX5_notGoneOf 55 = .ok (.ireturn, 1) := by decide +kernel
theorem dX5_figureOf_0 : decode cX5_figureOf 0 = .ok (.iload_n 2, 1) := by decide +kernel
theorem dX5_figureOf_1 : decode cX5_figureOf 1 = .ok (.tableswitch 62 0 4 #[35, 40, 45, 50, 56], 35) := by decide +kernel
theorem dX5_figureOf_36 : decode cX5_figureOf 36 = .ok (.aload_n 1, 1) := by decide +kernel
theorem dX5_figureOf_37 : decode cX5_figureOf 37 = .ok (.getfield 145, 3) := by decide +kernel
theorem dX5_figureOf_40 : decode cX5_figureOf 40 = .ok (.ireturn, 1) := by decide +kernel
theorem dX5_figureOf_41 : decode cX5_figureOf 41 = .ok (.aload_n 1, 1) := by decide +kernel
theorem dX5_figureOf_42 : decode cX5_figureOf 42 = .ok (.getfield 354, 3) := by decide +kernel
theorem dX5_figureOf_45 : decode cX5_figureOf 45 = .ok (.ireturn, 1) := by decide +kernel
theorem dX5_figureOf_46 : decode cX5_figureOf 46 = .ok (.aload_n 1, 1) := by decide +kernel
theorem dX5_figureOf_47 : decode cX5_figureOf 47 = .ok (.getfield 188, 3) := by decide +kernel
theorem dX5_figureOf_50 : decode cX5_figureOf 50 = .ok (.ireturn, 1) := by decide +kernel
theorem dX5_figureOf_51 : decode cX5_figureOf 51 = .ok (.aload_n 0, 1) := by decide +kernel
theorem dX5_figureOf_52 : decode cX5_figureOf 52 = .ok (.aload_n 1, 1) := by decide +kernel
theorem dX5_figureOf_53 : decode cX5_figureOf 53 = .ok (.invokevirtual 148, 3) := by decide +kernel
theorem dX5_figureOf_56 : decode cX5_figureOf 56 = .ok (.ireturn, 1) := by decide +kernel
theorem dX5_figureOf_57 : decode cX5_figureOf 57 = .ok (.aload_n 0, 1) := by decide +kernel
theorem dX5_figureOf_58 : decode cX5_figureOf 58 = .ok (.aload_n 1, 1) := by decide +kernel
theorem dX5_figureOf_59 : decode cX5_figureOf 59 = .ok (.invokevirtual 168, 3) := by decide +kernel
theorem dX5_figureOf_62 : decode cX5_figureOf 62 = .ok (.ireturn, 1) := by decide +kernel
theorem dX5_figureOf_63 : decode cX5_figureOf 63 = .ok (.aload_n 1, 1) := by decide +kernel
theorem dX5_figureOf_64 : decode cX5_figureOf 64 = .ok (.getfield 357, 3) := by decide +kernel
theorem dX5_figureOf_67 : decode cX5_figureOf 67 = .ok (.ireturn, 1) := by decide +kernel
theorem dX5_figureOfLand_0 : decode cX5_figureOfLand 0 = .ok (.iload_n 1, 1) := by decide +kernel
theorem dX5_figureOfLand_1 : decode cX5_figureOfLand 1 = .ok (.tableswitch 111 0 9 #[55, 60, 65, 70, 78, 83, 91, 96, 101, 106], 55) := by decide +kernel
theorem dX5_figureOfLand_56 : decode cX5_figureOfLand 56 = .ok (.aload_n 0, 1) := by decide +kernel
theorem dX5_figureOfLand_57 : decode cX5_figureOfLand 57 = .ok (.getfield 218, 3) := by decide +kernel
theorem dX5_figureOfLand_60 : decode cX5_figureOfLand 60 = .ok (.ireturn, 1) := by decide +kernel
theorem dX5_figureOfLand_61 : decode cX5_figureOfLand 61 = .ok (.aload_n 0, 1) := by decide +kernel
theorem dX5_figureOfLand_62 : decode cX5_figureOfLand 62 = .ok (.getfield 35, 3) := by decide +kernel
theorem dX5_figureOfLand_65 : decode cX5_figureOfLand 65 = .ok (.ireturn, 1) := by decide +kernel
theorem dX5_figureOfLand_66 : decode cX5_figureOfLand 66 = .ok (.aload_n 0, 1) := by decide +kernel
theorem dX5_figureOfLand_67 : decode cX5_figureOfLand 67 = .ok (.getfield 74, 3) := by decide +kernel
theorem dX5_figureOfLand_70 : decode cX5_figureOfLand 70 = .ok (.ireturn, 1) := by decide +kernel
theorem dX5_figureOfLand_71 : decode cX5_figureOfLand 71 = .ok (.aload_n 0, 1) := by decide +kernel
theorem dX5_figureOfLand_72 : decode cX5_figureOfLand 72 = .ok (.getfield 28, 3) := by decide +kernel
theorem dX5_figureOfLand_75 : decode cX5_figureOfLand 75 = .ok (.invokevirtual 85, 3) := by decide +kernel
theorem dX5_figureOfLand_78 : decode cX5_figureOfLand 78 = .ok (.ireturn, 1) := by decide +kernel
theorem dX5_figureOfLand_79 : decode cX5_figureOfLand 79 = .ok (.aload_n 0, 1) := by decide +kernel
theorem dX5_figureOfLand_80 : decode cX5_figureOfLand 80 = .ok (.invokevirtual 358, 3) := by decide +kernel
theorem dX5_figureOfLand_83 : decode cX5_figureOfLand 83 = .ok (.ireturn, 1) := by decide +kernel
theorem dX5_figureOfLand_84 : decode cX5_figureOfLand 84 = .ok (.aload_n 0, 1) := by decide +kernel
theorem dX5_figureOfLand_85 : decode cX5_figureOfLand 85 = .ok (.getfield 32, 3) := by decide +kernel
theorem dX5_figureOfLand_88 : decode cX5_figureOfLand 88 = .ok (.invokevirtual 85, 3) := by decide +kernel
theorem dX5_figureOfLand_91 : decode cX5_figureOfLand 91 = .ok (.ireturn, 1) := by decide +kernel
theorem dX5_figureOfLand_92 : decode cX5_figureOfLand 92 = .ok (.aload_n 0, 1) := by decide +kernel
theorem dX5_figureOfLand_93 : decode cX5_figureOfLand 93 = .ok (.invokevirtual 361, 3) := by decide +kernel
theorem dX5_figureOfLand_96 : decode cX5_figureOfLand 96 = .ok (.ireturn, 1) := by decide +kernel
theorem dX5_figureOfLand_97 : decode cX5_figureOfLand 97 = .ok (.aload_n 0, 1) := by decide +kernel
theorem dX5_figureOfLand_98 : decode cX5_figureOfLand 98 = .ok (.getfield 321, 3) := by decide +kernel
theorem dX5_figureOfLand_101 : decode cX5_figureOfLand 101 = .ok (.ireturn, 1) := by decide +kernel
theorem dX5_figureOfLand_102 : decode cX5_figureOfLand 102 = .ok (.aload_n 0, 1) := by decide +kernel
theorem dX5_figureOfLand_103 : decode cX5_figureOfLand 103 = .ok (.getfield 341, 3) := by decide +kernel
theorem dX5_figureOfLand_106 : decode cX5_figureOfLand 106 = .ok (.ireturn, 1) := by decide +kernel
theorem dX5_figureOfLand_107 : decode cX5_figureOfLand 107 = .ok (.aload_n 0, 1) := by decide +kernel
theorem dX5_figureOfLand_108 : decode cX5_figureOfLand 108 = .ok (.getfield 344, 3) := by decide +kernel
theorem dX5_figureOfLand_111 : decode cX5_figureOfLand 111 = .ok (.ireturn, 1) := by decide +kernel
theorem dX5_figureOfLand_112 : decode cX5_figureOfLand 112 = .ok (.aload_n 0, 1) := by decide +kernel
theorem dX5_figureOfLand_113 : decode cX5_figureOfLand 113 = .ok (.getfield 327, 3) := by decide +kernel
theorem dX5_figureOfLand_116 : decode cX5_figureOfLand 116 = .ok (.ireturn, 1) := by decide +kernel
theorem dX5_goneRumours_0 : decode cX5_goneRumours 0 = .ok (.iconst 0, 1) := by decide +kernel
theorem dX5_goneRumours_1 : decode cX5_goneRumours 1 = .ok (.istore_n 1, 1) := by decide +kernel
theorem dX5_goneRumours_2 : decode cX5_goneRumours 2 = .ok (.iconst 0, 1) := by decide +kernel
theorem dX5_goneRumours_3 : decode cX5_goneRumours 3 = .ok (.istore_n 2, 1) := by decide +kernel
theorem dX5_goneRumours_4 : decode cX5_goneRumours 4 = .ok (.iload_n 2, 1) := by decide +kernel
theorem dX5_goneRumours_5 : decode cX5_goneRumours 5 = .ok (.aload_n 0, 1) := by decide +kernel
theorem dX5_goneRumours_6 : decode cX5_goneRumours 6 = .ok (.getfield 28, 3) := by decide +kernel
theorem dX5_goneRumours_9 : decode cX5_goneRumours 9 = .ok (.invokevirtual 85, 3) := by decide +kernel
theorem dX5_goneRumours_12 : decode cX5_goneRumours 12 = .ok (.if_icmp .ge 29, 3) := by decide +kernel
theorem dX5_goneRumours_15 : decode cX5_goneRumours 15 = .ok (.aload_n 0, 1) := by decide +kernel
theorem dX5_goneRumours_16 : decode cX5_goneRumours 16 = .ok (.getfield 28, 3) := by decide +kernel
theorem dX5_goneRumours_19 : decode cX5_goneRumours 19 = .ok (.iload_n 2, 1) := by decide +kernel
theorem dX5_goneRumours_20 : decode cX5_goneRumours 20 = .ok (.invokevirtual 221, 3) := by decide +kernel
theorem dX5_goneRumours_23 : decode cX5_goneRumours 23 = .ok (.checkcast 91, 3) := by decide +kernel
theorem dX5_goneRumours_26 : decode cX5_goneRumours 26 = .ok (.invokevirtual 351, 3) := by decide +kernel
theorem dX5_goneRumours_29 : decode cX5_goneRumours 29 = .ok (.ifCond .eq 6, 3) := by decide +kernel
theorem dX5_goneRumours_32 : decode cX5_goneRumours 32 = .ok (.iinc 1 1, 3) := by decide +kernel
theorem dX5_goneRumours_35 : decode cX5_goneRumours 35 = .ok (.iinc 2 1, 3) := by decide +kernel
theorem dX5_goneRumours_38 : decode cX5_goneRumours 38 = .ok (.goto (-34), 3) := by decide +kernel
theorem dX5_goneRumours_41 : decode cX5_goneRumours 41 = .ok (.iload_n 1, 1) := by decide +kernel
theorem dX5_goneRumours_42 : decode cX5_goneRumours 42 = .ok (.ireturn, 1) := by decide +kernel
theorem dX5_carriersOnTheWay_0 : decode cX5_carriersOnTheWay 0 = .ok (.iconst 0, 1) := by decide +kernel
theorem dX5_carriersOnTheWay_1 : decode cX5_carriersOnTheWay 1 = .ok (.istore_n 1, 1) := by decide +kernel
theorem dX5_carriersOnTheWay_2 : decode cX5_carriersOnTheWay 2 = .ok (.iconst 0, 1) := by decide +kernel
theorem dX5_carriersOnTheWay_3 : decode cX5_carriersOnTheWay 3 = .ok (.istore_n 2, 1) := by decide +kernel
theorem dX5_carriersOnTheWay_4 : decode cX5_carriersOnTheWay 4 = .ok (.iload_n 2, 1) := by decide +kernel
theorem dX5_carriersOnTheWay_5 : decode cX5_carriersOnTheWay 5 = .ok (.aload_n 0, 1) := by decide +kernel
theorem dX5_carriersOnTheWay_6 : decode cX5_carriersOnTheWay 6 = .ok (.getfield 32, 3) := by decide +kernel
theorem dX5_carriersOnTheWay_9 : decode cX5_carriersOnTheWay 9 = .ok (.invokevirtual 85, 3) := by decide +kernel
theorem dX5_carriersOnTheWay_12 : decode cX5_carriersOnTheWay 12 = .ok (.if_icmp .ge 29, 3) := by decide +kernel
theorem dX5_carriersOnTheWay_15 : decode cX5_carriersOnTheWay 15 = .ok (.aload_n 0, 1) := by decide +kernel
theorem dX5_carriersOnTheWay_16 : decode cX5_carriersOnTheWay 16 = .ok (.getfield 32, 3) := by decide +kernel
theorem dX5_carriersOnTheWay_19 : decode cX5_carriersOnTheWay 19 = .ok (.iload_n 2, 1) := by decide +kernel
theorem dX5_carriersOnTheWay_20 : decode cX5_carriersOnTheWay 20 = .ok (.invokevirtual 221, 3) := by decide +kernel
theorem dX5_carriersOnTheWay_23 : decode cX5_carriersOnTheWay 23 = .ok (.checkcast 130, 3) := by decide +kernel
theorem dX5_carriersOnTheWay_26 : decode cX5_carriersOnTheWay 26 = .ok (.invokevirtual 278, 3) := by decide +kernel
theorem dX5_carriersOnTheWay_29 : decode cX5_carriersOnTheWay 29 = .ok (.ifCond .eq 6, 3) := by decide +kernel
theorem dX5_carriersOnTheWay_32 : decode cX5_carriersOnTheWay 32 = .ok (.iinc 1 1, 3) := by decide +kernel
theorem dX5_carriersOnTheWay_35 : decode cX5_carriersOnTheWay 35 = .ok (.iinc 2 1, 3) := by decide +kernel
theorem dX5_carriersOnTheWay_38 : decode cX5_carriersOnTheWay 38 = .ok (.goto (-34), 3) := by decide +kernel
theorem dX5_carriersOnTheWay_41 : decode cX5_carriersOnTheWay 41 = .ok (.iload_n 1, 1) := by decide +kernel
theorem dX5_carriersOnTheWay_42 : decode cX5_carriersOnTheWay 42 = .ok (.ireturn, 1) := by decide +kernel
theorem dX5_digestRoads_0 : decode cX5_digestRoads 0 = .ok (.lload_n 1, 1) := by decide +kernel
theorem dX5_digestRoads_1 : decode cX5_digestRoads 1 = .ok (.lstore_n 3, 1) := by decide +kernel
theorem dX5_digestRoads_2 : decode cX5_digestRoads 2 = .ok (.iconst 0, 1) := by decide +kernel
theorem dX5_digestRoads_3 : decode cX5_digestRoads 3 = .ok (.istore 5, 2) := by decide +kernel
theorem dX5_digestRoads_5 : decode cX5_digestRoads 5 = .ok (.iload 5, 2) := by decide +kernel
theorem dX5_digestRoads_7 : decode cX5_digestRoads 7 = .ok (.aload_n 0, 1) := by decide +kernel
theorem dX5_digestRoads_8 : decode cX5_digestRoads 8 = .ok (.getfield 35, 3) := by decide +kernel
theorem dX5_digestRoads_11 : decode cX5_digestRoads 11 = .ok (.if_icmp .ge 55, 3) := by decide +kernel
theorem dX5_digestRoads_14 : decode cX5_digestRoads 14 = .ok (.iload 5, 2) := by decide +kernel
theorem dX5_digestRoads_16 : decode cX5_digestRoads 16 = .ok (.iconst 1, 1) := by decide +kernel
theorem dX5_digestRoads_17 : decode cX5_digestRoads 17 = .ok (.iadd, 1) := by decide +kernel
theorem dX5_digestRoads_18 : decode cX5_digestRoads 18 = .ok (.istore 6, 2) := by decide +kernel
theorem dX5_digestRoads_20 : decode cX5_digestRoads 20 = .ok (.iload 6, 2) := by decide +kernel
theorem dX5_digestRoads_22 : decode cX5_digestRoads 22 = .ok (.aload_n 0, 1) := by decide +kernel
theorem dX5_digestRoads_23 : decode cX5_digestRoads 23 = .ok (.getfield 35, 3) := by decide +kernel
theorem dX5_digestRoads_26 : decode cX5_digestRoads 26 = .ok (.if_icmp .ge 34, 3) := by decide +kernel
theorem dX5_digestRoads_29 : decode cX5_digestRoads 29 = .ok (.aload_n 0, 1) := by decide +kernel
theorem dX5_digestRoads_30 : decode cX5_digestRoads 30 = .ok (.getfield 10, 3) := by decide +kernel
theorem dX5_digestRoads_33 : decode cX5_digestRoads 33 = .ok (.iload 5, 2) := by decide +kernel
theorem dX5_digestRoads_35 : decode cX5_digestRoads 35 = .ok (.iload 6, 2) := by decide +kernel
theorem dX5_digestRoads_37 : decode cX5_digestRoads 37 = .ok (.invokevirtual 59, 3) := by decide +kernel
theorem dX5_digestRoads_40 : decode cX5_digestRoads 40 = .ok (.astore 7, 2) := by decide +kernel
theorem dX5_digestRoads_42 : decode cX5_digestRoads 42 = .ok (.aload 7, 2) := by decide +kernel
theorem dX5_digestRoads_44 : decode cX5_digestRoads 44 = .ok (.ifnull 10, 3) := by decide +kernel
theorem dX5_digestRoads_47 : decode cX5_digestRoads 47 = .ok (.lload_n 3, 1) := by decide +kernel
theorem dX5_digestRoads_48 : decode cX5_digestRoads 48 = .ok (.aload 7, 2) := by decide +kernel
theorem dX5_digestRoads_50 : decode cX5_digestRoads 50 = .ok (.invokestatic 364, 3) := by decide +kernel
theorem dX5_digestRoads_53 : decode cX5_digestRoads 53 = .ok (.lstore_n 3, 1) := by decide +kernel
theorem dX5_digestRoads_54 : decode cX5_digestRoads 54 = .ok (.iinc 6 1, 3) := by decide +kernel
theorem dX5_digestRoads_57 : decode cX5_digestRoads 57 = .ok (.goto (-37), 3) := by decide +kernel
theorem dX5_digestRoads_60 : decode cX5_digestRoads 60 = .ok (.iinc 5 1, 3) := by decide +kernel
theorem dX5_digestRoads_63 : decode cX5_digestRoads 63 = .ok (.goto (-58), 3) := by decide +kernel
theorem dX5_digestRoads_66 : decode cX5_digestRoads 66 = .ok (.lload_n 3, 1) := by decide +kernel
theorem dX5_digestRoads_67 : decode cX5_digestRoads 67 = .ok (.lreturn, 1) := by decide +kernel
theorem dX5_digestRoad_0 : decode cX5_digestRoad 0 = .ok (.lload_n 0, 1) := by decide +kernel
theorem dX5_digestRoad_1 : decode cX5_digestRoad 1 = .ok (.lstore_n 3, 1) := by decide +kernel
theorem dX5_digestRoad_2 : decode cX5_digestRoad 2 = .ok (.iconst 0, 1) := by decide +kernel
theorem dX5_digestRoad_3 : decode cX5_digestRoad 3 = .ok (.istore 5, 2) := by decide +kernel
theorem dX5_digestRoad_5 : decode cX5_digestRoad 5 = .ok (.iload 5, 2) := by decide +kernel
theorem dX5_digestRoad_7 : decode cX5_digestRoad 7 = .ok (.bipush 6, 2) := by decide +kernel
theorem dX5_digestRoad_9 : decode cX5_digestRoad 9 = .ok (.if_icmp .gt 23, 3) := by decide +kernel
theorem dX5_digestRoad_12 : decode cX5_digestRoad 12 = .ok (.lload_n 3, 1) := by decide +kernel
theorem dX5_digestRoad_13 : decode cX5_digestRoad 13 = .ok (.ldc2_w 253, 3) := by decide +kernel
theorem dX5_digestRoad_16 : decode cX5_digestRoad 16 = .ok (.lmul, 1) := by decide +kernel
theorem dX5_digestRoad_17 : decode cX5_digestRoad 17 = .ok (.aload_n 2, 1) := by decide +kernel
theorem dX5_digestRoad_18 : decode cX5_digestRoad 18 = .ok (.iload 5, 2) := by decide +kernel
theorem dX5_digestRoad_20 : decode cX5_digestRoad 20 = .ok (.invokevirtual 81, 3) := by decide +kernel
theorem dX5_digestRoad_23 : decode cX5_digestRoad 23 = .ok (.i2l, 1) := by decide +kernel
theorem dX5_digestRoad_24 : decode cX5_digestRoad 24 = .ok (.ladd, 1) := by decide +kernel
theorem dX5_digestRoad_25 : decode cX5_digestRoad 25 = .ok (.lstore_n 3, 1) := by decide +kernel
theorem dX5_digestRoad_26 : decode cX5_digestRoad 26 = .ok (.iinc 5 1, 3) := by decide +kernel
theorem dX5_digestRoad_29 : decode cX5_digestRoad 29 = .ok (.goto (-24), 3) := by decide +kernel
theorem dX5_digestRoad_32 : decode cX5_digestRoad 32 = .ok (.lload_n 3, 1) := by decide +kernel
theorem dX5_digestRoad_33 : decode cX5_digestRoad 33 = .ok (.lreturn, 1) := by decide +kernel
theorem dX5_digestRumours_0 : decode cX5_digestRumours 0 = .ok (.lload_n 1, 1) := by decide +kernel
theorem dX5_digestRumours_1 : decode cX5_digestRumours 1 = .ok (.lstore_n 3, 1) := by decide +kernel
theorem dX5_digestRumours_2 : decode cX5_digestRumours 2 = .ok (.iconst 0, 1) := by decide +kernel
theorem dX5_digestRumours_3 : decode cX5_digestRumours 3 = .ok (.istore 5, 2) := by decide +kernel
theorem dX5_digestRumours_5 : decode cX5_digestRumours 5 = .ok (.iload 5, 2) := by decide +kernel
theorem dX5_digestRumours_7 : decode cX5_digestRumours 7 = .ok (.aload_n 0, 1) := by decide +kernel
theorem dX5_digestRumours_8 : decode cX5_digestRumours 8 = .ok (.getfield 28, 3) := by decide +kernel
theorem dX5_digestRumours_11 : decode cX5_digestRumours 11 = .ok (.invokevirtual 85, 3) := by decide +kernel
theorem dX5_digestRumours_14 : decode cX5_digestRumours 14 = .ok (.if_icmp .ge 54, 3) := by decide +kernel
theorem dX5_digestRumours_17 : decode cX5_digestRumours 17 = .ok (.aload_n 0, 1) := by decide +kernel
theorem dX5_digestRumours_18 : decode cX5_digestRumours 18 = .ok (.getfield 28, 3) := by decide +kernel
theorem dX5_digestRumours_21 : decode cX5_digestRumours 21 = .ok (.iload 5, 2) := by decide +kernel
theorem dX5_digestRumours_23 : decode cX5_digestRumours 23 = .ok (.invokevirtual 221, 3) := by decide +kernel
theorem dX5_digestRumours_26 : decode cX5_digestRumours 26 = .ok (.checkcast 91, 3) := by decide +kernel
theorem dX5_digestRumours_29 : decode cX5_digestRumours 29 = .ok (.astore 6, 2) := by decide +kernel
theorem dX5_digestRumours_31 : decode cX5_digestRumours 31 = .ok (.iconst 0, 1) := by decide +kernel
theorem dX5_digestRumours_32 : decode cX5_digestRumours 32 = .ok (.istore 7, 2) := by decide +kernel
theorem dX5_digestRumours_34 : decode cX5_digestRumours 34 = .ok (.iload 7, 2) := by decide +kernel
theorem dX5_digestRumours_36 : decode cX5_digestRumours 36 = .ok (.bipush 6, 2) := by decide +kernel
theorem dX5_digestRumours_38 : decode cX5_digestRumours 38 = .ok (.if_icmp .gt 24, 3) := by decide +kernel
theorem dX5_digestRumours_41 : decode cX5_digestRumours 41 = .ok (.lload_n 3, 1) := by decide +kernel
theorem dX5_digestRumours_42 : decode cX5_digestRumours 42 = .ok (.ldc2_w 253, 3) := by decide +kernel
theorem dX5_digestRumours_45 : decode cX5_digestRumours 45 = .ok (.lmul, 1) := by decide +kernel
theorem dX5_digestRumours_46 : decode cX5_digestRumours 46 = .ok (.aload 6, 2) := by decide +kernel
theorem dX5_digestRumours_48 : decode cX5_digestRumours 48 = .ok (.iload 7, 2) := by decide +kernel
theorem dX5_digestRumours_50 : decode cX5_digestRumours 50 = .ok (.invokevirtual 104, 3) := by decide +kernel
theorem dX5_digestRumours_53 : decode cX5_digestRumours 53 = .ok (.i2l, 1) := by decide +kernel
theorem dX5_digestRumours_54 : decode cX5_digestRumours 54 = .ok (.ladd, 1) := by decide +kernel
theorem dX5_digestRumours_55 : decode cX5_digestRumours 55 = .ok (.lstore_n 3, 1) := by decide +kernel
theorem dX5_digestRumours_56 : decode cX5_digestRumours 56 = .ok (.iinc 7 1, 3) := by decide +kernel
theorem dX5_digestRumours_59 : decode cX5_digestRumours 59 = .ok (.goto (-25), 3) := by decide +kernel
theorem dX5_digestRumours_62 : decode cX5_digestRumours 62 = .ok (.iinc 5 1, 3) := by decide +kernel
theorem dX5_digestRumours_65 : decode cX5_digestRumours 65 = .ok (.goto (-60), 3) := by decide +kernel
theorem dX5_digestRumours_68 : decode cX5_digestRumours 68 = .ok (.lload_n 3, 1) := by decide +kernel
theorem dX5_digestRumours_69 : decode cX5_digestRumours 69 = .ok (.lreturn, 1) := by decide +kernel
theorem dX5_digestCarriers_0 : decode cX5_digestCarriers 0 = .ok (.lload_n 1, 1) := by decide +kernel
theorem dX5_digestCarriers_1 : decode cX5_digestCarriers 1 = .ok (.lstore_n 3, 1) := by decide +kernel
theorem dX5_digestCarriers_2 : decode cX5_digestCarriers 2 = .ok (.iconst 0, 1) := by decide +kernel
theorem dX5_digestCarriers_3 : decode cX5_digestCarriers 3 = .ok (.istore 5, 2) := by decide +kernel
theorem dX5_digestCarriers_5 : decode cX5_digestCarriers 5 = .ok (.iload 5, 2) := by decide +kernel
theorem dX5_digestCarriers_7 : decode cX5_digestCarriers 7 = .ok (.aload_n 0, 1) := by decide +kernel
theorem dX5_digestCarriers_8 : decode cX5_digestCarriers 8 = .ok (.getfield 32, 3) := by decide +kernel
theorem dX5_digestCarriers_11 : decode cX5_digestCarriers 11 = .ok (.invokevirtual 85, 3) := by decide +kernel
theorem dX5_digestCarriers_14 : decode cX5_digestCarriers 14 = .ok (.if_icmp .ge 54, 3) := by decide +kernel
theorem dX5_digestCarriers_17 : decode cX5_digestCarriers 17 = .ok (.aload_n 0, 1) := by decide +kernel
theorem dX5_digestCarriers_18 : decode cX5_digestCarriers 18 = .ok (.getfield 32, 3) := by decide +kernel
theorem dX5_digestCarriers_21 : decode cX5_digestCarriers 21 = .ok (.iload 5, 2) := by decide +kernel
theorem dX5_digestCarriers_23 : decode cX5_digestCarriers 23 = .ok (.invokevirtual 221, 3) := by decide +kernel
theorem dX5_digestCarriers_26 : decode cX5_digestCarriers 26 = .ok (.checkcast 130, 3) := by decide +kernel
theorem dX5_digestCarriers_29 : decode cX5_digestCarriers 29 = .ok (.astore 6, 2) := by decide +kernel
theorem dX5_digestCarriers_31 : decode cX5_digestCarriers 31 = .ok (.iconst 0, 1) := by decide +kernel
theorem dX5_digestCarriers_32 : decode cX5_digestCarriers 32 = .ok (.istore 7, 2) := by decide +kernel
theorem dX5_digestCarriers_34 : decode cX5_digestCarriers 34 = .ok (.iload 7, 2) := by decide +kernel
theorem dX5_digestCarriers_36 : decode cX5_digestCarriers 36 = .ok (.iconst 5, 1) := by decide +kernel
theorem dX5_digestCarriers_37 : decode cX5_digestCarriers 37 = .ok (.if_icmp .gt 25, 3) := by decide +kernel
theorem dX5_digestCarriers_40 : decode cX5_digestCarriers 40 = .ok (.lload_n 3, 1) := by decide +kernel
theorem dX5_digestCarriers_41 : decode cX5_digestCarriers 41 = .ok (.ldc2_w 253, 3) := by decide +kernel
theorem dX5_digestCarriers_44 : decode cX5_digestCarriers 44 = .ok (.lmul, 1) := by decide +kernel
theorem dX5_digestCarriers_45 : decode cX5_digestCarriers 45 = .ok (.aload_n 0, 1) := by decide +kernel
theorem dX5_digestCarriers_46 : decode cX5_digestCarriers 46 = .ok (.aload 6, 2) := by decide +kernel
theorem dX5_digestCarriers_48 : decode cX5_digestCarriers 48 = .ok (.iload 7, 2) := by decide +kernel
theorem dX5_digestCarriers_50 : decode cX5_digestCarriers 50 = .ok (.invokevirtual 214, 3) := by decide +kernel
theorem dX5_digestCarriers_53 : decode cX5_digestCarriers 53 = .ok (.i2l, 1) := by decide +kernel
theorem dX5_digestCarriers_54 : decode cX5_digestCarriers 54 = .ok (.ladd, 1) := by decide +kernel
theorem dX5_digestCarriers_55 : decode cX5_digestCarriers 55 = .ok (.lstore_n 3, 1) := by decide +kernel
theorem dX5_digestCarriers_56 : decode cX5_digestCarriers 56 = .ok (.iinc 7 1, 3) := by decide +kernel
theorem dX5_digestCarriers_59 : decode cX5_digestCarriers 59 = .ok (.goto (-25), 3) := by decide +kernel
theorem dX5_digestCarriers_62 : decode cX5_digestCarriers 62 = .ok (.iinc 5 1, 3) := by decide +kernel
theorem dX5_digestCarriers_65 : decode cX5_digestCarriers 65 = .ok (.goto (-60), 3) := by decide +kernel
theorem dX5_digestCarriers_68 : decode cX5_digestCarriers 68 = .ok (.lload_n 3, 1) := by decide +kernel
theorem dX5_digestCarriers_69 : decode cX5_digestCarriers 69 = .ok (.lreturn, 1) := by decide +kernel
theorem dX6_init_0 : decode cX6_init 0 = .ok (.aload_n 0, 1) := by decide +kernel
theorem dX6_init_1 : decode cX6_init 1 = .ok (.invokespecial 1, 3) := by decide +kernel
theorem dX6_init_4 : decode cX6_init 4 = .ok (.aload_n 0, 1) := by decide +kernel
theorem dX6_init_5 : decode cX6_init 5 = .ok (.sipush 700, 3) := by decide +kernel
theorem dX6_init_8 : decode cX6_init 8 = .ok (.newarray .int, 2) := by decide +kernel
theorem dX6_init_10 : decode cX6_init 10 = .ok (.putfield 9, 3) := by decide +kernel
theorem dX6_init_13 : decode cX6_init 13 = .ok (.aload_n 0, 1) := by decide +kernel
theorem dX6_init_14 : decode cX6_init 14 = .ok (.sipush 420, 3) := by decide +kernel
theorem dX6_init_17 : decode cX6_init 17 = .ok (.newarray .int, 2) := by decide +kernel
theorem dX6_init_19 : decode cX6_init 19 = .ok (.putfield 13, 3) := by decide +kernel
theorem dX6_init_22 : decode cX6_init 22 = .ok (.aload_n 0, 1) := by decide +kernel
theorem dX6_init_23 : decode cX6_init 23 = .ok (.bipush 32, 2) := by decide +kernel
theorem dX6_init_25 : decode cX6_init 25 = .ok (.newarray .int, 2) := by decide +kernel
theorem dX6_init_27 : decode cX6_init 27 = .ok (.putfield 16, 3) := by decide +kernel
theorem dX6_init_30 : decode cX6_init 30 = .ok (.aload_n 0, 1) := by decide +kernel
theorem dX6_init_31 : decode cX6_init 31 = .ok (.bipush 60, 2) := by decide +kernel
theorem dX6_init_33 : decode cX6_init 33 = .ok (.newarray .long, 2) := by decide +kernel
theorem dX6_init_35 : decode cX6_init 35 = .ok (.putfield 19, 3) := by decide +kernel
theorem dX6_init_38 : decode cX6_init 38 = .ok (.return_, 1) := by decide +kernel
theorem dX6_thrown_0 : decode cX6_thrown 0 = .ok (.aload_n 0, 1) := by decide +kernel
theorem dX6_thrown_1 : decode cX6_thrown 1 = .ok (.getfield 23, 3) := by decide +kernel
theorem dX6_thrown_4 : decode cX6_thrown 4 = .ok (.ireturn, 1) := by decide +kernel
theorem dX6_fail_0 : decode cX6_fail 0 = .ok (.aload_n 0, 1) := by decide +kernel
theorem dX6_fail_1 : decode cX6_fail 1 = .ok (.iload_n 1, 1) := by decide +kernel
theorem dX6_fail_2 : decode cX6_fail 2 = .ok (.putfield 23, 3) := by decide +kernel
theorem dX6_fail_5 : decode cX6_fail 5 = .ok (.iconst 0, 1) := by decide +kernel
theorem dX6_fail_6 : decode cX6_fail 6 = .ok (.ireturn, 1) := by decide +kernel
theorem dX6_isIn_0 : decode cX6_isIn 0 = .ok (.iload_n 0, 1) := by decide +kernel
theorem dX6_isIn_1 : decode cX6_isIn 1 = .ok (.iload_n 1, 1) := by decide +kernel
theorem dX6_isIn_2 : decode cX6_isIn 2 = .ok (.if_icmp .lt 12, 3) := by decide +kernel
theorem dX6_isIn_5 : decode cX6_isIn 5 = .ok (.iload_n 0, 1) := by decide +kernel
theorem dX6_isIn_6 : decode cX6_isIn 6 = .ok (.iload_n 2, 1) := by decide +kernel
theorem dX6_isIn_7 : decode cX6_isIn 7 = .ok (.if_icmp .gt 7, 3) := by decide +kernel
theorem dX6_isIn_10 : decode cX6_isIn 10 = .ok (.iconst 1, 1) := by decide +kernel
theorem dX6_isIn_11 : decode cX6_isIn 11 = .ok (.goto 4, 3) := by decide +kernel
theorem dX6_isIn_14 : decode cX6_isIn 14 = .ok (.iconst 0, 1) := by decide +kernel
theorem dX6_isIn_15 : decode cX6_isIn 15 = .ok (.ireturn, 1) := by decide +kernel
theorem dX6_isTown_0 : decode cX6_isTown 0 = .ok (.iload_n 1, 1) := by decide +kernel
theorem dX6_isTown_1 : decode cX6_isTown 1 = .ok (.iconst 0, 1) := by decide +kernel
theorem dX6_isTown_2 : decode cX6_isTown 2 = .ok (.aload_n 0, 1) := by decide +kernel
theorem dX6_isTown_3 : decode cX6_isTown 3 = .ok (.getfield 27, 3) := by decide +kernel
theorem dX6_isTown_6 : decode cX6_isTown 6 = .ok (.iconst 1, 1) := by decide +kernel
theorem dX6_isTown_7 : decode cX6_isTown 7 = .ok (.isub, 1) := by decide +kernel
theorem dX6_isTown_8 : decode cX6_isTown 8 = .ok (.invokestatic 30, 3) := by decide +kernel
theorem dX6_isTown_11 : decode cX6_isTown 11 = .ok (.ireturn, 1) := by decide +kernel
theorem dX6_isRumour_0 : decode cX6_isRumour 0 = .ok (.iload_n 1, 1) := by decide +kernel
theorem dX6_isRumour_1 : decode cX6_isRumour 1 = .ok (.iconst 0, 1) := by decide +kernel
theorem dX6_isRumour_2 : decode cX6_isRumour 2 = .ok (.aload_n 0, 1) := by decide +kernel
theorem dX6_isRumour_3 : decode cX6_isRumour 3 = .ok (.getfield 34, 3) := by decide +kernel
theorem dX6_isRumour_6 : decode cX6_isRumour 6 = .ok (.iconst 1, 1) := by decide +kernel
theorem dX6_isRumour_7 : decode cX6_isRumour 7 = .ok (.isub, 1) := by decide +kernel
theorem dX6_isRumour_8 : decode cX6_isRumour 8 = .ok (.invokestatic 30, 3) := by decide +kernel
theorem dX6_isRumour_11 : decode cX6_isRumour 11 = .ok (.ireturn, 1) := by decide +kernel
theorem dX6_isCarrier_0 : decode cX6_isCarrier 0 = .ok (.iload_n 1, 1) := by decide +kernel
theorem dX6_isCarrier_1 : decode cX6_isCarrier 1 = .ok (.iconst 0, 1) := by decide +kernel
theorem dX6_isCarrier_2 : decode cX6_isCarrier 2 = .ok (.aload_n 0, 1) := by decide +kernel
theorem dX6_isCarrier_3 : decode cX6_isCarrier 3 = .ok (.getfield 37, 3) := by decide +kernel
theorem dX6_isCarrier_6 : decode cX6_isCarrier 6 = .ok (.iconst 1, 1) := by decide +kernel
theorem dX6_isCarrier_7 : decode cX6_isCarrier 7 = .ok (.isub, 1) := by decide +kernel
theorem dX6_isCarrier_8 : decode cX6_isCarrier 8 = .ok (.invokestatic 30, 3) := by decide +kernel
theorem dX6_isCarrier_11 : decode cX6_isCarrier 11 = .ok (.ireturn, 1) := by decide +kernel
theorem dX6_get_0 : decode cX6_get 0 = .ok (.aload_n 0, 1) := by decide +kernel
theorem dX6_get_1 : decode cX6_get 1 = .ok (.getfield 13, 3) := by decide +kernel
theorem dX6_get_4 : decode cX6_get 4 = .ok (.bipush 7, 2) := by decide +kernel
theorem dX6_get_6 : decode cX6_get 6 = .ok (.iload_n 1, 1) := by decide +kernel
theorem dX6_get_7 : decode cX6_get 7 = .ok (.imul, 1) := by decide +kernel
theorem dX6_get_8 : decode cX6_get 8 = .ok (.iload_n 2, 1) := by decide +kernel
theorem dX6_get_9 : decode cX6_get 9 = .ok (.iadd, 1) := by decide +kernel
theorem dX6_get_10 : decode cX6_get 10 = .ok (.iaload, 1) := by decide +kernel
theorem dX6_get_11 : decode cX6_get 11 = .ok (.ireturn, 1) := by decide +kernel
theorem dX6_set_0 : decode cX6_set 0 = .ok (.aload_n 0, 1) := by decide +kernel
theorem dX6_set_1 : decode cX6_set 1 = .ok (.getfield 13, 3) := by decide +kernel
theorem dX6_set_4 : decode cX6_set 4 = .ok (.bipush 7, 2) := by decide +kernel
theorem dX6_set_6 : decode cX6_set 6 = .ok (.iload_n 1, 1) := by decide +kernel
theorem dX6_set_7 : decode cX6_set 7 = .ok (.imul, 1) := by decide +kernel
theorem dX6_set_8 : decode cX6_set 8 = .ok (.iload_n 2, 1) := by decide +kernel
theorem dX6_set_9 : decode cX6_set 9 = .ok (.iadd, 1) := by decide +kernel
theorem dX6_set_10 : decode cX6_set 10 = .ok (.iload_n 3, 1) := by decide +kernel
theorem dX6_set_11 : decode cX6_set 11 = .ok (.iastore, 1) := by decide +kernel
theorem dX6_set_12 : decode cX6_set 12 = .ok (.return_, 1) := by decide +kernel
theorem dX6_man_0 : decode cX6_man 0 = .ok (.aload_n 0, 1) := by decide +kernel
theorem dX6_man_1 : decode cX6_man 1 = .ok (.getfield 16, 3) := by decide +kernel
theorem dX6_man_4 : decode cX6_man 4 = .ok (.iconst 4, 1) := by decide +kernel
theorem dX6_man_5 : decode cX6_man 5 = .ok (.iload_n 1, 1) := by decide +kernel
theorem dX6_man_6 : decode cX6_man 6 = .ok (.imul, 1) := by decide +kernel
theorem dX6_man_7 : decode cX6_man 7 = .ok (.iload_n 2, 1) := by decide +kernel
theorem dX6_man_8 : decode cX6_man 8 = .ok (.iadd, 1) := by decide +kernel
theorem dX6_man_9 : decode cX6_man 9 = .ok (.iaload, 1) := by decide +kernel
theorem dX6_man_10 : decode cX6_man 10 = .ok (.ireturn, 1) := by decide +kernel
theorem dX6_setMan_0 : decode cX6_setMan 0 = .ok (.aload_n 0, 1) := by decide +kernel
theorem dX6_setMan_1 : decode cX6_setMan 1 = .ok (.getfield 16, 3) := by decide +kernel
theorem dX6_setMan_4 : decode cX6_setMan 4 = .ok (.iconst 4, 1) := by decide +kernel
theorem dX6_setMan_5 : decode cX6_setMan 5 = .ok (.iload_n 1, 1) := by decide +kernel
theorem dX6_setMan_6 : decode cX6_setMan 6 = .ok (.imul, 1) := by decide +kernel
theorem dX6_setMan_7 : decode cX6_setMan 7 = .ok (.iload_n 2, 1) := by decide +kernel
theorem dX6_setMan_8 : decode cX6_setMan 8 = .ok (.iadd, 1) := by decide +kernel
theorem dX6_setMan_9 : decode cX6_setMan 9 = .ok (.iload_n 3, 1) := by decide +kernel
theorem dX6_setMan_10 : decode cX6_setMan 10 = .ok (.iastore, 1) := by decide +kernel
theorem dX6_setMan_11 : decode cX6_setMan 11 = .ok (.return_, 1) := by decide +kernel
theorem dX6_base_0 : decode cX6_base 0 = .ok (.bipush 7, 2) := by decide +kernel
theorem dX6_base_2 : decode cX6_base 2 = .ok (.bipush 10, 2) := by decide +kernel
theorem dX6_base_4 : decode cX6_base 4 = .ok (.iload_n 0, 1) := by decide +kernel
theorem dX6_base_5 : decode cX6_base 5 = .ok (.iload_n 1, 1) := by decide +kernel
theorem dX6_base_6 : decode cX6_base 6 = .ok (.invokestatic 40, 3) := by decide +kernel
theorem dX6_base_9 : decode cX6_base 9 = .ok (.imul, 1) := by decide +kernel
theorem dX6_base_10 : decode cX6_base 10 = .ok (.iload_n 0, 1) := by decide +kernel
theorem dX6_base_11 : decode cX6_base 11 = .ok (.iload_n 1, 1) := by decide +kernel
theorem dX6_base_12 : decode cX6_base 12 = .ok (.invokestatic 46, 3) := by decide +kernel
theorem dX6_base_15 : decode cX6_base 15 = .ok (.iadd, 1) := by decide +kernel
theorem dX6_base_16 : decode cX6_base 16 = .ok (.imul, 1) := by decide +kernel
theorem dX6_base_17 : decode cX6_base 17 = .ok (.ireturn, 1) := by decide +kernel
theorem dX6_addTown_0 : decode cX6_addTown 0 = .ok (.aload_n 0, 1) := by decide +kernel
theorem dX6_addTown_1 : decode cX6_addTown 1 = .ok (.iconst 0, 1) := by decide +kernel
theorem dX6_addTown_2 : decode cX6_addTown 2 = .ok (.putfield 23, 3) := by decide +kernel
theorem dX6_addTown_5 : decode cX6_addTown 5 = .ok (.aload_n 0, 1) := by decide +kernel
theorem dX6_addTown_6 : decode cX6_addTown 6 = .ok (.getfield 27, 3) := by decide +kernel
theorem dX6_addTown_9 : decode cX6_addTown 9 = .ok (.bipush 10, 2) := by decide +kernel
theorem dX6_addTown_11 : decode cX6_addTown 11 = .ok (.if_icmp .ne 9, 3) := by decide +kernel
theorem dX6_addTown_14 : decode cX6_addTown 14 = .ok (.aload_n 0, 1) := by decide +kernel
theorem dX6_addTown_15 : decode cX6_addTown 15 = .ok (.iconst 1, 1) := by decide +kernel
theorem dX6_addTown_16 : decode cX6_addTown 16 = .ok (.invokevirtual 49, 3) := by decide +kernel
theorem dX6_addTown_19 : decode cX6_addTown 19 = .ok (.ireturn, 1) := by decide +kernel
theorem dX6_addTown_20 : decode cX6_addTown 20 = .ok (.aload_n 0, 1) := by decide +kernel
theorem dX6_addTown_21 : decode cX6_addTown 21 = .ok (.dup, 1) := by decide +kernel
theorem dX6_addTown_22 : decode cX6_addTown 22 = .ok (.getfield 27, 3) := by decide +kernel
theorem dX6_addTown_25 : decode cX6_addTown 25 = .ok (.iconst 1, 1) := by decide +kernel
theorem dX6_addTown_26 : decode cX6_addTown 26 = .ok (.iadd, 1) := by decide +kernel
theorem dX6_addTown_27 : decode cX6_addTown 27 = .ok (.putfield 27, 3) := by decide +kernel
theorem dX6_addTown_30 : decode cX6_addTown 30 = .ok (.aload_n 0, 1) := by decide +kernel
theorem dX6_addTown_31 : decode cX6_addTown 31 = .ok (.getfield 27, 3) := by decide +kernel
theorem dX6_addTown_34 : decode cX6_addTown 34 = .ok (.iconst 1, 1) := by decide +kernel
theorem dX6_addTown_35 : decode cX6_addTown 35 = .ok (.isub, 1) := by decide +kernel
theorem dX6_addTown_36 : decode cX6_addTown 36 = .ok (.ireturn, 1) := by decide +kernel
theorem dX6_build_0 : decode cX6_build 0 = .ok (.aload_n 0, 1) := by decide +kernel
theorem dX6_build_1 : decode cX6_build 1 = .ok (.iconst 0, 1) := by decide +kernel
theorem dX6_build_2 : decode cX6_build 2 = .ok (.putfield 23, 3) := by decide +kernel
theorem dX6_build_5 : decode cX6_build 5 = .ok (.aload_n 0, 1) := by decide +kernel
theorem dX6_build_6 : decode cX6_build 6 = .ok (.iload_n 1, 1) := by decide +kernel
theorem dX6_build_7 : decode cX6_build 7 = .ok (.invokevirtual 53, 3) := by decide +kernel
theorem dX6_build_10 : decode cX6_build 10 = .ok (.ifCond .eq 11, 3) := by decide +kernel
theorem dX6_build_13 : decode cX6_build 13 = .ok (.aload_n 0, 1) := by decide +kernel
theorem dX6_build_14 : decode cX6_build 14 = .ok (.iload_n 2, 1) := by decide +kernel
theorem dX6_build_15 : decode cX6_build 15 = .ok (.invokevirtual 53, 3) := by decide +kernel
theorem dX6_build_18 : decode cX6_build 18 = .ok (.ifCond .ne 9, 3) := by decide +kernel
theorem dX6_build_21 : decode cX6_build 21 = .ok (.aload_n 0, 1) := by decide +kernel
theorem dX6_build_22 : decode cX6_build 22 = .ok (.iconst 1, 1) := by decide +kernel
theorem dX6_build_23 : decode cX6_build 23 = .ok (.invokevirtual 49, 3) := by decide +kernel
theorem dX6_build_26 : decode cX6_build 26 = .ok (.ireturn, 1) := by decide +kernel
theorem dX6_build_27 : decode cX6_build 27 = .ok (.iload_n 1, 1) := by decide +kernel
theorem dX6_build_28 : decode cX6_build 28 = .ok (.iload_n 2, 1) := by decide +kernel
theorem dX6_build_29 : decode cX6_build 29 = .ok (.if_icmp .eq 46, 3) := by decide +kernel
theorem dX6_build_32 : decode cX6_build 32 = .ok (.iload_n 3, 1) := by decide +kernel
theorem dX6_build_33 : decode cX6_build 33 = .ok (.iconst 1, 1) := by decide +kernel
theorem dX6_build_34 : decode cX6_build 34 = .ok (.bipush 9, 2) := by decide +kernel
theorem dX6_build_36 : decode cX6_build 36 = .ok (.invokestatic 30, 3) := by decide +kernel
theorem dX6_build_39 : decode cX6_build 39 = .ok (.ifCond .eq 36, 3) := by decide +kernel
theorem dX6_build_42 : decode cX6_build 42 = .ok (.iload 4, 2) := by decide +kernel
theorem dX6_build_44 : decode cX6_build 44 = .ok (.iconst 0, 1) := by decide +kernel
theorem dX6_build_45 : decode cX6_build 45 = .ok (.bipush 20, 2) := by decide +kernel
theorem dX6_build_47 : decode cX6_build 47 = .ok (.invokestatic 30, 3) := by decide +kernel
theorem dX6_build_50 : decode cX6_build 50 = .ok (.ifCond .eq 25, 3) := by decide +kernel
theorem dX6_build_53 : decode cX6_build 53 = .ok (.iload 5, 2) := by decide +kernel
theorem dX6_build_55 : decode cX6_build 55 = .ok (.iconst 0, 1) := by decide +kernel
theorem dX6_build_56 : decode cX6_build 56 = .ok (.bipush 30, 2) := by decide +kernel
theorem dX6_build_58 : decode cX6_build 58 = .ok (.invokestatic 30, 3) := by decide +kernel
theorem dX6_build_61 : decode cX6_build 61 = .ok (.ifCond .eq 14, 3) := by decide +kernel
theorem dX6_build_64 : decode cX6_build 64 = .ok (.iload 6, 2) := by decide +kernel
theorem dX6_build_66 : decode cX6_build 66 = .ok (.iconst 0, 1) := by decide +kernel
theorem dX6_build_67 : decode cX6_build 67 = .ok (.bipush 9, 2) := by decide +kernel
theorem dX6_build_69 : decode cX6_build 69 = .ok (.invokestatic 30, 3) := by decide +kernel
theorem dX6_build_72 : decode cX6_build 72 = .ok (.ifCond .ne 9, 3) := by decide +kernel
theorem dX6_build_75 : decode cX6_build 75 = .ok (.aload_n 0, 1) := by decide +kernel
theorem dX6_build_76 : decode cX6_build 76 = .ok (.iconst 2, 1) := by decide +kernel
theorem dX6_build_77 : decode cX6_build 77 = .ok (.invokevirtual 49, 3) := by decide +kernel
theorem dX6_build_80 : decode cX6_build 80 = .ok (.ireturn, 1) := by decide +kernel
theorem dX6_build_81 : decode cX6_build 81 = .ok (.aload_n 0, 1) := by decide +kernel
theorem dX6_build_82 : decode cX6_build 82 = .ok (.getfield 9, 3) := by decide +kernel
theorem dX6_build_85 : decode cX6_build 85 = .ok (.iload_n 1, 1) := by decide +kernel
theorem dX6_build_86 : decode cX6_build 86 = .ok (.iload_n 2, 1) := by decide +kernel
theorem dX6_build_87 : decode cX6_build 87 = .ok (.invokestatic 57, 3) := by decide +kernel
theorem dX6_build_90 : decode cX6_build 90 = .ok (.iaload, 1) := by decide +kernel
theorem dX6_build_91 : decode cX6_build 91 = .ok (.iconst 1, 1) := by decide +kernel
theorem dX6_build_92 : decode cX6_build 92 = .ok (.if_icmp .ne 9, 3) := by decide +kernel
theorem dX6_build_95 : decode cX6_build 95 = .ok (.aload_n 0, 1) := by decide +kernel
theorem dX6_build_96 : decode cX6_build 96 = .ok (.iconst 3, 1) := by decide +kernel
theorem dX6_build_97 : decode cX6_build 97 = .ok (.invokevirtual 49, 3) := by decide +kernel
theorem dX6_build_100 : decode cX6_build 100 = .ok (.ireturn, 1) := by decide +kernel
theorem dX6_build_101 : decode cX6_build 101 = .ok (.bipush 7, 2) := by decide +kernel
theorem dX6_build_103 : decode cX6_build 103 = .ok (.newarray .int, 2) := by decide +kernel
theorem dX6_build_105 : decode cX6_build 105 = .ok (.dup, 1) := by decide +kernel
theorem dX6_build_106 : decode cX6_build 106 = .ok (.iconst 0, 1) := by decide +kernel
theorem dX6_build_107 : decode cX6_build 107 = .ok (.iconst 1, 1) := by decide +kernel
theorem dX6_build_108 : decode cX6_build 108 = .ok (.iastore, 1) := by decide +kernel
theorem dX6_build_109 : decode cX6_build 109 = .ok (.dup, 1) := by decide +kernel
theorem dX6_build_110 : decode cX6_build 110 = .ok (.iconst 1, 1) := by decide +kernel
theorem dX6_build_111 : decode cX6_build 111 = .ok (.iload_n 3, 1) := by decide +kernel
theorem dX6_build_112 : decode cX6_build 112 = .ok (.iastore, 1) := by decide +kernel
theorem dX6_build_113 : decode cX6_build 113 = .ok (.dup, 1) := by decide +kernel
theorem dX6_build_114 : decode cX6_build 114 = .ok (.iconst 2, 1) := by decide +kernel
theorem dX6_build_115 : decode cX6_build 115 = .ok (.iload 4, 2) := by decide +kernel
theorem dX6_build_117 : decode cX6_build 117 = .ok (.iastore, 1) := by decide +kernel
theorem dX6_build_118 : decode cX6_build 118 = .ok (.dup, 1) := by decide +kernel
theorem dX6_build_119 : decode cX6_build 119 = .ok (.iconst 3, 1) := by decide +kernel
theorem dX6_build_120 : decode cX6_build 120 = .ok (.iload 5, 2) := by decide +kernel
theorem dX6_build_122 : decode cX6_build 122 = .ok (.iastore, 1) := by decide +kernel
theorem dX6_build_123 : decode cX6_build 123 = .ok (.dup, 1) := by decide +kernel
theorem dX6_build_124 : decode cX6_build 124 = .ok (.iconst 4, 1) := by decide +kernel
theorem dX6_build_125 : decode cX6_build 125 = .ok (.iload 6, 2) := by decide +kernel
theorem dX6_build_127 : decode cX6_build 127 = .ok (.iastore, 1) := by decide +kernel
theorem dX6_build_128 : decode cX6_build 128 = .ok (.dup, 1) := by decide +kernel
theorem dX6_build_129 : decode cX6_build 129 = .ok (.iconst 5, 1) := by decide +kernel
theorem dX6_build_130 : decode cX6_build 130 = .ok (.iconst 0, 1) := by decide +kernel
theorem dX6_build_131 : decode cX6_build 131 = .ok (.iastore, 1) := by decide +kernel
theorem dX6_build_132 : decode cX6_build 132 = .ok (.dup, 1) := by decide +kernel
theorem dX6_build_133 : decode cX6_build 133 = .ok (.bipush 6, 2) := by decide +kernel
theorem dX6_build_135 : decode cX6_build 135 = .ok (.iconst 0, 1) := by decide +kernel
theorem dX6_build_136 : decode cX6_build 136 = .ok (.iastore, 1) := by decide +kernel
theorem dX6_build_137 : decode cX6_build 137 = .ok (.astore 7, 2) := by decide +kernel
theorem dX6_build_139 : decode cX6_build 139 = .ok (.aload 7, 2) := by decide +kernel
theorem dX6_build_141 : decode cX6_build 141 = .ok (.iconst 0, 1) := by decide +kernel
theorem dX6_build_142 : decode cX6_build 142 = .ok (.aload_n 0, 1) := by decide +kernel
theorem dX6_build_143 : decode cX6_build 143 = .ok (.getfield 9, 3) := by decide +kernel
theorem dX6_build_146 : decode cX6_build 146 = .ok (.iload_n 1, 1) := by decide +kernel
theorem dX6_build_147 : decode cX6_build 147 = .ok (.iload_n 2, 1) := by decide +kernel
theorem dX6_build_148 : decode cX6_build 148 = .ok (.invokestatic 57, 3) := by decide +kernel
theorem dX6_build_151 : decode cX6_build 151 = .ok (.bipush 7, 2) := by decide +kernel
theorem dX6_build_153 : decode cX6_build 153 = .ok (.invokestatic 60, 3) := by decide +kernel
theorem dX6_build_156 : decode cX6_build 156 = .ok (.aload_n 0, 1) := by decide +kernel
theorem dX6_build_157 : decode cX6_build 157 = .ok (.dup, 1) := by decide +kernel
theorem dX6_build_158 : decode cX6_build 158 = .ok (.getfield 66, 3) := by decide +kernel
theorem dX6_build_161 : decode cX6_build 161 = .ok (.iconst 1, 1) := by decide +kernel
theorem dX6_build_162 : decode cX6_build 162 = .ok (.iadd, 1) := by decide +kernel
theorem dX6_build_163 : decode cX6_build 163 = .ok (.putfield 66, 3) := by decide +kernel
theorem dX6_build_166 : decode cX6_build 166 = .ok (.aload_n 0, 1) := by decide +kernel
theorem dX6_build_167 : decode cX6_build 167 = .ok (.getfield 66, 3) := by decide +kernel
theorem dX6_build_170 : decode cX6_build 170 = .ok (.ireturn, 1) := by decide +kernel
theorem dX6_road_0 : decode cX6_road 0 = .ok (.aload_n 0, 1) := by decide +kernel
theorem dX6_road_1 : decode cX6_road 1 = .ok (.iconst 0, 1) := by decide +kernel
theorem dX6_road_2 : decode cX6_road 2 = .ok (.putfield 23, 3) := by decide +kernel
theorem dX6_road_5 : decode cX6_road 5 = .ok (.aload_n 0, 1) := by decide +kernel
theorem dX6_road_6 : decode cX6_road 6 = .ok (.iload_n 1, 1) := by decide +kernel
theorem dX6_road_7 : decode cX6_road 7 = .ok (.invokevirtual 53, 3) := by decide +kernel
theorem dX6_road_10 : decode cX6_road 10 = .ok (.ifCond .eq 36, 3) := by decide +kernel
theorem dX6_road_13 : decode cX6_road 13 = .ok (.aload_n 0, 1) := by decide +kernel
theorem dX6_road_14 : decode cX6_road 14 = .ok (.iload_n 2, 1) := by decide +kernel
theorem dX6_road_15 : decode cX6_road 15 = .ok (.invokevirtual 53, 3) := by decide +kernel
theorem dX6_road_18 : decode cX6_road 18 = .ok (.ifCond .eq 28, 3) := by decide +kernel
theorem dX6_road_21 : decode cX6_road 21 = .ok (.iload_n 3, 1) := by decide +kernel
theorem dX6_road_22 : decode cX6_road 22 = .ok (.iconst 0, 1) := by decide +kernel
theorem dX6_road_23 : decode cX6_road 23 = .ok (.bipush 6, 2) := by decide +kernel
theorem dX6_road_25 : decode cX6_road 25 = .ok (.invokestatic 30, 3) := by decide +kernel
theorem dX6_road_28 : decode cX6_road 28 = .ok (.ifCond .eq 18, 3) := by decide +kernel
theorem dX6_road_31 : decode cX6_road 31 = .ok (.aload_n 0, 1) := by decide +kernel
theorem dX6_road_32 : decode cX6_road 32 = .ok (.getfield 9, 3) := by decide +kernel
theorem dX6_road_35 : decode cX6_road 35 = .ok (.iload_n 1, 1) := by decide +kernel
theorem dX6_road_36 : decode cX6_road 36 = .ok (.iload_n 2, 1) := by decide +kernel
theorem dX6_road_37 : decode cX6_road 37 = .ok (.invokestatic 57, 3) := by decide +kernel
theorem dX6_road_40 : decode cX6_road 40 = .ok (.iload_n 3, 1) := by decide +kernel
theorem dX6_road_41 : decode cX6_road 41 = .ok (.iadd, 1) := by decide +kernel
theorem dX6_road_42 : decode cX6_road 42 = .ok (.iaload, 1) := by decide +kernel
theorem dX6_road_43 : decode cX6_road 43 = .ok (.goto 8, 3) := by decide +kernel
theorem dX6_road_46 : decode cX6_road 46 = .ok (.aload_n 0, 1) := by decide +kernel
theorem dX6_road_47 : decode cX6_road 47 = .ok (.iconst 1, 1) := by decide +kernel
theorem dX6_road_48 : decode cX6_road 48 = .ok (.invokevirtual 49, 3) := by decide +kernel
theorem dX6_road_51 : decode cX6_road 51 = .ok (.ireturn, 1) := by decide +kernel
theorem dX6_add_0 : decode cX6_add 0 = .ok (.bipush 7, 2) := by decide +kernel
theorem dX6_add_2 : decode cX6_add 2 = .ok (.newarray .int, 2) := by decide +kernel

theorem dX6_add_4 : decode cX6_add 4 = .ok (.dup, 1) := by decide +kernel
theorem dX6_add_5 : decode cX6_add 5 = .ok (.iconst 0, 1) := by decide +kernel
theorem dX6_add_6 : decode cX6_add 6 = .ok (.iload_n 1, 1) := by decide +kernel
theorem dX6_add_7 : decode cX6_add 7 = .ok (.iastore, 1) := by decide +kernel
theorem dX6_add_8 : decode cX6_add 8 = .ok (.dup, 1) := by decide +kernel
theorem dX6_add_9 : decode cX6_add 9 = .ok (.iconst 1, 1) := by decide +kernel
theorem dX6_add_10 : decode cX6_add 10 = .ok (.iload_n 2, 1) := by decide +kernel
theorem dX6_add_11 : decode cX6_add 11 = .ok (.iastore, 1) := by decide +kernel
theorem dX6_add_12 : decode cX6_add 12 = .ok (.dup, 1) := by decide +kernel
theorem dX6_add_13 : decode cX6_add 13 = .ok (.iconst 2, 1) := by decide +kernel
theorem dX6_add_14 : decode cX6_add 14 = .ok (.iload_n 3, 1) := by decide +kernel
theorem dX6_add_15 : decode cX6_add 15 = .ok (.iastore, 1) := by decide +kernel
theorem dX6_add_16 : decode cX6_add 16 = .ok (.dup, 1) := by decide +kernel
theorem dX6_add_17 : decode cX6_add 17 = .ok (.iconst 3, 1) := by decide +kernel
theorem dX6_add_18 : decode cX6_add 18 = .ok (.iload 4, 2) := by decide +kernel
theorem dX6_add_20 : decode cX6_add 20 = .ok (.iastore, 1) := by decide +kernel
theorem dX6_add_21 : decode cX6_add 21 = .ok (.dup, 1) := by decide +kernel
theorem dX6_add_22 : decode cX6_add 22 = .ok (.iconst 4, 1) := by decide +kernel
theorem dX6_add_23 : decode cX6_add 23 = .ok (.iload 5, 2) := by decide +kernel
theorem dX6_add_25 : decode cX6_add 25 = .ok (.iastore, 1) := by decide +kernel
theorem dX6_add_26 : decode cX6_add 26 = .ok (.dup, 1) := by decide +kernel
theorem dX6_add_27 : decode cX6_add 27 = .ok (.iconst 5, 1) := by decide +kernel
theorem dX6_add_28 : decode cX6_add 28 = .ok (.iconst (-1), 1) := by decide +kernel
theorem dX6_add_29 : decode cX6_add 29 = .ok (.iastore, 1) := by decide +kernel
theorem dX6_add_30 : decode cX6_add 30 = .ok (.dup, 1) := by decide +kernel
theorem dX6_add_31 : decode cX6_add 31 = .ok (.bipush 6, 2) := by decide +kernel
theorem dX6_add_33 : decode cX6_add 33 = .ok (.iconst 0, 1) := by decide +kernel
theorem dX6_add_34 : decode cX6_add 34 = .ok (.iastore, 1) := by decide +kernel
theorem dX6_add_35 : decode cX6_add 35 = .ok (.astore 6, 2) := by decide +kernel
theorem dX6_add_37 : decode cX6_add 37 = .ok (.aload 6, 2) := by decide +kernel
theorem dX6_add_39 : decode cX6_add 39 = .ok (.iconst 0, 1) := by decide +kernel
theorem dX6_add_40 : decode cX6_add 40 = .ok (.aload_n 0, 1) := by decide +kernel
theorem dX6_add_41 : decode cX6_add 41 = .ok (.getfield 13, 3) := by decide +kernel
theorem dX6_add_44 : decode cX6_add 44 = .ok (.bipush 7, 2) := by decide +kernel
theorem dX6_add_46 : decode cX6_add 46 = .ok (.aload_n 0, 1) := by decide +kernel
theorem dX6_add_47 : decode cX6_add 47 = .ok (.getfield 34, 3) := by decide +kernel
theorem dX6_add_50 : decode cX6_add 50 = .ok (.imul, 1) := by decide +kernel
theorem dX6_add_51 : decode cX6_add 51 = .ok (.bipush 7, 2) := by decide +kernel
theorem dX6_add_53 : decode cX6_add 53 = .ok (.invokestatic 60, 3) := by decide +kernel
theorem dX6_add_56 : decode cX6_add 56 = .ok (.aload_n 0, 1) := by decide +kernel
theorem dX6_add_57 : decode cX6_add 57 = .ok (.dup, 1) := by decide +kernel
theorem dX6_add_58 : decode cX6_add 58 = .ok (.getfield 34, 3) := by decide +kernel
theorem dX6_add_61 : decode cX6_add 61 = .ok (.iconst 1, 1) := by decide +kernel
theorem dX6_add_62 : decode cX6_add 62 = .ok (.iadd, 1) := by decide +kernel
theorem dX6_add_63 : decode cX6_add 63 = .ok (.putfield 34, 3) := by decide +kernel
theorem dX6_add_66 : decode cX6_add 66 = .ok (.aload_n 0, 1) := by decide +kernel
theorem dX6_add_67 : decode cX6_add 67 = .ok (.getfield 34, 3) := by decide +kernel
theorem dX6_add_70 : decode cX6_add 70 = .ok (.iconst 1, 1) := by decide +kernel
theorem dX6_add_71 : decode cX6_add 71 = .ok (.isub, 1) := by decide +kernel
theorem dX6_add_72 : decode cX6_add 72 = .ok (.ireturn, 1) := by decide +kernel
theorem dX6_makeUp_0 : decode cX6_makeUp 0 = .ok (.aload_n 0, 1) := by decide +kernel
theorem dX6_makeUp_1 : decode cX6_makeUp 1 = .ok (.iconst 0, 1) := by decide +kernel
theorem dX6_makeUp_2 : decode cX6_makeUp 2 = .ok (.putfield 23, 3) := by decide +kernel
theorem dX6_makeUp_5 : decode cX6_makeUp 5 = .ok (.aload_n 0, 1) := by decide +kernel
theorem dX6_makeUp_6 : decode cX6_makeUp 6 = .ok (.iload_n 1, 1) := by decide +kernel
theorem dX6_makeUp_7 : decode cX6_makeUp 7 = .ok (.invokevirtual 53, 3) := by decide +kernel
theorem dX6_makeUp_10 : decode cX6_makeUp 10 = .ok (.ifCond .ne 9, 3) := by decide +kernel
theorem dX6_makeUp_13 : decode cX6_makeUp 13 = .ok (.aload_n 0, 1) := by decide +kernel
theorem dX6_makeUp_14 : decode cX6_makeUp 14 = .ok (.iconst 1, 1) := by decide +kernel
theorem dX6_makeUp_15 : decode cX6_makeUp 15 = .ok (.invokevirtual 49, 3) := by decide +kernel
theorem dX6_makeUp_18 : decode cX6_makeUp 18 = .ok (.ireturn, 1) := by decide +kernel
theorem dX6_makeUp_19 : decode cX6_makeUp 19 = .ok (.iload_n 2, 1) := by decide +kernel
theorem dX6_makeUp_20 : decode cX6_makeUp 20 = .ok (.iconst 1, 1) := by decide +kernel
theorem dX6_makeUp_21 : decode cX6_makeUp 21 = .ok (.bipush 30, 2) := by decide +kernel
theorem dX6_makeUp_23 : decode cX6_makeUp 23 = .ok (.invokestatic 30, 3) := by decide +kernel
theorem dX6_makeUp_26 : decode cX6_makeUp 26 = .ok (.ifCond .eq 12, 3) := by decide +kernel
theorem dX6_makeUp_29 : decode cX6_makeUp 29 = .ok (.iload_n 3, 1) := by decide +kernel
theorem dX6_makeUp_30 : decode cX6_makeUp 30 = .ok (.iconst 0, 1) := by decide +kernel
theorem dX6_makeUp_31 : decode cX6_makeUp 31 = .ok (.iconst 5, 1) := by decide +kernel
theorem dX6_makeUp_32 : decode cX6_makeUp 32 = .ok (.invokestatic 30, 3) := by decide +kernel
theorem dX6_makeUp_35 : decode cX6_makeUp 35 = .ok (.ifCond .ne 9, 3) := by decide +kernel
theorem dX6_makeUp_38 : decode cX6_makeUp 38 = .ok (.aload_n 0, 1) := by decide +kernel
theorem dX6_makeUp_39 : decode cX6_makeUp 39 = .ok (.iconst 2, 1) := by decide +kernel
theorem dX6_makeUp_40 : decode cX6_makeUp 40 = .ok (.invokevirtual 49, 3) := by decide +kernel
theorem dX6_makeUp_43 : decode cX6_makeUp 43 = .ok (.ireturn, 1) := by decide +kernel
theorem dX6_makeUp_44 : decode cX6_makeUp 44 = .ok (.aload_n 0, 1) := by decide +kernel
theorem dX6_makeUp_45 : decode cX6_makeUp 45 = .ok (.getfield 34, 3) := by decide +kernel
theorem dX6_makeUp_48 : decode cX6_makeUp 48 = .ok (.bipush 60, 2) := by decide +kernel
theorem dX6_makeUp_50 : decode cX6_makeUp 50 = .ok (.if_icmp .ne 11, 3) := by decide +kernel
theorem dX6_makeUp_53 : decode cX6_makeUp 53 = .ok (.aload_n 0, 1) := by decide +kernel
theorem dX6_makeUp_54 : decode cX6_makeUp 54 = .ok (.iconst 3, 1) := by decide +kernel
theorem dX6_makeUp_55 : decode cX6_makeUp 55 = .ok (.invokevirtual 49, 3) := by decide +kernel
theorem dX6_makeUp_58 : decode cX6_makeUp 58 = .ok (.goto 15, 3) := by decide +kernel
theorem dX6_makeUp_61 : decode cX6_makeUp 61 = .ok (.aload_n 0, 1) := by decide +kernel
theorem dX6_makeUp_62 : decode cX6_makeUp 62 = .ok (.iload_n 2, 1) := by decide +kernel
theorem dX6_makeUp_63 : decode cX6_makeUp 63 = .ok (.iconst 0, 1) := by decide +kernel
theorem dX6_makeUp_64 : decode cX6_makeUp 64 = .ok (.iload_n 3, 1) := by decide +kernel
theorem dX6_makeUp_65 : decode cX6_makeUp 65 = .ok (.aload_n 0, 1) := by decide +kernel
theorem dX6_makeUp_66 : decode cX6_makeUp 66 = .ok (.getfield 34, 3) := by decide +kernel
theorem dX6_makeUp_69 : decode cX6_makeUp 69 = .ok (.iload_n 1, 1) := by decide +kernel
theorem dX6_makeUp_70 : decode cX6_makeUp 70 = .ok (.invokevirtual 69, 3) := by decide +kernel
theorem dX6_makeUp_73 : decode cX6_makeUp 73 = .ok (.ireturn, 1) := by decide +kernel
theorem dX6_rumour_0 : decode cX6_rumour 0 = .ok (.aload_n 0, 1) := by decide +kernel
theorem dX6_rumour_1 : decode cX6_rumour 1 = .ok (.iconst 0, 1) := by decide +kernel
theorem dX6_rumour_2 : decode cX6_rumour 2 = .ok (.putfield 23, 3) := by decide +kernel
theorem dX6_rumour_5 : decode cX6_rumour 5 = .ok (.aload_n 0, 1) := by decide +kernel
theorem dX6_rumour_6 : decode cX6_rumour 6 = .ok (.iload_n 1, 1) := by decide +kernel
theorem dX6_rumour_7 : decode cX6_rumour 7 = .ok (.invokevirtual 73, 3) := by decide +kernel
theorem dX6_rumour_10 : decode cX6_rumour 10 = .ok (.ifCond .eq 22, 3) := by decide +kernel
theorem dX6_rumour_13 : decode cX6_rumour 13 = .ok (.iload_n 2, 1) := by decide +kernel
theorem dX6_rumour_14 : decode cX6_rumour 14 = .ok (.iconst 0, 1) := by decide +kernel
theorem dX6_rumour_15 : decode cX6_rumour 15 = .ok (.bipush 6, 2) := by decide +kernel
theorem dX6_rumour_17 : decode cX6_rumour 17 = .ok (.invokestatic 30, 3) := by decide +kernel
theorem dX6_rumour_20 : decode cX6_rumour 20 = .ok (.ifCond .eq 12, 3) := by decide +kernel
theorem dX6_rumour_23 : decode cX6_rumour 23 = .ok (.aload_n 0, 1) := by decide +kernel
theorem dX6_rumour_24 : decode cX6_rumour 24 = .ok (.iload_n 1, 1) := by decide +kernel
theorem dX6_rumour_25 : decode cX6_rumour 25 = .ok (.iload_n 2, 1) := by decide +kernel
theorem dX6_rumour_26 : decode cX6_rumour 26 = .ok (.invokevirtual 76, 3) := by decide +kernel
theorem dX6_rumour_29 : decode cX6_rumour 29 = .ok (.goto 8, 3) := by decide +kernel
theorem dX6_rumour_32 : decode cX6_rumour 32 = .ok (.aload_n 0, 1) := by decide +kernel
theorem dX6_rumour_33 : decode cX6_rumour 33 = .ok (.iconst 1, 1) := by decide +kernel
theorem dX6_rumour_34 : decode cX6_rumour 34 = .ok (.invokevirtual 49, 3) := by decide +kernel
theorem dX6_rumour_37 : decode cX6_rumour 37 = .ok (.ireturn, 1) := by decide +kernel
theorem dX6_knows_0 : decode cX6_knows 0 = .ok (.aload_n 0, 1) := by decide +kernel
theorem dX6_knows_1 : decode cX6_knows 1 = .ok (.iload_n 1, 1) := by decide +kernel
theorem dX6_knows_2 : decode cX6_knows 2 = .ok (.iload_n 2, 1) := by decide +kernel
theorem dX6_knows_3 : decode cX6_knows 3 = .ok (.invokevirtual 79, 3) := by decide +kernel
theorem dX6_knows_6 : decode cX6_knows 6 = .ok (.iconst (-1), 1) := by decide +kernel
theorem dX6_knows_7 : decode cX6_knows 7 = .ok (.if_icmp .eq 7, 3) := by decide +kernel
theorem dX6_knows_10 : decode cX6_knows 10 = .ok (.iconst 1, 1) := by decide +kernel
theorem dX6_knows_11 : decode cX6_knows 11 = .ok (.goto 4, 3) := by decide +kernel
theorem dX6_knows_14 : decode cX6_knows 14 = .ok (.iconst 0, 1) := by decide +kernel
theorem dX6_knows_15 : decode cX6_knows 15 = .ok (.ireturn, 1) := by decide +kernel
theorem dX6_heardOf_0 : decode cX6_heardOf 0 = .ok (.iconst (-1), 1) := by decide +kernel
theorem dX6_heardOf_1 : decode cX6_heardOf 1 = .ok (.istore_n 3, 1) := by decide +kernel
theorem dX6_heardOf_2 : decode cX6_heardOf 2 = .ok (.iconst 0, 1) := by decide +kernel
theorem dX6_heardOf_3 : decode cX6_heardOf 3 = .ok (.istore 4, 2) := by decide +kernel
theorem dX6_heardOf_5 : decode cX6_heardOf 5 = .ok (.iload 4, 2) := by decide +kernel
theorem dX6_heardOf_7 : decode cX6_heardOf 7 = .ok (.aload_n 0, 1) := by decide +kernel
theorem dX6_heardOf_8 : decode cX6_heardOf 8 = .ok (.getfield 34, 3) := by decide +kernel
theorem dX6_heardOf_11 : decode cX6_heardOf 11 = .ok (.if_icmp .ge 55, 3) := by decide +kernel
theorem dX6_heardOf_14 : decode cX6_heardOf 14 = .ok (.aload_n 0, 1) := by decide +kernel
theorem dX6_heardOf_15 : decode cX6_heardOf 15 = .ok (.iload 4, 2) := by decide +kernel
theorem dX6_heardOf_17 : decode cX6_heardOf 17 = .ok (.iconst 4, 1) := by decide +kernel
theorem dX6_heardOf_18 : decode cX6_heardOf 18 = .ok (.invokevirtual 76, 3) := by decide +kernel
theorem dX6_heardOf_21 : decode cX6_heardOf 21 = .ok (.iload_n 1, 1) := by decide +kernel
theorem dX6_heardOf_22 : decode cX6_heardOf 22 = .ok (.if_icmp .ne 38, 3) := by decide +kernel
theorem dX6_heardOf_25 : decode cX6_heardOf 25 = .ok (.aload_n 0, 1) := by decide +kernel
theorem dX6_heardOf_26 : decode cX6_heardOf 26 = .ok (.iload 4, 2) := by decide +kernel
theorem dX6_heardOf_28 : decode cX6_heardOf 28 = .ok (.iconst 3, 1) := by decide +kernel
theorem dX6_heardOf_29 : decode cX6_heardOf 29 = .ok (.invokevirtual 76, 3) := by decide +kernel
theorem dX6_heardOf_32 : decode cX6_heardOf 32 = .ok (.iload_n 2, 1) := by decide +kernel
theorem dX6_heardOf_33 : decode cX6_heardOf 33 = .ok (.if_icmp .ne 27, 3) := by decide +kernel
theorem dX6_heardOf_36 : decode cX6_heardOf 36 = .ok (.iload_n 3, 1) := by decide +kernel
theorem dX6_heardOf_37 : decode cX6_heardOf 37 = .ok (.iconst (-1), 1) := by decide +kernel
theorem dX6_heardOf_38 : decode cX6_heardOf 38 = .ok (.if_icmp .eq 19, 3) := by decide +kernel
theorem dX6_heardOf_41 : decode cX6_heardOf 41 = .ok (.aload_n 0, 1) := by decide +kernel
theorem dX6_heardOf_42 : decode cX6_heardOf 42 = .ok (.iload 4, 2) := by decide +kernel
theorem dX6_heardOf_44 : decode cX6_heardOf 44 = .ok (.iconst 1, 1) := by decide +kernel
theorem dX6_heardOf_45 : decode cX6_heardOf 45 = .ok (.invokevirtual 76, 3) := by decide +kernel
theorem dX6_heardOf_48 : decode cX6_heardOf 48 = .ok (.aload_n 0, 1) := by decide +kernel
theorem dX6_heardOf_49 : decode cX6_heardOf 49 = .ok (.iload_n 3, 1) := by decide +kernel
theorem dX6_heardOf_50 : decode cX6_heardOf 50 = .ok (.iconst 1, 1) := by decide +kernel
theorem dX6_heardOf_51 : decode cX6_heardOf 51 = .ok (.invokevirtual 76, 3) := by decide +kernel
theorem dX6_heardOf_54 : decode cX6_heardOf 54 = .ok (.if_icmp .ge 6, 3) := by decide +kernel
theorem dX6_heardOf_57 : decode cX6_heardOf 57 = .ok (.iload 4, 2) := by decide +kernel
theorem dX6_heardOf_59 : decode cX6_heardOf 59 = .ok (.istore_n 3, 1) := by decide +kernel
theorem dX6_heardOf_60 : decode cX6_heardOf 60 = .ok (.iinc 4 1, 3) := by decide +kernel
theorem dX6_heardOf_63 : decode cX6_heardOf 63 = .ok (.goto (-58), 3) := by decide +kernel
theorem dX6_heardOf_66 : decode cX6_heardOf 66 = .ok (.iload_n 3, 1) := by decide +kernel
theorem dX6_heardOf_67 : decode cX6_heardOf 67 = .ok (.ireturn, 1) := by decide +kernel
theorem dX6_townTold_0 : decode cX6_townTold 0 = .ok (.iconst 0, 1) := by decide +kernel
theorem dX6_townTold_1 : decode cX6_townTold 1 = .ok (.istore_n 3, 1) := by decide +kernel
theorem dX6_townTold_2 : decode cX6_townTold 2 = .ok (.iconst (-1), 1) := by decide +kernel
theorem dX6_townTold_3 : decode cX6_townTold 3 = .ok (.istore 4, 2) := by decide +kernel
theorem dX6_townTold_5 : decode cX6_townTold 5 = .ok (.iconst 0, 1) := by decide +kernel
theorem dX6_townTold_6 : decode cX6_townTold 6 = .ok (.istore 5, 2) := by decide +kernel
theorem dX6_townTold_8 : decode cX6_townTold 8 = .ok (.iload 5, 2) := by decide +kernel
theorem dX6_townTold_10 : decode cX6_townTold 10 = .ok (.aload_n 0, 1) := by decide +kernel
theorem dX6_townTold_11 : decode cX6_townTold 11 = .ok (.getfield 34, 3) := by decide +kernel
theorem dX6_townTold_14 : decode cX6_townTold 14 = .ok (.if_icmp .ge 85, 3) := by decide +kernel
theorem dX6_townTold_17 : decode cX6_townTold 17 = .ok (.iload_n 2, 1) := by decide +kernel
theorem dX6_townTold_18 : decode cX6_townTold 18 = .ok (.iconst 3, 1) := by decide +kernel
theorem dX6_townTold_19 : decode cX6_townTold 19 = .ok (.if_icmp .eq 80, 3) := by decide +kernel
theorem dX6_townTold_22 : decode cX6_townTold 22 = .ok (.iload_n 2, 1) := by decide +kernel
theorem dX6_townTold_23 : decode cX6_townTold 23 = .ok (.iconst 1, 1) := by decide +kernel
theorem dX6_townTold_24 : decode cX6_townTold 24 = .ok (.if_icmp .ne 21, 3) := by decide +kernel
theorem dX6_townTold_27 : decode cX6_townTold 27 = .ok (.iload_n 3, 1) := by decide +kernel
theorem dX6_townTold_28 : decode cX6_townTold 28 = .ok (.aload_n 0, 1) := by decide +kernel
theorem dX6_townTold_29 : decode cX6_townTold 29 = .ok (.iload_n 1, 1) := by decide +kernel
theorem dX6_townTold_30 : decode cX6_townTold 30 = .ok (.iload 5, 2) := by decide +kernel
theorem dX6_townTold_32 : decode cX6_townTold 32 = .ok (.invokevirtual 82, 3) := by decide +kernel
theorem dX6_townTold_35 : decode cX6_townTold 35 = .ok (.ifCond .eq 7, 3) := by decide +kernel
theorem dX6_townTold_38 : decode cX6_townTold 38 = .ok (.iconst 1, 1) := by decide +kernel
theorem dX6_townTold_39 : decode cX6_townTold 39 = .ok (.goto 4, 3) := by decide +kernel
theorem dX6_townTold_42 : decode cX6_townTold 42 = .ok (.iconst 0, 1) := by decide +kernel
theorem dX6_townTold_43 : decode cX6_townTold 43 = .ok (.iadd, 1) := by decide +kernel
theorem dX6_townTold_44 : decode cX6_townTold 44 = .ok (.istore_n 3, 1) := by decide +kernel
theorem dX6_townTold_45 : decode cX6_townTold 45 = .ok (.aload_n 0, 1) := by decide +kernel
theorem dX6_townTold_46 : decode cX6_townTold 46 = .ok (.iload 5, 2) := by decide +kernel
theorem dX6_townTold_48 : decode cX6_townTold 48 = .ok (.iconst 4, 1) := by decide +kernel
theorem dX6_townTold_49 : decode cX6_townTold 49 = .ok (.invokevirtual 76, 3) := by decide +kernel
theorem dX6_townTold_52 : decode cX6_townTold 52 = .ok (.iload_n 1, 1) := by decide +kernel
theorem dX6_townTold_53 : decode cX6_townTold 53 = .ok (.if_icmp .eq 6, 3) := by decide +kernel
theorem dX6_townTold_56 : decode cX6_townTold 56 = .ok (.goto 37, 3) := by decide +kernel
theorem dX6_townTold_59 : decode cX6_townTold 59 = .ok (.iload_n 2, 1) := by decide +kernel
theorem dX6_townTold_60 : decode cX6_townTold 60 = .ok (.ifCond .ne 6, 3) := by decide +kernel
theorem dX6_townTold_63 : decode cX6_townTold 63 = .ok (.iinc 3 1, 3) := by decide +kernel
theorem dX6_townTold_66 : decode cX6_townTold 66 = .ok (.iload 4, 2) := by decide +kernel
theorem dX6_townTold_68 : decode cX6_townTold 68 = .ok (.iconst (-1), 1) := by decide +kernel
theorem dX6_townTold_69 : decode cX6_townTold 69 = .ok (.if_icmp .eq 20, 3) := by decide +kernel
theorem dX6_townTold_72 : decode cX6_townTold 72 = .ok (.aload_n 0, 1) := by decide +kernel
theorem dX6_townTold_73 : decode cX6_townTold 73 = .ok (.iload 5, 2) := by decide +kernel
theorem dX6_townTold_75 : decode cX6_townTold 75 = .ok (.iconst 1, 1) := by decide +kernel
theorem dX6_townTold_76 : decode cX6_townTold 76 = .ok (.invokevirtual 76, 3) := by decide +kernel
theorem dX6_townTold_79 : decode cX6_townTold 79 = .ok (.aload_n 0, 1) := by decide +kernel
theorem dX6_townTold_80 : decode cX6_townTold 80 = .ok (.iload 4, 2) := by decide +kernel
theorem dX6_townTold_82 : decode cX6_townTold 82 = .ok (.iconst 1, 1) := by decide +kernel
theorem dX6_townTold_83 : decode cX6_townTold 83 = .ok (.invokevirtual 76, 3) := by decide +kernel
theorem dX6_townTold_86 : decode cX6_townTold 86 = .ok (.if_icmp .le 7, 3) := by decide +kernel
theorem dX6_townTold_89 : decode cX6_townTold 89 = .ok (.iload 5, 2) := by decide +kernel
theorem dX6_townTold_91 : decode cX6_townTold 91 = .ok (.istore 4, 2) := by decide +kernel
theorem dX6_townTold_93 : decode cX6_townTold 93 = .ok (.iinc 5 1, 3) := by decide +kernel
theorem dX6_townTold_96 : decode cX6_townTold 96 = .ok (.goto (-88), 3) := by decide +kernel
theorem dX6_townTold_99 : decode cX6_townTold 99 = .ok (.iconst 0, 1) := by decide +kernel
theorem dX6_townTold_100 : decode cX6_townTold 100 = .ok (.istore 5, 2) := by decide +kernel
theorem dX6_townTold_102 : decode cX6_townTold 102 = .ok (.iload 5, 2) := by decide +kernel
theorem dX6_townTold_104 : decode cX6_townTold 104 = .ok (.aload_n 0, 1) := by decide +kernel
theorem dX6_townTold_105 : decode cX6_townTold 105 = .ok (.getfield 37, 3) := by decide +kernel
theorem dX6_townTold_108 : decode cX6_townTold 108 = .ok (.if_icmp .ge 43, 3) := by decide +kernel
theorem dX6_townTold_111 : decode cX6_townTold 111 = .ok (.iload_n 2, 1) := by decide +kernel
theorem dX6_townTold_112 : decode cX6_townTold 112 = .ok (.iconst 3, 1) := by decide +kernel
theorem dX6_townTold_113 : decode cX6_townTold 113 = .ok (.if_icmp .ne 38, 3) := by decide +kernel
theorem dX6_townTold_116 : decode cX6_townTold 116 = .ok (.iload_n 3, 1) := by decide +kernel
theorem dX6_townTold_117 : decode cX6_townTold 117 = .ok (.aload_n 0, 1) := by decide +kernel
theorem dX6_townTold_118 : decode cX6_townTold 118 = .ok (.iload 5, 2) := by decide +kernel
theorem dX6_townTold_120 : decode cX6_townTold 120 = .ok (.iconst 0, 1) := by decide +kernel
theorem dX6_townTold_121 : decode cX6_townTold 121 = .ok (.invokevirtual 86, 3) := by decide +kernel
theorem dX6_townTold_124 : decode cX6_townTold 124 = .ok (.iload_n 1, 1) := by decide +kernel
theorem dX6_townTold_125 : decode cX6_townTold 125 = .ok (.if_icmp .ne 17, 3) := by decide +kernel
theorem dX6_townTold_128 : decode cX6_townTold 128 = .ok (.aload_n 0, 1) := by decide +kernel
theorem dX6_townTold_129 : decode cX6_townTold 129 = .ok (.iload 5, 2) := by decide +kernel
theorem dX6_townTold_131 : decode cX6_townTold 131 = .ok (.iconst 1, 1) := by decide +kernel
theorem dX6_townTold_132 : decode cX6_townTold 132 = .ok (.invokevirtual 86, 3) := by decide +kernel
theorem dX6_townTold_135 : decode cX6_townTold 135 = .ok (.ifCond .ne 7, 3) := by decide +kernel
theorem dX6_townTold_138 : decode cX6_townTold 138 = .ok (.iconst 1, 1) := by decide +kernel
theorem dX6_townTold_139 : decode cX6_townTold 139 = .ok (.goto 4, 3) := by decide +kernel
theorem dX6_townTold_142 : decode cX6_townTold 142 = .ok (.iconst 0, 1) := by decide +kernel
theorem dX6_townTold_143 : decode cX6_townTold 143 = .ok (.iadd, 1) := by decide +kernel
theorem dX6_townTold_144 : decode cX6_townTold 144 = .ok (.istore_n 3, 1) := by decide +kernel
theorem dX6_townTold_145 : decode cX6_townTold 145 = .ok (.iinc 5 1, 3) := by decide +kernel
theorem dX6_townTold_148 : decode cX6_townTold 148 = .ok (.goto (-46), 3) := by decide +kernel
theorem dX6_townTold_151 : decode cX6_townTold 151 = .ok (.iload_n 2, 1) := by decide +kernel
theorem dX6_townTold_152 : decode cX6_townTold 152 = .ok (.iconst 2, 1) := by decide +kernel
theorem dX6_townTold_153 : decode cX6_townTold 153 = .ok (.if_icmp .ne 8, 3) := by decide +kernel
theorem dX6_townTold_156 : decode cX6_townTold 156 = .ok (.iload 4, 2) := by decide +kernel
theorem dX6_townTold_158 : decode cX6_townTold 158 = .ok (.goto 4, 3) := by decide +kernel
theorem dX6_townTold_161 : decode cX6_townTold 161 = .ok (.iload_n 3, 1) := by decide +kernel
theorem dX6_townTold_162 : decode cX6_townTold 162 = .ok (.ireturn, 1) := by decide +kernel
theorem dX6_town_0 : decode cX6_town 0 = .ok (.aload_n 0, 1) := by decide +kernel
theorem dX6_town_1 : decode cX6_town 1 = .ok (.iconst 0, 1) := by decide +kernel
theorem dX6_town_2 : decode cX6_town 2 = .ok (.putfield 23, 3) := by decide +kernel
theorem dX6_town_5 : decode cX6_town 5 = .ok (.aload_n 0, 1) := by decide +kernel
theorem dX6_town_6 : decode cX6_town 6 = .ok (.iload_n 1, 1) := by decide +kernel
theorem dX6_town_7 : decode cX6_town 7 = .ok (.invokevirtual 53, 3) := by decide +kernel
theorem dX6_town_10 : decode cX6_town 10 = .ok (.ifCond .eq 21, 3) := by decide +kernel
theorem dX6_town_13 : decode cX6_town 13 = .ok (.iload_n 2, 1) := by decide +kernel
theorem dX6_town_14 : decode cX6_town 14 = .ok (.iconst 0, 1) := by decide +kernel
theorem dX6_town_15 : decode cX6_town 15 = .ok (.iconst 3, 1) := by decide +kernel
theorem dX6_town_16 : decode cX6_town 16 = .ok (.invokestatic 30, 3) := by decide +kernel
theorem dX6_town_19 : decode cX6_town 19 = .ok (.ifCond .eq 12, 3) := by decide +kernel
theorem dX6_town_22 : decode cX6_town 22 = .ok (.aload_n 0, 1) := by decide +kernel
theorem dX6_town_23 : decode cX6_town 23 = .ok (.iload_n 1, 1) := by decide +kernel
theorem dX6_town_24 : decode cX6_town 24 = .ok (.iload_n 2, 1) := by decide +kernel
theorem dX6_town_25 : decode cX6_town 25 = .ok (.invokevirtual 89, 3) := by decide +kernel
theorem dX6_town_28 : decode cX6_town 28 = .ok (.goto 8, 3) := by decide +kernel
theorem dX6_town_31 : decode cX6_town 31 = .ok (.aload_n 0, 1) := by decide +kernel
theorem dX6_town_32 : decode cX6_town 32 = .ok (.iconst 1, 1) := by decide +kernel
theorem dX6_town_33 : decode cX6_town 33 = .ok (.invokevirtual 49, 3) := by decide +kernel
theorem dX6_town_36 : decode cX6_town 36 = .ok (.ireturn, 1) := by decide +kernel
theorem dX6_heard_0 : decode cX6_heard 0 = .ok (.aload_n 0, 1) := by decide +kernel
theorem dX6_heard_1 : decode cX6_heard 1 = .ok (.iconst 0, 1) := by decide +kernel
theorem dX6_heard_2 : decode cX6_heard 2 = .ok (.putfield 23, 3) := by decide +kernel
theorem dX6_heard_5 : decode cX6_heard 5 = .ok (.aload_n 0, 1) := by decide +kernel
theorem dX6_heard_6 : decode cX6_heard 6 = .ok (.iload_n 1, 1) := by decide +kernel
theorem dX6_heard_7 : decode cX6_heard 7 = .ok (.invokevirtual 53, 3) := by decide +kernel
theorem dX6_heard_10 : decode cX6_heard 10 = .ok (.ifCond .eq 25, 3) := by decide +kernel
theorem dX6_heard_13 : decode cX6_heard 13 = .ok (.aload_n 0, 1) := by decide +kernel
theorem dX6_heard_14 : decode cX6_heard 14 = .ok (.iload_n 2, 1) := by decide +kernel
theorem dX6_heard_15 : decode cX6_heard 15 = .ok (.invokevirtual 73, 3) := by decide +kernel
theorem dX6_heard_18 : decode cX6_heard 18 = .ok (.ifCond .eq 17, 3) := by decide +kernel
theorem dX6_heard_21 : decode cX6_heard 21 = .ok (.aload_n 0, 1) := by decide +kernel
theorem dX6_heard_22 : decode cX6_heard 22 = .ok (.iload_n 1, 1) := by decide +kernel
theorem dX6_heard_23 : decode cX6_heard 23 = .ok (.aload_n 0, 1) := by decide +kernel
theorem dX6_heard_24 : decode cX6_heard 24 = .ok (.iload_n 2, 1) := by decide +kernel
theorem dX6_heard_25 : decode cX6_heard 25 = .ok (.iconst 3, 1) := by decide +kernel
theorem dX6_heard_26 : decode cX6_heard 26 = .ok (.invokevirtual 76, 3) := by decide +kernel
theorem dX6_heard_29 : decode cX6_heard 29 = .ok (.invokevirtual 79, 3) := by decide +kernel
theorem dX6_heard_32 : decode cX6_heard 32 = .ok (.goto 8, 3) := by decide +kernel
theorem dX6_heard_35 : decode cX6_heard 35 = .ok (.aload_n 0, 1) := by decide +kernel
theorem dX6_heard_36 : decode cX6_heard 36 = .ok (.iconst 1, 1) := by decide +kernel
theorem dX6_heard_37 : decode cX6_heard 37 = .ok (.invokevirtual 49, 3) := by decide +kernel
theorem dX6_heard_40 : decode cX6_heard 40 = .ok (.ireturn, 1) := by decide +kernel
theorem dX6_addCarrier_0 : decode cX6_addCarrier 0 = .ok (.aload_n 0, 1) := by decide +kernel
theorem dX6_addCarrier_1 : decode cX6_addCarrier 1 = .ok (.iconst 0, 1) := by decide +kernel
theorem dX6_addCarrier_2 : decode cX6_addCarrier 2 = .ok (.putfield 23, 3) := by decide +kernel
theorem dX6_addCarrier_5 : decode cX6_addCarrier 5 = .ok (.aload_n 0, 1) := by decide +kernel
theorem dX6_addCarrier_6 : decode cX6_addCarrier 6 = .ok (.iload_n 1, 1) := by decide +kernel
theorem dX6_addCarrier_7 : decode cX6_addCarrier 7 = .ok (.invokevirtual 53, 3) := by decide +kernel
theorem dX6_addCarrier_10 : decode cX6_addCarrier 10 = .ok (.ifCond .ne 9, 3) := by decide +kernel
theorem dX6_addCarrier_13 : decode cX6_addCarrier 13 = .ok (.aload_n 0, 1) := by decide +kernel
theorem dX6_addCarrier_14 : decode cX6_addCarrier 14 = .ok (.iconst 1, 1) := by decide +kernel
theorem dX6_addCarrier_15 : decode cX6_addCarrier 15 = .ok (.invokevirtual 49, 3) := by decide +kernel
theorem dX6_addCarrier_18 : decode cX6_addCarrier 18 = .ok (.ireturn, 1) := by decide +kernel
theorem dX6_addCarrier_19 : decode cX6_addCarrier 19 = .ok (.iload_n 2, 1) := by decide +kernel
theorem dX6_addCarrier_20 : decode cX6_addCarrier 20 = .ok (.iconst 0, 1) := by decide +kernel
theorem dX6_addCarrier_21 : decode cX6_addCarrier 21 = .ok (.ldc 92, 2) := by decide +kernel
theorem dX6_addCarrier_23 : decode cX6_addCarrier 23 = .ok (.invokestatic 30, 3) := by decide +kernel
theorem dX6_addCarrier_26 : decode cX6_addCarrier 26 = .ok (.ifCond .ne 9, 3) := by decide +kernel
theorem dX6_addCarrier_29 : decode cX6_addCarrier 29 = .ok (.aload_n 0, 1) := by decide +kernel
theorem dX6_addCarrier_30 : decode cX6_addCarrier 30 = .ok (.iconst 2, 1) := by decide +kernel
theorem dX6_addCarrier_31 : decode cX6_addCarrier 31 = .ok (.invokevirtual 49, 3) := by decide +kernel
theorem dX6_addCarrier_34 : decode cX6_addCarrier 34 = .ok (.ireturn, 1) := by decide +kernel
theorem dX6_addCarrier_35 : decode cX6_addCarrier 35 = .ok (.aload_n 0, 1) := by decide +kernel
theorem dX6_addCarrier_36 : decode cX6_addCarrier 36 = .ok (.getfield 37, 3) := by decide +kernel
theorem dX6_addCarrier_39 : decode cX6_addCarrier 39 = .ok (.bipush 8, 2) := by decide +kernel
theorem dX6_addCarrier_41 : decode cX6_addCarrier 41 = .ok (.if_icmp .ne 9, 3) := by decide +kernel
theorem dX6_addCarrier_44 : decode cX6_addCarrier 44 = .ok (.aload_n 0, 1) := by decide +kernel
theorem dX6_addCarrier_45 : decode cX6_addCarrier 45 = .ok (.iconst 3, 1) := by decide +kernel
theorem dX6_addCarrier_46 : decode cX6_addCarrier 46 = .ok (.invokevirtual 49, 3) := by decide +kernel
theorem dX6_addCarrier_49 : decode cX6_addCarrier 49 = .ok (.ireturn, 1) := by decide +kernel
theorem dX6_addCarrier_50 : decode cX6_addCarrier 50 = .ok (.iconst 4, 1) := by decide +kernel
theorem dX6_addCarrier_51 : decode cX6_addCarrier 51 = .ok (.newarray .int, 2) := by decide +kernel
theorem dX6_addCarrier_53 : decode cX6_addCarrier 53 = .ok (.dup, 1) := by decide +kernel
theorem dX6_addCarrier_54 : decode cX6_addCarrier 54 = .ok (.iconst 0, 1) := by decide +kernel
theorem dX6_addCarrier_55 : decode cX6_addCarrier 55 = .ok (.iload_n 1, 1) := by decide +kernel
theorem dX6_addCarrier_56 : decode cX6_addCarrier 56 = .ok (.iastore, 1) := by decide +kernel
theorem dX6_addCarrier_57 : decode cX6_addCarrier 57 = .ok (.dup, 1) := by decide +kernel
theorem dX6_addCarrier_58 : decode cX6_addCarrier 58 = .ok (.iconst 1, 1) := by decide +kernel
theorem dX6_addCarrier_59 : decode cX6_addCarrier 59 = .ok (.iconst 0, 1) := by decide +kernel
theorem dX6_addCarrier_60 : decode cX6_addCarrier 60 = .ok (.iastore, 1) := by decide +kernel
theorem dX6_addCarrier_61 : decode cX6_addCarrier 61 = .ok (.dup, 1) := by decide +kernel
theorem dX6_addCarrier_62 : decode cX6_addCarrier 62 = .ok (.iconst 2, 1) := by decide +kernel
theorem dX6_addCarrier_63 : decode cX6_addCarrier 63 = .ok (.iload_n 2, 1) := by decide +kernel
theorem dX6_addCarrier_64 : decode cX6_addCarrier 64 = .ok (.iastore, 1) := by decide +kernel
theorem dX6_addCarrier_65 : decode cX6_addCarrier 65 = .ok (.dup, 1) := by decide +kernel
theorem dX6_addCarrier_66 : decode cX6_addCarrier 66 = .ok (.iconst 3, 1) := by decide +kernel
theorem dX6_addCarrier_67 : decode cX6_addCarrier 67 = .ok (.iconst 0, 1) := by decide +kernel
theorem dX6_addCarrier_68 : decode cX6_addCarrier 68 = .ok (.iastore, 1) := by decide +kernel
theorem dX6_addCarrier_69 : decode cX6_addCarrier 69 = .ok (.astore_n 3, 1) := by decide +kernel
theorem dX6_addCarrier_70 : decode cX6_addCarrier 70 = .ok (.aload_n 3, 1) := by decide +kernel
theorem dX6_addCarrier_71 : decode cX6_addCarrier 71 = .ok (.iconst 0, 1) := by decide +kernel
theorem dX6_addCarrier_72 : decode cX6_addCarrier 72 = .ok (.aload_n 0, 1) := by decide +kernel
theorem dX6_addCarrier_73 : decode cX6_addCarrier 73 = .ok (.getfield 16, 3) := by decide +kernel
theorem dX6_addCarrier_76 : decode cX6_addCarrier 76 = .ok (.iconst 4, 1) := by decide +kernel
theorem dX6_addCarrier_77 : decode cX6_addCarrier 77 = .ok (.aload_n 0, 1) := by decide +kernel
theorem dX6_addCarrier_78 : decode cX6_addCarrier 78 = .ok (.getfield 37, 3) := by decide +kernel
theorem dX6_addCarrier_81 : decode cX6_addCarrier 81 = .ok (.imul, 1) := by decide +kernel
theorem dX6_addCarrier_82 : decode cX6_addCarrier 82 = .ok (.iconst 4, 1) := by decide +kernel
theorem dX6_addCarrier_83 : decode cX6_addCarrier 83 = .ok (.invokestatic 60, 3) := by decide +kernel
theorem dX6_addCarrier_86 : decode cX6_addCarrier 86 = .ok (.aload_n 0, 1) := by decide +kernel
theorem dX6_addCarrier_87 : decode cX6_addCarrier 87 = .ok (.dup, 1) := by decide +kernel
theorem dX6_addCarrier_88 : decode cX6_addCarrier 88 = .ok (.getfield 37, 3) := by decide +kernel
theorem dX6_addCarrier_91 : decode cX6_addCarrier 91 = .ok (.iconst 1, 1) := by decide +kernel
theorem dX6_addCarrier_92 : decode cX6_addCarrier 92 = .ok (.iadd, 1) := by decide +kernel
theorem dX6_addCarrier_93 : decode cX6_addCarrier 93 = .ok (.putfield 37, 3) := by decide +kernel
theorem dX6_addCarrier_96 : decode cX6_addCarrier 96 = .ok (.aload_n 0, 1) := by decide +kernel
theorem dX6_addCarrier_97 : decode cX6_addCarrier 97 = .ok (.getfield 37, 3) := by decide +kernel
theorem dX6_addCarrier_100 : decode cX6_addCarrier 100 = .ok (.iconst 1, 1) := by decide +kernel
theorem dX6_addCarrier_101 : decode cX6_addCarrier 101 = .ok (.isub, 1) := by decide +kernel
theorem dX6_addCarrier_102 : decode cX6_addCarrier 102 = .ok (.ireturn, 1) := by decide +kernel
theorem dX6_inBag_0 : decode cX6_inBag 0 = .ok (.iconst 0, 1) := by decide +kernel
theorem dX6_inBag_1 : decode cX6_inBag 1 = .ok (.istore_n 3, 1) := by decide +kernel
theorem dX6_inBag_2 : decode cX6_inBag 2 = .ok (.iconst 0, 1) := by decide +kernel
theorem dX6_inBag_3 : decode cX6_inBag 3 = .ok (.istore 4, 2) := by decide +kernel
theorem dX6_inBag_5 : decode cX6_inBag 5 = .ok (.iload 4, 2) := by decide +kernel
theorem dX6_inBag_7 : decode cX6_inBag 7 = .ok (.aload_n 0, 1) := by decide +kernel
theorem dX6_inBag_8 : decode cX6_inBag 8 = .ok (.getfield 34, 3) := by decide +kernel
theorem dX6_inBag_11 : decode cX6_inBag 11 = .ok (.if_icmp .ge 44, 3) := by decide +kernel
theorem dX6_inBag_14 : decode cX6_inBag 14 = .ok (.iload_n 3, 1) := by decide +kernel
theorem dX6_inBag_15 : decode cX6_inBag 15 = .ok (.aload_n 0, 1) := by decide +kernel
theorem dX6_inBag_16 : decode cX6_inBag 16 = .ok (.iload 4, 2) := by decide +kernel
theorem dX6_inBag_18 : decode cX6_inBag 18 = .ok (.iconst 5, 1) := by decide +kernel
theorem dX6_inBag_19 : decode cX6_inBag 19 = .ok (.invokevirtual 76, 3) := by decide +kernel
theorem dX6_inBag_22 : decode cX6_inBag 22 = .ok (.iload_n 1, 1) := by decide +kernel
theorem dX6_inBag_23 : decode cX6_inBag 23 = .ok (.if_icmp .ne 23, 3) := by decide +kernel
theorem dX6_inBag_26 : decode cX6_inBag 26 = .ok (.iload_n 2, 1) := by decide +kernel
theorem dX6_inBag_27 : decode cX6_inBag 27 = .ok (.ifCond .eq 15, 3) := by decide +kernel
theorem dX6_inBag_30 : decode cX6_inBag 30 = .ok (.aload_n 0, 1) := by decide +kernel
theorem dX6_inBag_31 : decode cX6_inBag 31 = .ok (.iload 4, 2) := by decide +kernel
theorem dX6_inBag_33 : decode cX6_inBag 33 = .ok (.bipush 6, 2) := by decide +kernel
theorem dX6_inBag_35 : decode cX6_inBag 35 = .ok (.invokevirtual 76, 3) := by decide +kernel
theorem dX6_inBag_38 : decode cX6_inBag 38 = .ok (.iconst 1, 1) := by decide +kernel
theorem dX6_inBag_39 : decode cX6_inBag 39 = .ok (.if_icmp .ne 7, 3) := by decide +kernel
theorem dX6_inBag_42 : decode cX6_inBag 42 = .ok (.iconst 1, 1) := by decide +kernel
theorem dX6_inBag_43 : decode cX6_inBag 43 = .ok (.goto 4, 3) := by decide +kernel
theorem dX6_inBag_46 : decode cX6_inBag 46 = .ok (.iconst 0, 1) := by decide +kernel
theorem dX6_inBag_47 : decode cX6_inBag 47 = .ok (.iadd, 1) := by decide +kernel
theorem dX6_inBag_48 : decode cX6_inBag 48 = .ok (.istore_n 3, 1) := by decide +kernel
theorem dX6_inBag_49 : decode cX6_inBag 49 = .ok (.iinc 4 1, 3) := by decide +kernel
theorem dX6_inBag_52 : decode cX6_inBag 52 = .ok (.goto (-47), 3) := by decide +kernel
theorem dX6_inBag_55 : decode cX6_inBag 55 = .ok (.iload_n 3, 1) := by decide +kernel
theorem dX6_inBag_56 : decode cX6_inBag 56 = .ok (.ireturn, 1) := by decide +kernel
theorem dX6_lay_0 : decode cX6_lay 0 = .ok (.aload_n 0, 1) := by decide +kernel
theorem dX6_lay_1 : decode cX6_lay 1 = .ok (.iload_n 1, 1) := by decide +kernel
theorem dX6_lay_2 : decode cX6_lay 2 = .ok (.iconst 4, 1) := by decide +kernel
theorem dX6_lay_3 : decode cX6_lay 3 = .ok (.iload_n 2, 1) := by decide +kernel
theorem dX6_lay_4 : decode cX6_lay 4 = .ok (.invokevirtual 93, 3) := by decide +kernel
theorem dX6_lay_7 : decode cX6_lay 7 = .ok (.aload_n 0, 1) := by decide +kernel
theorem dX6_lay_8 : decode cX6_lay 8 = .ok (.iload_n 1, 1) := by decide +kernel
theorem dX6_lay_9 : decode cX6_lay 9 = .ok (.iconst 5, 1) := by decide +kernel
theorem dX6_lay_10 : decode cX6_lay 10 = .ok (.iload_n 3, 1) := by decide +kernel
theorem dX6_lay_11 : decode cX6_lay 11 = .ok (.invokevirtual 93, 3) := by decide +kernel
theorem dX6_lay_14 : decode cX6_lay 14 = .ok (.aload_n 0, 1) := by decide +kernel
theorem dX6_lay_15 : decode cX6_lay 15 = .ok (.iload_n 1, 1) := by decide +kernel
theorem dX6_lay_16 : decode cX6_lay 16 = .ok (.bipush 6, 2) := by decide +kernel
theorem dX6_lay_18 : decode cX6_lay 18 = .ok (.iconst 0, 1) := by decide +kernel
theorem dX6_lay_19 : decode cX6_lay 19 = .ok (.invokevirtual 93, 3) := by decide +kernel
theorem dX6_lay_22 : decode cX6_lay 22 = .ok (.return_, 1) := by decide +kernel
theorem dX6_take_0 : decode cX6_take 0 = .ok (.aload_n 0, 1) := by decide +kernel
theorem dX6_take_1 : decode cX6_take 1 = .ok (.iconst 0, 1) := by decide +kernel
theorem dX6_take_2 : decode cX6_take 2 = .ok (.putfield 23, 3) := by decide +kernel
theorem dX6_take_5 : decode cX6_take 5 = .ok (.aload_n 0, 1) := by decide +kernel
theorem dX6_take_6 : decode cX6_take 6 = .ok (.iload_n 1, 1) := by decide +kernel
theorem dX6_take_7 : decode cX6_take 7 = .ok (.invokevirtual 97, 3) := by decide +kernel
theorem dX6_take_10 : decode cX6_take 10 = .ok (.ifCond .eq 11, 3) := by decide +kernel
theorem dX6_take_13 : decode cX6_take 13 = .ok (.aload_n 0, 1) := by decide +kernel
theorem dX6_take_14 : decode cX6_take 14 = .ok (.iload_n 2, 1) := by decide +kernel
theorem dX6_take_15 : decode cX6_take 15 = .ok (.invokevirtual 73, 3) := by decide +kernel
theorem dX6_take_18 : decode cX6_take 18 = .ok (.ifCond .ne 9, 3) := by decide +kernel
theorem dX6_take_21 : decode cX6_take 21 = .ok (.aload_n 0, 1) := by decide +kernel
theorem dX6_take_22 : decode cX6_take 22 = .ok (.iconst 1, 1) := by decide +kernel
theorem dX6_take_23 : decode cX6_take 23 = .ok (.invokevirtual 49, 3) := by decide +kernel
theorem dX6_take_26 : decode cX6_take 26 = .ok (.ireturn, 1) := by decide +kernel
theorem dX6_take_27 : decode cX6_take 27 = .ok (.aload_n 0, 1) := by decide +kernel
theorem dX6_take_28 : decode cX6_take 28 = .ok (.iload_n 1, 1) := by decide +kernel
theorem dX6_take_29 : decode cX6_take 29 = .ok (.iconst 1, 1) := by decide +kernel
theorem dX6_take_30 : decode cX6_take 30 = .ok (.invokevirtual 86, 3) := by decide +kernel
theorem dX6_take_33 : decode cX6_take 33 = .ok (.ifCond .gt 29, 3) := by decide +kernel
theorem dX6_take_36 : decode cX6_take 36 = .ok (.aload_n 0, 1) := by decide +kernel
theorem dX6_take_37 : decode cX6_take 37 = .ok (.iload_n 2, 1) := by decide +kernel
theorem dX6_take_38 : decode cX6_take 38 = .ok (.iconst 4, 1) := by decide +kernel
theorem dX6_take_39 : decode cX6_take 39 = .ok (.invokevirtual 76, 3) := by decide +kernel
theorem dX6_take_42 : decode cX6_take 42 = .ok (.aload_n 0, 1) := by decide +kernel
theorem dX6_take_43 : decode cX6_take 43 = .ok (.iload_n 1, 1) := by decide +kernel
theorem dX6_take_44 : decode cX6_take 44 = .ok (.iconst 0, 1) := by decide +kernel
theorem dX6_take_45 : decode cX6_take 45 = .ok (.invokevirtual 86, 3) := by decide +kernel
theorem dX6_take_48 : decode cX6_take 48 = .ok (.if_icmp .ne 14, 3) := by decide +kernel
theorem dX6_take_51 : decode cX6_take 51 = .ok (.aload_n 0, 1) := by decide +kernel
theorem dX6_take_52 : decode cX6_take 52 = .ok (.iload_n 1, 1) := by decide +kernel
theorem dX6_take_53 : decode cX6_take 53 = .ok (.iconst 0, 1) := by decide +kernel
theorem dX6_take_54 : decode cX6_take 54 = .ok (.invokevirtual 100, 3) := by decide +kernel
theorem dX6_take_57 : decode cX6_take 57 = .ok (.bipush 6, 2) := by decide +kernel
theorem dX6_take_59 : decode cX6_take 59 = .ok (.if_icmp .ne 9, 3) := by decide +kernel
theorem dX6_take_62 : decode cX6_take 62 = .ok (.aload_n 0, 1) := by decide +kernel
theorem dX6_take_63 : decode cX6_take 63 = .ok (.iconst 2, 1) := by decide +kernel
theorem dX6_take_64 : decode cX6_take 64 = .ok (.invokevirtual 49, 3) := by decide +kernel
theorem dX6_take_67 : decode cX6_take 67 = .ok (.ireturn, 1) := by decide +kernel
theorem dX6_take_68 : decode cX6_take 68 = .ok (.aload_n 0, 1) := by decide +kernel
theorem dX6_take_69 : decode cX6_take 69 = .ok (.iload_n 2, 1) := by decide +kernel
theorem dX6_take_70 : decode cX6_take 70 = .ok (.iconst (-1), 1) := by decide +kernel
theorem dX6_take_71 : decode cX6_take 71 = .ok (.iload_n 1, 1) := by decide +kernel
theorem dX6_take_72 : decode cX6_take 72 = .ok (.invokevirtual 104, 3) := by decide +kernel
theorem dX6_take_75 : decode cX6_take 75 = .ok (.aload_n 0, 1) := by decide +kernel
theorem dX6_take_76 : decode cX6_take 76 = .ok (.iload_n 1, 1) := by decide +kernel
theorem dX6_take_77 : decode cX6_take 77 = .ok (.iconst 0, 1) := by decide +kernel
theorem dX6_take_78 : decode cX6_take 78 = .ok (.invokevirtual 100, 3) := by decide +kernel
theorem dX6_take_81 : decode cX6_take 81 = .ok (.ireturn, 1) := by decide +kernel
theorem dX6_has_0 : decode cX6_has 0 = .ok (.aload_n 0, 1) := by decide +kernel
theorem dX6_has_1 : decode cX6_has 1 = .ok (.iload_n 2, 1) := by decide +kernel
theorem dX6_has_2 : decode cX6_has 2 = .ok (.iconst 5, 1) := by decide +kernel
theorem dX6_has_3 : decode cX6_has 3 = .ok (.invokevirtual 76, 3) := by decide +kernel
theorem dX6_has_6 : decode cX6_has 6 = .ok (.iload_n 1, 1) := by decide +kernel
theorem dX6_has_7 : decode cX6_has 7 = .ok (.if_icmp .ne 7, 3) := by decide +kernel
theorem dX6_has_10 : decode cX6_has 10 = .ok (.iconst 1, 1) := by decide +kernel
theorem dX6_has_11 : decode cX6_has 11 = .ok (.goto 4, 3) := by decide +kernel
theorem dX6_has_14 : decode cX6_has 14 = .ok (.iconst 0, 1) := by decide +kernel
theorem dX6_has_15 : decode cX6_has 15 = .ok (.ireturn, 1) := by decide +kernel
theorem dX6_leave_0 : decode cX6_leave 0 = .ok (.aload_n 0, 1) := by decide +kernel
theorem dX6_leave_1 : decode cX6_leave 1 = .ok (.iconst 0, 1) := by decide +kernel
theorem dX6_leave_2 : decode cX6_leave 2 = .ok (.putfield 23, 3) := by decide +kernel
theorem dX6_leave_5 : decode cX6_leave 5 = .ok (.aload_n 0, 1) := by decide +kernel
theorem dX6_leave_6 : decode cX6_leave 6 = .ok (.iload_n 1, 1) := by decide +kernel
theorem dX6_leave_7 : decode cX6_leave 7 = .ok (.invokevirtual 97, 3) := by decide +kernel
theorem dX6_leave_10 : decode cX6_leave 10 = .ok (.ifCond .eq 11, 3) := by decide +kernel
theorem dX6_leave_13 : decode cX6_leave 13 = .ok (.aload_n 0, 1) := by decide +kernel
theorem dX6_leave_14 : decode cX6_leave 14 = .ok (.iload_n 2, 1) := by decide +kernel
theorem dX6_leave_15 : decode cX6_leave 15 = .ok (.invokevirtual 73, 3) := by decide +kernel
theorem dX6_leave_18 : decode cX6_leave 18 = .ok (.ifCond .ne 9, 3) := by decide +kernel
theorem dX6_leave_21 : decode cX6_leave 21 = .ok (.aload_n 0, 1) := by decide +kernel
theorem dX6_leave_22 : decode cX6_leave 22 = .ok (.iconst 1, 1) := by decide +kernel
theorem dX6_leave_23 : decode cX6_leave 23 = .ok (.invokevirtual 49, 3) := by decide +kernel
theorem dX6_leave_26 : decode cX6_leave 26 = .ok (.ireturn, 1) := by decide +kernel
theorem dX6_leave_27 : decode cX6_leave 27 = .ok (.aload_n 0, 1) := by decide +kernel
theorem dX6_leave_28 : decode cX6_leave 28 = .ok (.iload_n 1, 1) := by decide +kernel
theorem dX6_leave_29 : decode cX6_leave 29 = .ok (.iconst 1, 1) := by decide +kernel
theorem dX6_leave_30 : decode cX6_leave 30 = .ok (.invokevirtual 86, 3) := by decide +kernel
theorem dX6_leave_33 : decode cX6_leave 33 = .ok (.ifCond .gt 12, 3) := by decide +kernel
theorem dX6_leave_36 : decode cX6_leave 36 = .ok (.aload_n 0, 1) := by decide +kernel
theorem dX6_leave_37 : decode cX6_leave 37 = .ok (.iload_n 1, 1) := by decide +kernel
theorem dX6_leave_38 : decode cX6_leave 38 = .ok (.iload_n 2, 1) := by decide +kernel
theorem dX6_leave_39 : decode cX6_leave 39 = .ok (.invokevirtual 107, 3) := by decide +kernel
theorem dX6_leave_42 : decode cX6_leave 42 = .ok (.ifCond .ne 9, 3) := by decide +kernel
theorem dX6_leave_45 : decode cX6_leave 45 = .ok (.aload_n 0, 1) := by decide +kernel
theorem dX6_leave_46 : decode cX6_leave 46 = .ok (.iconst 2, 1) := by decide +kernel
theorem dX6_leave_47 : decode cX6_leave 47 = .ok (.invokevirtual 49, 3) := by decide +kernel
theorem dX6_leave_50 : decode cX6_leave 50 = .ok (.ireturn, 1) := by decide +kernel
theorem dX6_leave_51 : decode cX6_leave 51 = .ok (.aload_n 0, 1) := by decide +kernel
theorem dX6_leave_52 : decode cX6_leave 52 = .ok (.iload_n 2, 1) := by decide +kernel
theorem dX6_leave_53 : decode cX6_leave 53 = .ok (.aload_n 0, 1) := by decide +kernel
theorem dX6_leave_54 : decode cX6_leave 54 = .ok (.iload_n 1, 1) := by decide +kernel
theorem dX6_leave_55 : decode cX6_leave 55 = .ok (.iconst 0, 1) := by decide +kernel
theorem dX6_leave_56 : decode cX6_leave 56 = .ok (.invokevirtual 86, 3) := by decide +kernel
theorem dX6_leave_59 : decode cX6_leave 59 = .ok (.iconst (-1), 1) := by decide +kernel
theorem dX6_leave_60 : decode cX6_leave 60 = .ok (.invokevirtual 104, 3) := by decide +kernel
theorem dX6_leave_63 : decode cX6_leave 63 = .ok (.aload_n 0, 1) := by decide +kernel
theorem dX6_leave_64 : decode cX6_leave 64 = .ok (.iload_n 1, 1) := by decide +kernel
theorem dX6_leave_65 : decode cX6_leave 65 = .ok (.iconst 0, 1) := by decide +kernel
theorem dX6_leave_66 : decode cX6_leave 66 = .ok (.invokevirtual 100, 3) := by decide +kernel
theorem dX6_leave_69 : decode cX6_leave 69 = .ok (.ireturn, 1) := by decide +kernel
theorem dX6_hide_0 : decode cX6_hide 0 = .ok (.aload_n 0, 1) := by decide +kernel
theorem dX6_hide_1 : decode cX6_hide 1 = .ok (.iconst 0, 1) := by decide +kernel
theorem dX6_hide_2 : decode cX6_hide 2 = .ok (.putfield 23, 3) := by decide +kernel
theorem dX6_hide_5 : decode cX6_hide 5 = .ok (.aload_n 0, 1) := by decide +kernel
theorem dX6_hide_6 : decode cX6_hide 6 = .ok (.iload_n 1, 1) := by decide +kernel
theorem dX6_hide_7 : decode cX6_hide 7 = .ok (.invokevirtual 97, 3) := by decide +kernel
theorem dX6_hide_10 : decode cX6_hide 10 = .ok (.ifCond .eq 11, 3) := by decide +kernel
theorem dX6_hide_13 : decode cX6_hide 13 = .ok (.aload_n 0, 1) := by decide +kernel
theorem dX6_hide_14 : decode cX6_hide 14 = .ok (.iload_n 2, 1) := by decide +kernel
theorem dX6_hide_15 : decode cX6_hide 15 = .ok (.invokevirtual 73, 3) := by decide +kernel
theorem dX6_hide_18 : decode cX6_hide 18 = .ok (.ifCond .ne 9, 3) := by decide +kernel
theorem dX6_hide_21 : decode cX6_hide 21 = .ok (.aload_n 0, 1) := by decide +kernel
theorem dX6_hide_22 : decode cX6_hide 22 = .ok (.iconst 1, 1) := by decide +kernel
theorem dX6_hide_23 : decode cX6_hide 23 = .ok (.invokevirtual 49, 3) := by decide +kernel
theorem dX6_hide_26 : decode cX6_hide 26 = .ok (.ireturn, 1) := by decide +kernel
theorem dX6_hide_27 : decode cX6_hide 27 = .ok (.aload_n 0, 1) := by decide +kernel
theorem dX6_hide_28 : decode cX6_hide 28 = .ok (.iload_n 1, 1) := by decide +kernel
theorem dX6_hide_29 : decode cX6_hide 29 = .ok (.iload_n 2, 1) := by decide +kernel
theorem dX6_hide_30 : decode cX6_hide 30 = .ok (.invokevirtual 107, 3) := by decide +kernel
theorem dX6_hide_33 : decode cX6_hide 33 = .ok (.ifCond .ne 9, 3) := by decide +kernel
theorem dX6_hide_36 : decode cX6_hide 36 = .ok (.aload_n 0, 1) := by decide +kernel
theorem dX6_hide_37 : decode cX6_hide 37 = .ok (.iconst 2, 1) := by decide +kernel
theorem dX6_hide_38 : decode cX6_hide 38 = .ok (.invokevirtual 49, 3) := by decide +kernel
theorem dX6_hide_41 : decode cX6_hide 41 = .ok (.ireturn, 1) := by decide +kernel
theorem dX6_hide_42 : decode cX6_hide 42 = .ok (.aload_n 0, 1) := by decide +kernel
theorem dX6_hide_43 : decode cX6_hide 43 = .ok (.iload_n 2, 1) := by decide +kernel
theorem dX6_hide_44 : decode cX6_hide 44 = .ok (.bipush 6, 2) := by decide +kernel
theorem dX6_hide_46 : decode cX6_hide 46 = .ok (.iload_n 3, 1) := by decide +kernel
theorem dX6_hide_47 : decode cX6_hide 47 = .ok (.ifCond .eq 7, 3) := by decide +kernel
theorem dX6_hide_50 : decode cX6_hide 50 = .ok (.iconst 1, 1) := by decide +kernel
theorem dX6_hide_51 : decode cX6_hide 51 = .ok (.goto 4, 3) := by decide +kernel
theorem dX6_hide_54 : decode cX6_hide 54 = .ok (.iconst 0, 1) := by decide +kernel
theorem dX6_hide_55 : decode cX6_hide 55 = .ok (.invokevirtual 93, 3) := by decide +kernel
theorem dX6_hide_58 : decode cX6_hide 58 = .ok (.aload_n 0, 1) := by decide +kernel
theorem dX6_hide_59 : decode cX6_hide 59 = .ok (.iload_n 1, 1) := by decide +kernel
theorem dX6_hide_60 : decode cX6_hide 60 = .ok (.iconst 1, 1) := by decide +kernel
theorem dX6_hide_61 : decode cX6_hide 61 = .ok (.invokevirtual 100, 3) := by decide +kernel
theorem dX6_hide_64 : decode cX6_hide 64 = .ok (.ireturn, 1) := by decide +kernel
theorem dX6_tell_0 : decode cX6_tell 0 = .ok (.aload_n 0, 1) := by decide +kernel
theorem dX6_tell_1 : decode cX6_tell 1 = .ok (.iconst 0, 1) := by decide +kernel
theorem dX6_tell_2 : decode cX6_tell 2 = .ok (.putfield 23, 3) := by decide +kernel
theorem dX6_tell_5 : decode cX6_tell 5 = .ok (.aload_n 0, 1) := by decide +kernel
theorem dX6_tell_6 : decode cX6_tell 6 = .ok (.iload_n 1, 1) := by decide +kernel
theorem dX6_tell_7 : decode cX6_tell 7 = .ok (.invokevirtual 97, 3) := by decide +kernel
theorem dX6_tell_10 : decode cX6_tell 10 = .ok (.ifCond .eq 11, 3) := by decide +kernel
theorem dX6_tell_13 : decode cX6_tell 13 = .ok (.aload_n 0, 1) := by decide +kernel
theorem dX6_tell_14 : decode cX6_tell 14 = .ok (.iload_n 2, 1) := by decide +kernel
theorem dX6_tell_15 : decode cX6_tell 15 = .ok (.invokevirtual 73, 3) := by decide +kernel
theorem dX6_tell_18 : decode cX6_tell 18 = .ok (.ifCond .ne 9, 3) := by decide +kernel
theorem dX6_tell_21 : decode cX6_tell 21 = .ok (.aload_n 0, 1) := by decide +kernel
theorem dX6_tell_22 : decode cX6_tell 22 = .ok (.iconst 1, 1) := by decide +kernel
theorem dX6_tell_23 : decode cX6_tell 23 = .ok (.invokevirtual 49, 3) := by decide +kernel
theorem dX6_tell_26 : decode cX6_tell 26 = .ok (.ireturn, 1) := by decide +kernel
theorem dX6_tell_27 : decode cX6_tell 27 = .ok (.aload_n 0, 1) := by decide +kernel
theorem dX6_tell_28 : decode cX6_tell 28 = .ok (.iload_n 1, 1) := by decide +kernel
theorem dX6_tell_29 : decode cX6_tell 29 = .ok (.iconst 1, 1) := by decide +kernel
theorem dX6_tell_30 : decode cX6_tell 30 = .ok (.invokevirtual 86, 3) := by decide +kernel
theorem dX6_tell_33 : decode cX6_tell 33 = .ok (.ifCond .gt 12, 3) := by decide +kernel
theorem dX6_tell_36 : decode cX6_tell 36 = .ok (.aload_n 0, 1) := by decide +kernel
theorem dX6_tell_37 : decode cX6_tell 37 = .ok (.iload_n 1, 1) := by decide +kernel
theorem dX6_tell_38 : decode cX6_tell 38 = .ok (.iload_n 2, 1) := by decide +kernel
theorem dX6_tell_39 : decode cX6_tell 39 = .ok (.invokevirtual 107, 3) := by decide +kernel
theorem dX6_tell_42 : decode cX6_tell 42 = .ok (.ifCond .ne 9, 3) := by decide +kernel
theorem dX6_tell_45 : decode cX6_tell 45 = .ok (.aload_n 0, 1) := by decide +kernel
theorem dX6_tell_46 : decode cX6_tell 46 = .ok (.iconst 2, 1) := by decide +kernel
theorem dX6_tell_47 : decode cX6_tell 47 = .ok (.invokevirtual 49, 3) := by decide +kernel
theorem dX6_tell_50 : decode cX6_tell 50 = .ok (.ireturn, 1) := by decide +kernel
theorem dX6_tell_51 : decode cX6_tell 51 = .ok (.aload_n 0, 1) := by decide +kernel
theorem dX6_tell_52 : decode cX6_tell 52 = .ok (.iload_n 2, 1) := by decide +kernel
theorem dX6_tell_53 : decode cX6_tell 53 = .ok (.iconst 1, 1) := by decide +kernel
theorem dX6_tell_54 : decode cX6_tell 54 = .ok (.invokevirtual 76, 3) := by decide +kernel
theorem dX6_tell_57 : decode cX6_tell 57 = .ok (.iconst 1, 1) := by decide +kernel
theorem dX6_tell_58 : decode cX6_tell 58 = .ok (.iadd, 1) := by decide +kernel
theorem dX6_tell_59 : decode cX6_tell 59 = .ok (.istore_n 3, 1) := by decide +kernel
theorem dX6_tell_60 : decode cX6_tell 60 = .ok (.aload_n 0, 1) := by decide +kernel
theorem dX6_tell_61 : decode cX6_tell 61 = .ok (.aload_n 0, 1) := by decide +kernel
theorem dX6_tell_62 : decode cX6_tell 62 = .ok (.iload_n 1, 1) := by decide +kernel
theorem dX6_tell_63 : decode cX6_tell 63 = .ok (.iconst 0, 1) := by decide +kernel
theorem dX6_tell_64 : decode cX6_tell 64 = .ok (.invokevirtual 86, 3) := by decide +kernel
theorem dX6_tell_67 : decode cX6_tell 67 = .ok (.aload_n 0, 1) := by decide +kernel
theorem dX6_tell_68 : decode cX6_tell 68 = .ok (.iload_n 2, 1) := by decide +kernel
theorem dX6_tell_69 : decode cX6_tell 69 = .ok (.iconst 3, 1) := by decide +kernel
theorem dX6_tell_70 : decode cX6_tell 70 = .ok (.invokevirtual 76, 3) := by decide +kernel
theorem dX6_tell_73 : decode cX6_tell 73 = .ok (.invokevirtual 79, 3) := by decide +kernel
theorem dX6_tell_76 : decode cX6_tell 76 = .ok (.istore 4, 2) := by decide +kernel
theorem dX6_tell_78 : decode cX6_tell 78 = .ok (.iload 4, 2) := by decide +kernel
theorem dX6_tell_80 : decode cX6_tell 80 = .ok (.iconst (-1), 1) := by decide +kernel
theorem dX6_tell_81 : decode cX6_tell 81 = .ok (.if_icmp .eq 16, 3) := by decide +kernel
theorem dX6_tell_84 : decode cX6_tell 84 = .ok (.aload_n 0, 1) := by decide +kernel
theorem dX6_tell_85 : decode cX6_tell 85 = .ok (.iload 4, 2) := by decide +kernel
theorem dX6_tell_87 : decode cX6_tell 87 = .ok (.iconst 1, 1) := by decide +kernel
theorem dX6_tell_88 : decode cX6_tell 88 = .ok (.invokevirtual 76, 3) := by decide +kernel
theorem dX6_tell_91 : decode cX6_tell 91 = .ok (.iload_n 3, 1) := by decide +kernel
theorem dX6_tell_92 : decode cX6_tell 92 = .ok (.if_icmp .gt 5, 3) := by decide +kernel
theorem dX6_tell_95 : decode cX6_tell 95 = .ok (.iconst (-1), 1) := by decide +kernel
theorem dX6_tell_96 : decode cX6_tell 96 = .ok (.ireturn, 1) := by decide +kernel
theorem dX6_tell_97 : decode cX6_tell 97 = .ok (.aload_n 0, 1) := by decide +kernel
theorem dX6_tell_98 : decode cX6_tell 98 = .ok (.getfield 34, 3) := by decide +kernel
theorem dX6_tell_101 : decode cX6_tell 101 = .ok (.bipush 60, 2) := by decide +kernel
theorem dX6_tell_103 : decode cX6_tell 103 = .ok (.if_icmp .eq 9, 3) := by decide +kernel
theorem dX6_tell_106 : decode cX6_tell 106 = .ok (.iload_n 3, 1) := by decide +kernel
theorem dX6_tell_107 : decode cX6_tell 107 = .ok (.bipush 100, 2) := by decide +kernel
theorem dX6_tell_109 : decode cX6_tell 109 = .ok (.if_icmp .ne 9, 3) := by decide +kernel
theorem dX6_tell_112 : decode cX6_tell 112 = .ok (.aload_n 0, 1) := by decide +kernel
theorem dX6_tell_113 : decode cX6_tell 113 = .ok (.iconst 2, 1) := by decide +kernel
theorem dX6_tell_114 : decode cX6_tell 114 = .ok (.invokevirtual 49, 3) := by decide +kernel
theorem dX6_tell_117 : decode cX6_tell 117 = .ok (.ireturn, 1) := by decide +kernel
theorem dX6_tell_118 : decode cX6_tell 118 = .ok (.aload_n 0, 1) := by decide +kernel
theorem dX6_tell_119 : decode cX6_tell 119 = .ok (.aload_n 0, 1) := by decide +kernel
theorem dX6_tell_120 : decode cX6_tell 120 = .ok (.iload_n 2, 1) := by decide +kernel
theorem dX6_tell_121 : decode cX6_tell 121 = .ok (.iconst 0, 1) := by decide +kernel
theorem dX6_tell_122 : decode cX6_tell 122 = .ok (.invokevirtual 76, 3) := by decide +kernel
theorem dX6_tell_125 : decode cX6_tell 125 = .ok (.iload_n 3, 1) := by decide +kernel
theorem dX6_tell_126 : decode cX6_tell 126 = .ok (.aload_n 0, 1) := by decide +kernel
theorem dX6_tell_127 : decode cX6_tell 127 = .ok (.iload_n 2, 1) := by decide +kernel
theorem dX6_tell_128 : decode cX6_tell 128 = .ok (.iconst 2, 1) := by decide +kernel
theorem dX6_tell_129 : decode cX6_tell 129 = .ok (.invokevirtual 76, 3) := by decide +kernel
theorem dX6_tell_132 : decode cX6_tell 132 = .ok (.aload_n 0, 1) := by decide +kernel
theorem dX6_tell_133 : decode cX6_tell 133 = .ok (.iload_n 2, 1) := by decide +kernel
theorem dX6_tell_134 : decode cX6_tell 134 = .ok (.iconst 3, 1) := by decide +kernel
theorem dX6_tell_135 : decode cX6_tell 135 = .ok (.invokevirtual 76, 3) := by decide +kernel
theorem dX6_tell_138 : decode cX6_tell 138 = .ok (.aload_n 0, 1) := by decide +kernel
theorem dX6_tell_139 : decode cX6_tell 139 = .ok (.iload_n 1, 1) := by decide +kernel
theorem dX6_tell_140 : decode cX6_tell 140 = .ok (.iconst 0, 1) := by decide +kernel
theorem dX6_tell_141 : decode cX6_tell 141 = .ok (.invokevirtual 86, 3) := by decide +kernel
theorem dX6_tell_144 : decode cX6_tell 144 = .ok (.invokevirtual 69, 3) := by decide +kernel
theorem dX6_tell_147 : decode cX6_tell 147 = .ok (.ireturn, 1) := by decide +kernel
theorem dX6_dutyAt_0 : decode cX6_dutyAt 0 = .ok (.aload_n 0, 1) := by decide +kernel
theorem dX6_dutyAt_1 : decode cX6_dutyAt 1 = .ok (.getfield 9, 3) := by decide +kernel
theorem dX6_dutyAt_4 : decode cX6_dutyAt 4 = .ok (.iload_n 1, 1) := by decide +kernel
theorem dX6_dutyAt_5 : decode cX6_dutyAt 5 = .ok (.iconst 2, 1) := by decide +kernel
theorem dX6_dutyAt_6 : decode cX6_dutyAt 6 = .ok (.iadd, 1) := by decide +kernel
theorem dX6_dutyAt_7 : decode cX6_dutyAt 7 = .ok (.iaload, 1) := by decide +kernel
theorem dX6_dutyAt_8 : decode cX6_dutyAt 8 = .ok (.aload_n 0, 1) := by decide +kernel
theorem dX6_dutyAt_9 : decode cX6_dutyAt 9 = .ok (.iload_n 2, 1) := by decide +kernel
theorem dX6_dutyAt_10 : decode cX6_dutyAt 10 = .ok (.iconst 0, 1) := by decide +kernel
theorem dX6_dutyAt_11 : decode cX6_dutyAt 11 = .ok (.invokevirtual 76, 3) := by decide +kernel
theorem dX6_dutyAt_14 : decode cX6_dutyAt 14 = .ok (.imul, 1) := by decide +kernel
theorem dX6_dutyAt_15 : decode cX6_dutyAt 15 = .ok (.aload_n 0, 1) := by decide +kernel
theorem dX6_dutyAt_16 : decode cX6_dutyAt 16 = .ok (.getfield 9, 3) := by decide +kernel
theorem dX6_dutyAt_19 : decode cX6_dutyAt 19 = .ok (.iload_n 1, 1) := by decide +kernel
theorem dX6_dutyAt_20 : decode cX6_dutyAt 20 = .ok (.iconst 3, 1) := by decide +kernel
theorem dX6_dutyAt_21 : decode cX6_dutyAt 21 = .ok (.iadd, 1) := by decide +kernel
theorem dX6_dutyAt_22 : decode cX6_dutyAt 22 = .ok (.iaload, 1) := by decide +kernel
theorem dX6_dutyAt_23 : decode cX6_dutyAt 23 = .ok (.aload_n 0, 1) := by decide +kernel
theorem dX6_dutyAt_24 : decode cX6_dutyAt 24 = .ok (.iload_n 2, 1) := by decide +kernel
theorem dX6_dutyAt_25 : decode cX6_dutyAt 25 = .ok (.iconst 1, 1) := by decide +kernel
theorem dX6_dutyAt_26 : decode cX6_dutyAt 26 = .ok (.invokevirtual 76, 3) := by decide +kernel
theorem dX6_dutyAt_29 : decode cX6_dutyAt 29 = .ok (.imul, 1) := by decide +kernel
theorem dX6_dutyAt_30 : decode cX6_dutyAt 30 = .ok (.iadd, 1) := by decide +kernel
theorem dX6_dutyAt_31 : decode cX6_dutyAt 31 = .ok (.iload_n 3, 1) := by decide +kernel
theorem dX6_dutyAt_32 : decode cX6_dutyAt 32 = .ok (.ishr, 1) := by decide +kernel
theorem dX6_dutyAt_33 : decode cX6_dutyAt 33 = .ok (.ireturn, 1) := by decide +kernel
theorem dX6_owed_0 : decode cX6_owed 0 = .ok (.iconst 0, 1) := by decide +kernel
theorem dX6_owed_1 : decode cX6_owed 1 = .ok (.istore 4, 2) := by decide +kernel
theorem dX6_owed_3 : decode cX6_owed 3 = .ok (.iconst 0, 1) := by decide +kernel
theorem dX6_owed_4 : decode cX6_owed 4 = .ok (.istore 5, 2) := by decide +kernel
theorem dX6_owed_6 : decode cX6_owed 6 = .ok (.iload 5, 2) := by decide +kernel
theorem dX6_owed_8 : decode cX6_owed 8 = .ok (.aload_n 0, 1) := by decide +kernel
theorem dX6_owed_9 : decode cX6_owed 9 = .ok (.getfield 34, 3) := by decide +kernel
theorem dX6_owed_12 : decode cX6_owed 12 = .ok (.if_icmp .ge 53, 3) := by decide +kernel
theorem dX6_owed_15 : decode cX6_owed 15 = .ok (.aload_n 0, 1) := by decide +kernel
theorem dX6_owed_16 : decode cX6_owed 16 = .ok (.iload_n 1, 1) := by decide +kernel
theorem dX6_owed_17 : decode cX6_owed 17 = .ok (.iload 5, 2) := by decide +kernel
theorem dX6_owed_19 : decode cX6_owed 19 = .ok (.invokevirtual 107, 3) := by decide +kernel
theorem dX6_owed_22 : decode cX6_owed 22 = .ok (.ifCond .eq 37, 3) := by decide +kernel
theorem dX6_owed_25 : decode cX6_owed 25 = .ok (.aload_n 0, 1) := by decide +kernel
theorem dX6_owed_26 : decode cX6_owed 26 = .ok (.iload 5, 2) := by decide +kernel
theorem dX6_owed_28 : decode cX6_owed 28 = .ok (.bipush 6, 2) := by decide +kernel
theorem dX6_owed_30 : decode cX6_owed 30 = .ok (.invokevirtual 76, 3) := by decide +kernel
theorem dX6_owed_33 : decode cX6_owed 33 = .ok (.ifCond .ne 26, 3) := by decide +kernel
theorem dX6_owed_36 : decode cX6_owed 36 = .ok (.iload 4, 2) := by decide +kernel
theorem dX6_owed_38 : decode cX6_owed 38 = .ok (.aload_n 0, 1) := by decide +kernel
theorem dX6_owed_39 : decode cX6_owed 39 = .ok (.iload_n 2, 1) := by decide +kernel
theorem dX6_owed_40 : decode cX6_owed 40 = .ok (.iload 5, 2) := by decide +kernel
theorem dX6_owed_42 : decode cX6_owed 42 = .ok (.iload_n 3, 1) := by decide +kernel
theorem dX6_owed_43 : decode cX6_owed 43 = .ok (.aload_n 0, 1) := by decide +kernel
theorem dX6_owed_44 : decode cX6_owed 44 = .ok (.iload 5, 2) := by decide +kernel
theorem dX6_owed_46 : decode cX6_owed 46 = .ok (.iconst 2, 1) := by decide +kernel
theorem dX6_owed_47 : decode cX6_owed 47 = .ok (.invokevirtual 76, 3) := by decide +kernel
theorem dX6_owed_50 : decode cX6_owed 50 = .ok (.invokestatic 40, 3) := by decide +kernel
theorem dX6_owed_53 : decode cX6_owed 53 = .ok (.invokevirtual 110, 3) := by decide +kernel
theorem dX6_owed_56 : decode cX6_owed 56 = .ok (.iadd, 1) := by decide +kernel
theorem dX6_owed_57 : decode cX6_owed 57 = .ok (.istore 4, 2) := by decide +kernel
theorem dX6_owed_59 : decode cX6_owed 59 = .ok (.iinc 5 1, 3) := by decide +kernel
theorem dX6_owed_62 : decode cX6_owed 62 = .ok (.goto (-56), 3) := by decide +kernel
theorem dX6_owed_65 : decode cX6_owed 65 = .ok (.iload 4, 2) := by decide +kernel
theorem dX6_owed_67 : decode cX6_owed 67 = .ok (.ireturn, 1) := by decide +kernel
theorem dX6_isSearched_0 : decode cX6_isSearched 0 = .ok (.aload_n 0, 1) := by decide +kernel
theorem dX6_isSearched_1 : decode cX6_isSearched 1 = .ok (.getfield 9, 3) := by decide +kernel
theorem dX6_isSearched_4 : decode cX6_isSearched 4 = .ok (.iload_n 2, 1) := by decide +kernel
theorem dX6_isSearched_5 : decode cX6_isSearched 5 = .ok (.iconst 5, 1) := by decide +kernel
theorem dX6_isSearched_6 : decode cX6_isSearched 6 = .ok (.iadd, 1) := by decide +kernel
theorem dX6_isSearched_7 : decode cX6_isSearched 7 = .ok (.iaload, 1) := by decide +kernel
theorem dX6_isSearched_8 : decode cX6_isSearched 8 = .ok (.aload_n 0, 1) := by decide +kernel
theorem dX6_isSearched_9 : decode cX6_isSearched 9 = .ok (.getfield 9, 3) := by decide +kernel
theorem dX6_isSearched_12 : decode cX6_isSearched 12 = .ok (.iload_n 2, 1) := by decide +kernel
theorem dX6_isSearched_13 : decode cX6_isSearched 13 = .ok (.iconst 4, 1) := by decide +kernel
theorem dX6_isSearched_14 : decode cX6_isSearched 14 = .ok (.iadd, 1) := by decide +kernel
theorem dX6_isSearched_15 : decode cX6_isSearched 15 = .ok (.iaload, 1) := by decide +kernel
theorem dX6_isSearched_16 : decode cX6_isSearched 16 = .ok (.iadd, 1) := by decide +kernel
theorem dX6_isSearched_17 : decode cX6_isSearched 17 = .ok (.aload_n 0, 1) := by decide +kernel
theorem dX6_isSearched_18 : decode cX6_isSearched 18 = .ok (.iload_n 1, 1) := by decide +kernel
theorem dX6_isSearched_19 : decode cX6_isSearched 19 = .ok (.iconst 1, 1) := by decide +kernel
theorem dX6_isSearched_20 : decode cX6_isSearched 20 = .ok (.invokevirtual 100, 3) := by decide +kernel
theorem dX6_isSearched_23 : decode cX6_isSearched 23 = .ok (.iadd, 1) := by decide +kernel
theorem dX6_isSearched_24 : decode cX6_isSearched 24 = .ok (.bipush 10, 2) := by decide +kernel
theorem dX6_isSearched_26 : decode cX6_isSearched 26 = .ok (.if_icmp .lt 7, 3) := by decide +kernel
theorem dX6_isSearched_29 : decode cX6_isSearched 29 = .ok (.iconst 1, 1) := by decide +kernel
theorem dX6_isSearched_30 : decode cX6_isSearched 30 = .ok (.goto 4, 3) := by decide +kernel
theorem dX6_isSearched_33 : decode cX6_isSearched 33 = .ok (.iconst 0, 1) := by decide +kernel
theorem dX6_isSearched_34 : decode cX6_isSearched 34 = .ok (.ireturn, 1) := by decide +kernel
theorem dX6_fine_0 : decode cX6_fine 0 = .ok (.iconst 0, 1) := by decide +kernel
theorem dX6_fine_1 : decode cX6_fine 1 = .ok (.istore 4, 2) := by decide +kernel
theorem dX6_fine_3 : decode cX6_fine 3 = .ok (.iconst 0, 1) := by decide +kernel
theorem dX6_fine_4 : decode cX6_fine 4 = .ok (.istore 5, 2) := by decide +kernel
theorem dX6_fine_6 : decode cX6_fine 6 = .ok (.iload 5, 2) := by decide +kernel
theorem dX6_fine_8 : decode cX6_fine 8 = .ok (.aload_n 0, 1) := by decide +kernel
theorem dX6_fine_9 : decode cX6_fine 9 = .ok (.getfield 34, 3) := by decide +kernel
theorem dX6_fine_12 : decode cX6_fine 12 = .ok (.if_icmp .ge 46, 3) := by decide +kernel
theorem dX6_fine_15 : decode cX6_fine 15 = .ok (.aload_n 0, 1) := by decide +kernel
theorem dX6_fine_16 : decode cX6_fine 16 = .ok (.iload_n 1, 1) := by decide +kernel
theorem dX6_fine_17 : decode cX6_fine 17 = .ok (.iload 5, 2) := by decide +kernel
theorem dX6_fine_19 : decode cX6_fine 19 = .ok (.invokevirtual 107, 3) := by decide +kernel
theorem dX6_fine_22 : decode cX6_fine 22 = .ok (.ifCond .eq 30, 3) := by decide +kernel
theorem dX6_fine_25 : decode cX6_fine 25 = .ok (.aload_n 0, 1) := by decide +kernel
theorem dX6_fine_26 : decode cX6_fine 26 = .ok (.iload 5, 2) := by decide +kernel
theorem dX6_fine_28 : decode cX6_fine 28 = .ok (.bipush 6, 2) := by decide +kernel
theorem dX6_fine_30 : decode cX6_fine 30 = .ok (.invokevirtual 76, 3) := by decide +kernel
theorem dX6_fine_33 : decode cX6_fine 33 = .ok (.iconst 1, 1) := by decide +kernel
theorem dX6_fine_34 : decode cX6_fine 34 = .ok (.if_icmp .ne 18, 3) := by decide +kernel
theorem dX6_fine_37 : decode cX6_fine 37 = .ok (.iload 4, 2) := by decide +kernel
theorem dX6_fine_39 : decode cX6_fine 39 = .ok (.iconst 3, 1) := by decide +kernel
theorem dX6_fine_40 : decode cX6_fine 40 = .ok (.aload_n 0, 1) := by decide +kernel
theorem dX6_fine_41 : decode cX6_fine 41 = .ok (.iload_n 2, 1) := by decide +kernel
theorem dX6_fine_42 : decode cX6_fine 42 = .ok (.iload 5, 2) := by decide +kernel
theorem dX6_fine_44 : decode cX6_fine 44 = .ok (.iconst 0, 1) := by decide +kernel
theorem dX6_fine_45 : decode cX6_fine 45 = .ok (.invokevirtual 110, 3) := by decide +kernel
theorem dX6_fine_48 : decode cX6_fine 48 = .ok (.imul, 1) := by decide +kernel
theorem dX6_fine_49 : decode cX6_fine 49 = .ok (.iadd, 1) := by decide +kernel
theorem dX6_fine_50 : decode cX6_fine 50 = .ok (.istore 4, 2) := by decide +kernel
theorem dX6_fine_52 : decode cX6_fine 52 = .ok (.iinc 5 1, 3) := by decide +kernel
theorem dX6_fine_55 : decode cX6_fine 55 = .ok (.goto (-49), 3) := by decide +kernel
theorem dX6_fine_58 : decode cX6_fine 58 = .ok (.aload_n 0, 1) := by decide +kernel
theorem dX6_fine_59 : decode cX6_fine 59 = .ok (.iload_n 1, 1) := by decide +kernel
theorem dX6_fine_60 : decode cX6_fine 60 = .ok (.iload_n 2, 1) := by decide +kernel
theorem dX6_fine_61 : decode cX6_fine 61 = .ok (.invokevirtual 114, 3) := by decide +kernel
theorem dX6_fine_64 : decode cX6_fine 64 = .ok (.ifCond .eq 16, 3) := by decide +kernel
theorem dX6_fine_67 : decode cX6_fine 67 = .ok (.iconst 0, 1) := by decide +kernel
theorem dX6_fine_68 : decode cX6_fine 68 = .ok (.iload_n 3, 1) := by decide +kernel
theorem dX6_fine_69 : decode cX6_fine 69 = .ok (.invokestatic 46, 3) := by decide +kernel
theorem dX6_fine_72 : decode cX6_fine 72 = .ok (.iload 4, 2) := by decide +kernel
theorem dX6_fine_74 : decode cX6_fine 74 = .ok (.invokestatic 40, 3) := by decide +kernel
theorem dX6_fine_77 : decode cX6_fine 77 = .ok (.goto 4, 3) := by decide +kernel
theorem dX6_fine_80 : decode cX6_fine 80 = .ok (.iconst 0, 1) := by decide +kernel
theorem dX6_fine_81 : decode cX6_fine 81 = .ok (.ireturn, 1) := by decide +kernel
theorem dX6_go_0 : decode cX6_go 0 = .ok (.aload_n 0, 1) := by decide +kernel
theorem dX6_go_1 : decode cX6_go 1 = .ok (.iconst 0, 1) := by decide +kernel
theorem dX6_go_2 : decode cX6_go 2 = .ok (.putfield 23, 3) := by decide +kernel
theorem dX6_go_5 : decode cX6_go 5 = .ok (.aload_n 0, 1) := by decide +kernel
theorem dX6_go_6 : decode cX6_go 6 = .ok (.iload_n 1, 1) := by decide +kernel
theorem dX6_go_7 : decode cX6_go 7 = .ok (.invokevirtual 97, 3) := by decide +kernel
theorem dX6_go_10 : decode cX6_go 10 = .ok (.ifCond .eq 11, 3) := by decide +kernel
theorem dX6_go_13 : decode cX6_go 13 = .ok (.aload_n 0, 1) := by decide +kernel
theorem dX6_go_14 : decode cX6_go 14 = .ok (.iload_n 2, 1) := by decide +kernel
theorem dX6_go_15 : decode cX6_go 15 = .ok (.invokevirtual 53, 3) := by decide +kernel
theorem dX6_go_18 : decode cX6_go 18 = .ok (.ifCond .ne 9, 3) := by decide +kernel
theorem dX6_go_21 : decode cX6_go 21 = .ok (.aload_n 0, 1) := by decide +kernel
theorem dX6_go_22 : decode cX6_go 22 = .ok (.iconst 1, 1) := by decide +kernel
theorem dX6_go_23 : decode cX6_go 23 = .ok (.invokevirtual 49, 3) := by decide +kernel
theorem dX6_go_26 : decode cX6_go 26 = .ok (.ireturn, 1) := by decide +kernel
theorem dX6_go_27 : decode cX6_go 27 = .ok (.iload_n 3, 1) := by decide +kernel
theorem dX6_go_28 : decode cX6_go 28 = .ok (.iconst 0, 1) := by decide +kernel
theorem dX6_go_29 : decode cX6_go 29 = .ok (.iconst 5, 1) := by decide +kernel
theorem dX6_go_30 : decode cX6_go 30 = .ok (.invokestatic 30, 3) := by decide +kernel
theorem dX6_go_33 : decode cX6_go 33 = .ok (.ifCond .ne 9, 3) := by decide +kernel
theorem dX6_go_36 : decode cX6_go 36 = .ok (.aload_n 0, 1) := by decide +kernel
theorem dX6_go_37 : decode cX6_go 37 = .ok (.iconst 2, 1) := by decide +kernel
theorem dX6_go_38 : decode cX6_go 38 = .ok (.invokevirtual 49, 3) := by decide +kernel
theorem dX6_go_41 : decode cX6_go 41 = .ok (.ireturn, 1) := by decide +kernel
theorem dX6_go_42 : decode cX6_go 42 = .ok (.aload_n 0, 1) := by decide +kernel
theorem dX6_go_43 : decode cX6_go 43 = .ok (.iload_n 1, 1) := by decide +kernel
theorem dX6_go_44 : decode cX6_go 44 = .ok (.iconst 0, 1) := by decide +kernel
theorem dX6_go_45 : decode cX6_go 45 = .ok (.invokevirtual 86, 3) := by decide +kernel
theorem dX6_go_48 : decode cX6_go 48 = .ok (.iload_n 2, 1) := by decide +kernel
theorem dX6_go_49 : decode cX6_go 49 = .ok (.invokestatic 57, 3) := by decide +kernel
theorem dX6_go_52 : decode cX6_go 52 = .ok (.istore 4, 2) := by decide +kernel
theorem dX6_go_54 : decode cX6_go 54 = .ok (.aload_n 0, 1) := by decide +kernel
theorem dX6_go_55 : decode cX6_go 55 = .ok (.iload_n 1, 1) := by decide +kernel
theorem dX6_go_56 : decode cX6_go 56 = .ok (.iconst 1, 1) := by decide +kernel
theorem dX6_go_57 : decode cX6_go 57 = .ok (.invokevirtual 86, 3) := by decide +kernel
theorem dX6_go_60 : decode cX6_go 60 = .ok (.ifCond .gt 23, 3) := by decide +kernel
theorem dX6_go_63 : decode cX6_go 63 = .ok (.aload_n 0, 1) := by decide +kernel
theorem dX6_go_64 : decode cX6_go 64 = .ok (.iload_n 1, 1) := by decide +kernel
theorem dX6_go_65 : decode cX6_go 65 = .ok (.iconst 0, 1) := by decide +kernel
theorem dX6_go_66 : decode cX6_go 66 = .ok (.invokevirtual 86, 3) := by decide +kernel
theorem dX6_go_69 : decode cX6_go 69 = .ok (.iload_n 2, 1) := by decide +kernel
theorem dX6_go_70 : decode cX6_go 70 = .ok (.if_icmp .eq 13, 3) := by decide +kernel
theorem dX6_go_73 : decode cX6_go 73 = .ok (.aload_n 0, 1) := by decide +kernel
theorem dX6_go_74 : decode cX6_go 74 = .ok (.getfield 9, 3) := by decide +kernel
theorem dX6_go_77 : decode cX6_go 77 = .ok (.iload 4, 2) := by decide +kernel
theorem dX6_go_79 : decode cX6_go 79 = .ok (.iaload, 1) := by decide +kernel
theorem dX6_go_80 : decode cX6_go 80 = .ok (.ifCond .ne 9, 3) := by decide +kernel
theorem dX6_go_83 : decode cX6_go 83 = .ok (.aload_n 0, 1) := by decide +kernel
theorem dX6_go_84 : decode cX6_go 84 = .ok (.iconst 3, 1) := by decide +kernel
theorem dX6_go_85 : decode cX6_go 85 = .ok (.invokevirtual 49, 3) := by decide +kernel
theorem dX6_go_88 : decode cX6_go 88 = .ok (.ireturn, 1) := by decide +kernel
theorem dX6_go_89 : decode cX6_go 89 = .ok (.aload_n 0, 1) := by decide +kernel
theorem dX6_go_90 : decode cX6_go 90 = .ok (.iload_n 1, 1) := by decide +kernel
theorem dX6_go_91 : decode cX6_go 91 = .ok (.iload 4, 2) := by decide +kernel
theorem dX6_go_93 : decode cX6_go 93 = .ok (.iload_n 3, 1) := by decide +kernel
theorem dX6_go_94 : decode cX6_go 94 = .ok (.invokevirtual 117, 3) := by decide +kernel
theorem dX6_go_97 : decode cX6_go 97 = .ok (.istore 5, 2) := by decide +kernel
theorem dX6_go_99 : decode cX6_go 99 = .ok (.iload 5, 2) := by decide +kernel
theorem dX6_go_101 : decode cX6_go 101 = .ok (.aload_n 0, 1) := by decide +kernel
theorem dX6_go_102 : decode cX6_go 102 = .ok (.iload_n 1, 1) := by decide +kernel
theorem dX6_go_103 : decode cX6_go 103 = .ok (.iconst 2, 1) := by decide +kernel
theorem dX6_go_104 : decode cX6_go 104 = .ok (.invokevirtual 86, 3) := by decide +kernel
theorem dX6_go_107 : decode cX6_go 107 = .ok (.if_icmp .le 9, 3) := by decide +kernel
theorem dX6_go_110 : decode cX6_go 110 = .ok (.aload_n 0, 1) := by decide +kernel
theorem dX6_go_111 : decode cX6_go 111 = .ok (.iconst 3, 1) := by decide +kernel
theorem dX6_go_112 : decode cX6_go 112 = .ok (.invokevirtual 49, 3) := by decide +kernel
theorem dX6_go_115 : decode cX6_go 115 = .ok (.ireturn, 1) := by decide +kernel
theorem dX6_go_116 : decode cX6_go 116 = .ok (.aload_n 0, 1) := by decide +kernel
theorem dX6_go_117 : decode cX6_go 117 = .ok (.iload_n 1, 1) := by decide +kernel
theorem dX6_go_118 : decode cX6_go 118 = .ok (.iload 4, 2) := by decide +kernel
theorem dX6_go_120 : decode cX6_go 120 = .ok (.aload_n 0, 1) := by decide +kernel
theorem dX6_go_121 : decode cX6_go 121 = .ok (.iload_n 1, 1) := by decide +kernel
theorem dX6_go_122 : decode cX6_go 122 = .ok (.iconst 2, 1) := by decide +kernel
theorem dX6_go_123 : decode cX6_go 123 = .ok (.invokevirtual 86, 3) := by decide +kernel
theorem dX6_go_126 : decode cX6_go 126 = .ok (.iload 5, 2) := by decide +kernel
theorem dX6_go_128 : decode cX6_go 128 = .ok (.isub, 1) := by decide +kernel
theorem dX6_go_129 : decode cX6_go 129 = .ok (.invokevirtual 120, 3) := by decide +kernel
theorem dX6_go_132 : decode cX6_go 132 = .ok (.istore 6, 2) := by decide +kernel
theorem dX6_go_134 : decode cX6_go 134 = .ok (.aload_n 0, 1) := by decide +kernel
theorem dX6_go_135 : decode cX6_go 135 = .ok (.iload_n 1, 1) := by decide +kernel
theorem dX6_go_136 : decode cX6_go 136 = .ok (.iload 4, 2) := by decide +kernel
theorem dX6_go_138 : decode cX6_go 138 = .ok (.invokevirtual 114, 3) := by decide +kernel
theorem dX6_go_141 : decode cX6_go 141 = .ok (.istore 7, 2) := by decide +kernel
theorem dX6_go_143 : decode cX6_go 143 = .ok (.aload_n 0, 1) := by decide +kernel
theorem dX6_go_144 : decode cX6_go 144 = .ok (.getfield 9, 3) := by decide +kernel
theorem dX6_go_147 : decode cX6_go 147 = .ok (.iload 4, 2) := by decide +kernel
theorem dX6_go_149 : decode cX6_go 149 = .ok (.iconst 5, 1) := by decide +kernel
theorem dX6_go_150 : decode cX6_go 150 = .ok (.iadd, 1) := by decide +kernel
theorem dX6_go_151 : decode cX6_go 151 = .ok (.dup2, 1) := by decide +kernel
theorem dX6_go_152 : decode cX6_go 152 = .ok (.iaload, 1) := by decide +kernel
theorem dX6_go_153 : decode cX6_go 153 = .ok (.aload_n 0, 1) := by decide +kernel
theorem dX6_go_154 : decode cX6_go 154 = .ok (.getfield 9, 3) := by decide +kernel
theorem dX6_go_157 : decode cX6_go 157 = .ok (.iload 4, 2) := by decide +kernel
theorem dX6_go_159 : decode cX6_go 159 = .ok (.iconst 4, 1) := by decide +kernel
theorem dX6_go_160 : decode cX6_go 160 = .ok (.iadd, 1) := by decide +kernel
theorem dX6_go_161 : decode cX6_go 161 = .ok (.iaload, 1) := by decide +kernel
theorem dX6_go_162 : decode cX6_go 162 = .ok (.aload_n 0, 1) := by decide +kernel
theorem dX6_go_163 : decode cX6_go 163 = .ok (.iload_n 1, 1) := by decide +kernel
theorem dX6_go_164 : decode cX6_go 164 = .ok (.iconst 1, 1) := by decide +kernel
theorem dX6_go_165 : decode cX6_go 165 = .ok (.invokevirtual 100, 3) := by decide +kernel
theorem dX6_go_168 : decode cX6_go 168 = .ok (.iadd, 1) := by decide +kernel
theorem dX6_go_169 : decode cX6_go 169 = .ok (.iload 7, 2) := by decide +kernel
theorem dX6_go_171 : decode cX6_go 171 = .ok (.ifCond .eq 8, 3) := by decide +kernel
theorem dX6_go_174 : decode cX6_go 174 = .ok (.bipush 10, 2) := by decide +kernel
theorem dX6_go_176 : decode cX6_go 176 = .ok (.goto 4, 3) := by decide +kernel
theorem dX6_go_179 : decode cX6_go 179 = .ok (.iconst 0, 1) := by decide +kernel
theorem dX6_go_180 : decode cX6_go 180 = .ok (.isub, 1) := by decide +kernel
theorem dX6_go_181 : decode cX6_go 181 = .ok (.iadd, 1) := by decide +kernel
theorem dX6_go_182 : decode cX6_go 182 = .ok (.iastore, 1) := by decide +kernel
theorem dX6_go_183 : decode cX6_go 183 = .ok (.aload_n 0, 1) := by decide +kernel
theorem dX6_go_184 : decode cX6_go 184 = .ok (.dup, 1) := by decide +kernel
theorem dX6_go_185 : decode cX6_go 185 = .ok (.getfield 123, 3) := by decide +kernel
theorem dX6_go_188 : decode cX6_go 188 = .ok (.iload 7, 2) := by decide +kernel
theorem dX6_go_190 : decode cX6_go 190 = .ok (.ifCond .eq 7, 3) := by decide +kernel
theorem dX6_go_193 : decode cX6_go 193 = .ok (.iconst 1, 1) := by decide +kernel
theorem dX6_go_194 : decode cX6_go 194 = .ok (.goto 4, 3) := by decide +kernel
theorem dX6_go_197 : decode cX6_go 197 = .ok (.iconst 0, 1) := by decide +kernel
theorem dX6_go_198 : decode cX6_go 198 = .ok (.iadd, 1) := by decide +kernel
theorem dX6_go_199 : decode cX6_go 199 = .ok (.putfield 123, 3) := by decide +kernel
theorem dX6_go_202 : decode cX6_go 202 = .ok (.iconst 0, 1) := by decide +kernel
theorem dX6_go_203 : decode cX6_go 203 = .ok (.istore 8, 2) := by decide +kernel
theorem dX6_go_205 : decode cX6_go 205 = .ok (.iload 8, 2) := by decide +kernel
theorem dX6_go_207 : decode cX6_go 207 = .ok (.aload_n 0, 1) := by decide +kernel
theorem dX6_go_208 : decode cX6_go 208 = .ok (.getfield 34, 3) := by decide +kernel
theorem dX6_go_211 : decode cX6_go 211 = .ok (.if_icmp .ge 91, 3) := by decide +kernel
theorem dX6_go_214 : decode cX6_go 214 = .ok (.aload_n 0, 1) := by decide +kernel
theorem dX6_go_215 : decode cX6_go 215 = .ok (.iload_n 1, 1) := by decide +kernel
theorem dX6_go_216 : decode cX6_go 216 = .ok (.iload 8, 2) := by decide +kernel
theorem dX6_go_218 : decode cX6_go 218 = .ok (.invokevirtual 107, 3) := by decide +kernel
theorem dX6_go_221 : decode cX6_go 221 = .ok (.ifCond .ne 6, 3) := by decide +kernel
theorem dX6_go_224 : decode cX6_go 224 = .ok (.goto 72, 3) := by decide +kernel
theorem dX6_go_227 : decode cX6_go 227 = .ok (.aload_n 0, 1) := by decide +kernel
theorem dX6_go_228 : decode cX6_go 228 = .ok (.iload 8, 2) := by decide +kernel
theorem dX6_go_230 : decode cX6_go 230 = .ok (.bipush 6, 2) := by decide +kernel
theorem dX6_go_232 : decode cX6_go 232 = .ok (.invokevirtual 76, 3) := by decide +kernel
theorem dX6_go_235 : decode cX6_go 235 = .ok (.iconst 1, 1) := by decide +kernel
theorem dX6_go_236 : decode cX6_go 236 = .ok (.if_icmp .ne 19, 3) := by decide +kernel
theorem dX6_go_239 : decode cX6_go 239 = .ok (.iload 7, 2) := by decide +kernel
theorem dX6_go_241 : decode cX6_go 241 = .ok (.ifCond .eq 55, 3) := by decide +kernel
theorem dX6_go_244 : decode cX6_go 244 = .ok (.aload_n 0, 1) := by decide +kernel
theorem dX6_go_245 : decode cX6_go 245 = .ok (.iload 8, 2) := by decide +kernel
theorem dX6_go_247 : decode cX6_go 247 = .ok (.iconst (-1), 1) := by decide +kernel
theorem dX6_go_248 : decode cX6_go 248 = .ok (.iconst (-1), 1) := by decide +kernel
theorem dX6_go_249 : decode cX6_go 249 = .ok (.invokevirtual 104, 3) := by decide +kernel
theorem dX6_go_252 : decode cX6_go 252 = .ok (.goto 44, 3) := by decide +kernel
theorem dX6_go_255 : decode cX6_go 255 = .ok (.iload_n 3, 1) := by decide +kernel
theorem dX6_go_256 : decode cX6_go 256 = .ok (.aload_n 0, 1) := by decide +kernel
theorem dX6_go_257 : decode cX6_go 257 = .ok (.iload 8, 2) := by decide +kernel
theorem dX6_go_259 : decode cX6_go 259 = .ok (.iconst 2, 1) := by decide +kernel
theorem dX6_go_260 : decode cX6_go 260 = .ok (.invokevirtual 76, 3) := by decide +kernel
theorem dX6_go_263 : decode cX6_go 263 = .ok (.invokestatic 40, 3) := by decide +kernel
theorem dX6_go_266 : decode cX6_go 266 = .ok (.istore 9, 2) := by decide +kernel
theorem dX6_go_268 : decode cX6_go 268 = .ok (.aload_n 0, 1) := by decide +kernel
theorem dX6_go_269 : decode cX6_go 269 = .ok (.iload 8, 2) := by decide +kernel
theorem dX6_go_271 : decode cX6_go 271 = .ok (.iconst 2, 1) := by decide +kernel
theorem dX6_go_272 : decode cX6_go 272 = .ok (.aload_n 0, 1) := by decide +kernel
theorem dX6_go_273 : decode cX6_go 273 = .ok (.iload 8, 2) := by decide +kernel
theorem dX6_go_275 : decode cX6_go 275 = .ok (.iconst 2, 1) := by decide +kernel
theorem dX6_go_276 : decode cX6_go 276 = .ok (.invokevirtual 76, 3) := by decide +kernel
theorem dX6_go_279 : decode cX6_go 279 = .ok (.iload 9, 2) := by decide +kernel
theorem dX6_go_281 : decode cX6_go 281 = .ok (.isub, 1) := by decide +kernel
theorem dX6_go_282 : decode cX6_go 282 = .ok (.invokevirtual 93, 3) := by decide +kernel
theorem dX6_go_285 : decode cX6_go 285 = .ok (.aload_n 0, 1) := by decide +kernel
theorem dX6_go_286 : decode cX6_go 286 = .ok (.dup, 1) := by decide +kernel
theorem dX6_go_287 : decode cX6_go 287 = .ok (.getfield 126, 3) := by decide +kernel
theorem dX6_go_290 : decode cX6_go 290 = .ok (.iload 9, 2) := by decide +kernel
theorem dX6_go_292 : decode cX6_go 292 = .ok (.iadd, 1) := by decide +kernel
theorem dX6_go_293 : decode cX6_go 293 = .ok (.putfield 126, 3) := by decide +kernel
theorem dX6_go_296 : decode cX6_go 296 = .ok (.iinc 8 1, 3) := by decide +kernel
theorem dX6_go_299 : decode cX6_go 299 = .ok (.goto (-94), 3) := by decide +kernel
theorem dX6_go_302 : decode cX6_go 302 = .ok (.aload_n 0, 1) := by decide +kernel
theorem dX6_go_303 : decode cX6_go 303 = .ok (.getfield 9, 3) := by decide +kernel
theorem dX6_go_306 : decode cX6_go 306 = .ok (.iload 4, 2) := by decide +kernel
theorem dX6_go_308 : decode cX6_go 308 = .ok (.bipush 6, 2) := by decide +kernel
theorem dX6_go_310 : decode cX6_go 310 = .ok (.iadd, 1) := by decide +kernel
theorem dX6_go_311 : decode cX6_go 311 = .ok (.dup2, 1) := by decide +kernel
theorem dX6_go_312 : decode cX6_go 312 = .ok (.iaload, 1) := by decide +kernel
theorem dX6_go_313 : decode cX6_go 313 = .ok (.iload 5, 2) := by decide +kernel
theorem dX6_go_315 : decode cX6_go 315 = .ok (.iload 6, 2) := by decide +kernel
theorem dX6_go_317 : decode cX6_go 317 = .ok (.iadd, 1) := by decide +kernel
theorem dX6_go_318 : decode cX6_go 318 = .ok (.iadd, 1) := by decide +kernel
theorem dX6_go_319 : decode cX6_go 319 = .ok (.iastore, 1) := by decide +kernel
theorem dX6_go_320 : decode cX6_go 320 = .ok (.aload_n 0, 1) := by decide +kernel
theorem dX6_go_321 : decode cX6_go 321 = .ok (.dup, 1) := by decide +kernel
theorem dX6_go_322 : decode cX6_go 322 = .ok (.getfield 129, 3) := by decide +kernel
theorem dX6_go_325 : decode cX6_go 325 = .ok (.iload 5, 2) := by decide +kernel
theorem dX6_go_327 : decode cX6_go 327 = .ok (.iadd, 1) := by decide +kernel
theorem dX6_go_328 : decode cX6_go 328 = .ok (.putfield 129, 3) := by decide +kernel
theorem dX6_go_331 : decode cX6_go 331 = .ok (.aload_n 0, 1) := by decide +kernel
theorem dX6_go_332 : decode cX6_go 332 = .ok (.dup, 1) := by decide +kernel
theorem dX6_go_333 : decode cX6_go 333 = .ok (.getfield 132, 3) := by decide +kernel
theorem dX6_go_336 : decode cX6_go 336 = .ok (.iload 6, 2) := by decide +kernel
theorem dX6_go_338 : decode cX6_go 338 = .ok (.iadd, 1) := by decide +kernel
theorem dX6_go_339 : decode cX6_go 339 = .ok (.putfield 132, 3) := by decide +kernel
theorem dX6_go_342 : decode cX6_go 342 = .ok (.aload_n 0, 1) := by decide +kernel
theorem dX6_go_343 : decode cX6_go 343 = .ok (.iload_n 1, 1) := by decide +kernel
theorem dX6_go_344 : decode cX6_go 344 = .ok (.iconst 2, 1) := by decide +kernel
theorem dX6_go_345 : decode cX6_go 345 = .ok (.aload_n 0, 1) := by decide +kernel
theorem dX6_go_346 : decode cX6_go 346 = .ok (.iload_n 1, 1) := by decide +kernel
theorem dX6_go_347 : decode cX6_go 347 = .ok (.iconst 2, 1) := by decide +kernel
theorem dX6_go_348 : decode cX6_go 348 = .ok (.invokevirtual 86, 3) := by decide +kernel
theorem dX6_go_351 : decode cX6_go 351 = .ok (.iload 5, 2) := by decide +kernel
theorem dX6_go_353 : decode cX6_go 353 = .ok (.isub, 1) := by decide +kernel
theorem dX6_go_354 : decode cX6_go 354 = .ok (.iload 6, 2) := by decide +kernel
theorem dX6_go_356 : decode cX6_go 356 = .ok (.isub, 1) := by decide +kernel
theorem dX6_go_357 : decode cX6_go 357 = .ok (.invokevirtual 135, 3) := by decide +kernel
theorem dX6_go_360 : decode cX6_go 360 = .ok (.aload_n 0, 1) := by decide +kernel
theorem dX6_go_361 : decode cX6_go 361 = .ok (.iload_n 1, 1) := by decide +kernel
theorem dX6_go_362 : decode cX6_go 362 = .ok (.iconst 3, 1) := by decide +kernel
theorem dX6_go_363 : decode cX6_go 363 = .ok (.aload_n 0, 1) := by decide +kernel
theorem dX6_go_364 : decode cX6_go 364 = .ok (.iload_n 1, 1) := by decide +kernel
theorem dX6_go_365 : decode cX6_go 365 = .ok (.iconst 3, 1) := by decide +kernel
theorem dX6_go_366 : decode cX6_go 366 = .ok (.invokevirtual 86, 3) := by decide +kernel
theorem dX6_go_369 : decode cX6_go 369 = .ok (.iload 5, 2) := by decide +kernel
theorem dX6_go_371 : decode cX6_go 371 = .ok (.iadd, 1) := by decide +kernel
theorem dX6_go_372 : decode cX6_go 372 = .ok (.iload 6, 2) := by decide +kernel
theorem dX6_go_374 : decode cX6_go 374 = .ok (.iadd, 1) := by decide +kernel
theorem dX6_go_375 : decode cX6_go 375 = .ok (.invokevirtual 135, 3) := by decide +kernel
theorem dX6_go_378 : decode cX6_go 378 = .ok (.aload_n 0, 1) := by decide +kernel
theorem dX6_go_379 : decode cX6_go 379 = .ok (.iload_n 1, 1) := by decide +kernel
theorem dX6_go_380 : decode cX6_go 380 = .ok (.iconst 0, 1) := by decide +kernel
theorem dX6_go_381 : decode cX6_go 381 = .ok (.iload_n 2, 1) := by decide +kernel
theorem dX6_go_382 : decode cX6_go 382 = .ok (.invokevirtual 135, 3) := by decide +kernel
theorem dX6_go_385 : decode cX6_go 385 = .ok (.aload_n 0, 1) := by decide +kernel
theorem dX6_go_386 : decode cX6_go 386 = .ok (.iload_n 1, 1) := by decide +kernel
theorem dX6_go_387 : decode cX6_go 387 = .ok (.iconst 1, 1) := by decide +kernel
theorem dX6_go_388 : decode cX6_go 388 = .ok (.aload_n 0, 1) := by decide +kernel
theorem dX6_go_389 : decode cX6_go 389 = .ok (.getfield 9, 3) := by decide +kernel
theorem dX6_go_392 : decode cX6_go 392 = .ok (.iload 4, 2) := by decide +kernel
theorem dX6_go_394 : decode cX6_go 394 = .ok (.iconst 1, 1) := by decide +kernel
theorem dX6_go_395 : decode cX6_go 395 = .ok (.iadd, 1) := by decide +kernel
theorem dX6_go_396 : decode cX6_go 396 = .ok (.iaload, 1) := by decide +kernel
theorem dX6_go_397 : decode cX6_go 397 = .ok (.invokevirtual 135, 3) := by decide +kernel
theorem dX6_go_400 : decode cX6_go 400 = .ok (.iload 5, 2) := by decide +kernel
theorem dX6_go_402 : decode cX6_go 402 = .ok (.iload 6, 2) := by decide +kernel
theorem dX6_go_404 : decode cX6_go 404 = .ok (.iadd, 1) := by decide +kernel
theorem dX6_go_405 : decode cX6_go 405 = .ok (.ireturn, 1) := by decide +kernel
theorem dX6_carrierTold_0 : decode cX6_carrierTold 0 = .ok (.iload_n 2, 1) := by decide +kernel
theorem dX6_carrierTold_1 : decode cX6_carrierTold 1 = .ok (.iconst 3, 1) := by decide +kernel
theorem dX6_carrierTold_2 : decode cX6_carrierTold 2 = .ok (.if_icmp .ge 10, 3) := by decide +kernel
theorem dX6_carrierTold_5 : decode cX6_carrierTold 5 = .ok (.aload_n 0, 1) := by decide +kernel
theorem dX6_carrierTold_6 : decode cX6_carrierTold 6 = .ok (.iload_n 1, 1) := by decide +kernel
theorem dX6_carrierTold_7 : decode cX6_carrierTold 7 = .ok (.iload_n 2, 1) := by decide +kernel
theorem dX6_carrierTold_8 : decode cX6_carrierTold 8 = .ok (.invokevirtual 86, 3) := by decide +kernel
theorem dX6_carrierTold_11 : decode cX6_carrierTold 11 = .ok (.ireturn, 1) := by decide +kernel
theorem dX6_carrierTold_12 : decode cX6_carrierTold 12 = .ok (.iload_n 2, 1) := by decide +kernel
theorem dX6_carrierTold_13 : decode cX6_carrierTold 13 = .ok (.iconst 5, 1) := by decide +kernel
theorem dX6_carrierTold_14 : decode cX6_carrierTold 14 = .ok (.if_icmp .ne 12, 3) := by decide +kernel
theorem dX6_carrierTold_17 : decode cX6_carrierTold 17 = .ok (.aload_n 0, 1) := by decide +kernel
theorem dX6_carrierTold_18 : decode cX6_carrierTold 18 = .ok (.iload_n 1, 1) := by decide +kernel
theorem dX6_carrierTold_19 : decode cX6_carrierTold 19 = .ok (.iconst 3, 1) := by decide +kernel
theorem dX6_carrierTold_20 : decode cX6_carrierTold 20 = .ok (.invokevirtual 86, 3) := by decide +kernel
theorem dX6_carrierTold_23 : decode cX6_carrierTold 23 = .ok (.goto 18, 3) := by decide +kernel
theorem dX6_carrierTold_26 : decode cX6_carrierTold 26 = .ok (.aload_n 0, 1) := by decide +kernel
theorem dX6_carrierTold_27 : decode cX6_carrierTold 27 = .ok (.iload_n 1, 1) := by decide +kernel
theorem dX6_carrierTold_28 : decode cX6_carrierTold 28 = .ok (.iload_n 2, 1) := by decide +kernel
theorem dX6_carrierTold_29 : decode cX6_carrierTold 29 = .ok (.iconst 4, 1) := by decide +kernel
theorem dX6_carrierTold_30 : decode cX6_carrierTold 30 = .ok (.if_icmp .ne 7, 3) := by decide +kernel
theorem dX6_carrierTold_33 : decode cX6_carrierTold 33 = .ok (.iconst 1, 1) := by decide +kernel
theorem dX6_carrierTold_34 : decode cX6_carrierTold 34 = .ok (.goto 4, 3) := by decide +kernel
theorem dX6_carrierTold_37 : decode cX6_carrierTold 37 = .ok (.iconst 0, 1) := by decide +kernel
theorem dX6_carrierTold_38 : decode cX6_carrierTold 38 = .ok (.invokevirtual 100, 3) := by decide +kernel
theorem dX6_carrierTold_41 : decode cX6_carrierTold 41 = .ok (.ireturn, 1) := by decide +kernel
theorem dX6_carrier_0 : decode cX6_carrier 0 = .ok (.aload_n 0, 1) := by decide +kernel
theorem dX6_carrier_1 : decode cX6_carrier 1 = .ok (.iconst 0, 1) := by decide +kernel
theorem dX6_carrier_2 : decode cX6_carrier 2 = .ok (.putfield 23, 3) := by decide +kernel
theorem dX6_carrier_5 : decode cX6_carrier 5 = .ok (.aload_n 0, 1) := by decide +kernel
theorem dX6_carrier_6 : decode cX6_carrier 6 = .ok (.iload_n 1, 1) := by decide +kernel
theorem dX6_carrier_7 : decode cX6_carrier 7 = .ok (.invokevirtual 97, 3) := by decide +kernel
theorem dX6_carrier_10 : decode cX6_carrier 10 = .ok (.ifCond .eq 21, 3) := by decide +kernel
theorem dX6_carrier_13 : decode cX6_carrier 13 = .ok (.iload_n 2, 1) := by decide +kernel
theorem dX6_carrier_14 : decode cX6_carrier 14 = .ok (.iconst 0, 1) := by decide +kernel
theorem dX6_carrier_15 : decode cX6_carrier 15 = .ok (.iconst 5, 1) := by decide +kernel
theorem dX6_carrier_16 : decode cX6_carrier 16 = .ok (.invokestatic 30, 3) := by decide +kernel
theorem dX6_carrier_19 : decode cX6_carrier 19 = .ok (.ifCond .eq 12, 3) := by decide +kernel
theorem dX6_carrier_22 : decode cX6_carrier 22 = .ok (.aload_n 0, 1) := by decide +kernel
theorem dX6_carrier_23 : decode cX6_carrier 23 = .ok (.iload_n 1, 1) := by decide +kernel
theorem dX6_carrier_24 : decode cX6_carrier 24 = .ok (.iload_n 2, 1) := by decide +kernel
theorem dX6_carrier_25 : decode cX6_carrier 25 = .ok (.invokevirtual 138, 3) := by decide +kernel
theorem dX6_carrier_28 : decode cX6_carrier 28 = .ok (.goto 8, 3) := by decide +kernel
theorem dX6_carrier_31 : decode cX6_carrier 31 = .ok (.aload_n 0, 1) := by decide +kernel
theorem dX6_carrier_32 : decode cX6_carrier 32 = .ok (.iconst 1, 1) := by decide +kernel
theorem dX6_carrier_33 : decode cX6_carrier 33 = .ok (.invokevirtual 49, 3) := by decide +kernel
theorem dX6_carrier_36 : decode cX6_carrier 36 = .ok (.ireturn, 1) := by decide +kernel
theorem dX6_wouldPay_0 : decode cX6_wouldPay 0 = .ok (.aload_n 0, 1) := by decide +kernel
theorem dX6_wouldPay_1 : decode cX6_wouldPay 1 = .ok (.iconst 0, 1) := by decide +kernel
theorem dX6_wouldPay_2 : decode cX6_wouldPay 2 = .ok (.putfield 23, 3) := by decide +kernel
theorem dX6_wouldPay_5 : decode cX6_wouldPay 5 = .ok (.aload_n 0, 1) := by decide +kernel
theorem dX6_wouldPay_6 : decode cX6_wouldPay 6 = .ok (.iload_n 1, 1) := by decide +kernel
theorem dX6_wouldPay_7 : decode cX6_wouldPay 7 = .ok (.invokevirtual 97, 3) := by decide +kernel
theorem dX6_wouldPay_10 : decode cX6_wouldPay 10 = .ok (.ifCond .eq 11, 3) := by decide +kernel
theorem dX6_wouldPay_13 : decode cX6_wouldPay 13 = .ok (.aload_n 0, 1) := by decide +kernel
theorem dX6_wouldPay_14 : decode cX6_wouldPay 14 = .ok (.iload_n 2, 1) := by decide +kernel
theorem dX6_wouldPay_15 : decode cX6_wouldPay 15 = .ok (.invokevirtual 53, 3) := by decide +kernel
theorem dX6_wouldPay_18 : decode cX6_wouldPay 18 = .ok (.ifCond .ne 9, 3) := by decide +kernel
theorem dX6_wouldPay_21 : decode cX6_wouldPay 21 = .ok (.aload_n 0, 1) := by decide +kernel
theorem dX6_wouldPay_22 : decode cX6_wouldPay 22 = .ok (.iconst 1, 1) := by decide +kernel
theorem dX6_wouldPay_23 : decode cX6_wouldPay 23 = .ok (.invokevirtual 49, 3) := by decide +kernel
theorem dX6_wouldPay_26 : decode cX6_wouldPay 26 = .ok (.ireturn, 1) := by decide +kernel
theorem dX6_wouldPay_27 : decode cX6_wouldPay 27 = .ok (.iload_n 3, 1) := by decide +kernel
theorem dX6_wouldPay_28 : decode cX6_wouldPay 28 = .ok (.iconst 0, 1) := by decide +kernel
theorem dX6_wouldPay_29 : decode cX6_wouldPay 29 = .ok (.iconst 5, 1) := by decide +kernel
theorem dX6_wouldPay_30 : decode cX6_wouldPay 30 = .ok (.invokestatic 30, 3) := by decide +kernel
theorem dX6_wouldPay_33 : decode cX6_wouldPay 33 = .ok (.ifCond .ne 9, 3) := by decide +kernel
theorem dX6_wouldPay_36 : decode cX6_wouldPay 36 = .ok (.aload_n 0, 1) := by decide +kernel
theorem dX6_wouldPay_37 : decode cX6_wouldPay 37 = .ok (.iconst 2, 1) := by decide +kernel
theorem dX6_wouldPay_38 : decode cX6_wouldPay 38 = .ok (.invokevirtual 49, 3) := by decide +kernel
theorem dX6_wouldPay_41 : decode cX6_wouldPay 41 = .ok (.ireturn, 1) := by decide +kernel
theorem dX6_wouldPay_42 : decode cX6_wouldPay 42 = .ok (.aload_n 0, 1) := by decide +kernel
theorem dX6_wouldPay_43 : decode cX6_wouldPay 43 = .ok (.iload_n 1, 1) := by decide +kernel
theorem dX6_wouldPay_44 : decode cX6_wouldPay 44 = .ok (.iconst 1, 1) := by decide +kernel
theorem dX6_wouldPay_45 : decode cX6_wouldPay 45 = .ok (.invokevirtual 86, 3) := by decide +kernel
theorem dX6_wouldPay_48 : decode cX6_wouldPay 48 = .ok (.ifCond .le 9, 3) := by decide +kernel
theorem dX6_wouldPay_51 : decode cX6_wouldPay 51 = .ok (.aload_n 0, 1) := by decide +kernel
theorem dX6_wouldPay_52 : decode cX6_wouldPay 52 = .ok (.iconst 3, 1) := by decide +kernel
theorem dX6_wouldPay_53 : decode cX6_wouldPay 53 = .ok (.invokevirtual 49, 3) := by decide +kernel
theorem dX6_wouldPay_56 : decode cX6_wouldPay 56 = .ok (.ireturn, 1) := by decide +kernel
theorem dX6_wouldPay_57 : decode cX6_wouldPay 57 = .ok (.aload_n 0, 1) := by decide +kernel
theorem dX6_wouldPay_58 : decode cX6_wouldPay 58 = .ok (.iload_n 1, 1) := by decide +kernel
theorem dX6_wouldPay_59 : decode cX6_wouldPay 59 = .ok (.iconst 0, 1) := by decide +kernel
theorem dX6_wouldPay_60 : decode cX6_wouldPay 60 = .ok (.invokevirtual 86, 3) := by decide +kernel
theorem dX6_wouldPay_63 : decode cX6_wouldPay 63 = .ok (.iload_n 2, 1) := by decide +kernel
theorem dX6_wouldPay_64 : decode cX6_wouldPay 64 = .ok (.invokestatic 57, 3) := by decide +kernel
theorem dX6_wouldPay_67 : decode cX6_wouldPay 67 = .ok (.istore 4, 2) := by decide +kernel
theorem dX6_wouldPay_69 : decode cX6_wouldPay 69 = .ok (.aload_n 0, 1) := by decide +kernel
theorem dX6_wouldPay_70 : decode cX6_wouldPay 70 = .ok (.iload_n 1, 1) := by decide +kernel
theorem dX6_wouldPay_71 : decode cX6_wouldPay 71 = .ok (.iconst 0, 1) := by decide +kernel
theorem dX6_wouldPay_72 : decode cX6_wouldPay 72 = .ok (.invokevirtual 86, 3) := by decide +kernel
theorem dX6_wouldPay_75 : decode cX6_wouldPay 75 = .ok (.iload_n 2, 1) := by decide +kernel
theorem dX6_wouldPay_76 : decode cX6_wouldPay 76 = .ok (.if_icmp .eq 13, 3) := by decide +kernel
theorem dX6_wouldPay_79 : decode cX6_wouldPay 79 = .ok (.aload_n 0, 1) := by decide +kernel
theorem dX6_wouldPay_80 : decode cX6_wouldPay 80 = .ok (.getfield 9, 3) := by decide +kernel
theorem dX6_wouldPay_83 : decode cX6_wouldPay 83 = .ok (.iload 4, 2) := by decide +kernel
theorem dX6_wouldPay_85 : decode cX6_wouldPay 85 = .ok (.iaload, 1) := by decide +kernel
theorem dX6_wouldPay_86 : decode cX6_wouldPay 86 = .ok (.ifCond .ne 5, 3) := by decide +kernel
theorem dX6_wouldPay_89 : decode cX6_wouldPay 89 = .ok (.iconst (-1), 1) := by decide +kernel
theorem dX6_wouldPay_90 : decode cX6_wouldPay 90 = .ok (.ireturn, 1) := by decide +kernel
theorem dX6_wouldPay_91 : decode cX6_wouldPay 91 = .ok (.aload_n 0, 1) := by decide +kernel
theorem dX6_wouldPay_92 : decode cX6_wouldPay 92 = .ok (.iload_n 1, 1) := by decide +kernel
theorem dX6_wouldPay_93 : decode cX6_wouldPay 93 = .ok (.iload 4, 2) := by decide +kernel
theorem dX6_wouldPay_95 : decode cX6_wouldPay 95 = .ok (.iload_n 3, 1) := by decide +kernel
theorem dX6_wouldPay_96 : decode cX6_wouldPay 96 = .ok (.invokevirtual 117, 3) := by decide +kernel
theorem dX6_wouldPay_99 : decode cX6_wouldPay 99 = .ok (.istore 5, 2) := by decide +kernel
theorem dX6_wouldPay_101 : decode cX6_wouldPay 101 = .ok (.iload 5, 2) := by decide +kernel
theorem dX6_wouldPay_103 : decode cX6_wouldPay 103 = .ok (.aload_n 0, 1) := by decide +kernel
theorem dX6_wouldPay_104 : decode cX6_wouldPay 104 = .ok (.iload_n 1, 1) := by decide +kernel
theorem dX6_wouldPay_105 : decode cX6_wouldPay 105 = .ok (.iload 4, 2) := by decide +kernel
theorem dX6_wouldPay_107 : decode cX6_wouldPay 107 = .ok (.aload_n 0, 1) := by decide +kernel
theorem dX6_wouldPay_108 : decode cX6_wouldPay 108 = .ok (.iload_n 1, 1) := by decide +kernel
theorem dX6_wouldPay_109 : decode cX6_wouldPay 109 = .ok (.iconst 2, 1) := by decide +kernel
theorem dX6_wouldPay_110 : decode cX6_wouldPay 110 = .ok (.invokevirtual 86, 3) := by decide +kernel
theorem dX6_wouldPay_113 : decode cX6_wouldPay 113 = .ok (.iload 5, 2) := by decide +kernel
theorem dX6_wouldPay_115 : decode cX6_wouldPay 115 = .ok (.isub, 1) := by decide +kernel
theorem dX6_wouldPay_116 : decode cX6_wouldPay 116 = .ok (.invokevirtual 120, 3) := by decide +kernel
theorem dX6_wouldPay_119 : decode cX6_wouldPay 119 = .ok (.iadd, 1) := by decide +kernel
theorem dX6_wouldPay_120 : decode cX6_wouldPay 120 = .ok (.ireturn, 1) := by decide +kernel
theorem dX6_pass_0 : decode cX6_pass 0 = .ok (.aload_n 0, 1) := by decide +kernel
theorem dX6_pass_1 : decode cX6_pass 1 = .ok (.iconst 0, 1) := by decide +kernel
theorem dX6_pass_2 : decode cX6_pass 2 = .ok (.putfield 23, 3) := by decide +kernel
theorem dX6_pass_5 : decode cX6_pass 5 = .ok (.iload_n 1, 1) := by decide +kernel

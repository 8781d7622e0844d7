theorem dX5_best_0 : decode cX5_best 0 = .ok (.aload_n 0, 1) := by decide +kernel
theorem dX5_best_1 : decode cX5_best 1 = .ok (.getfield 21, 3) := by decide +kernel
theorem dX5_best_4 : decode cX5_best 4 = .ok (.invokevirtual 199, 3) := by decide +kernel
theorem dX5_best_7 : decode cX5_best 7 = .ok (.ifCond .eq 6, 3) := by decide +kernel
theorem dX5_best_10 : decode cX5_best 10 = .ok (.bipush (-4), 2) := by decide +kernel
theorem dX5_best_12 : decode cX5_best 12 = .ok (.ireturn, 1) := by decide +kernel
theorem dX5_best_13 : decode cX5_best 13 = .ok (.aload_n 0, 1) := by decide +kernel
theorem dX5_best_14 : decode cX5_best 14 = .ok (.getfield 42, 3) := by decide +kernel
theorem dX5_best_17 : decode cX5_best 17 = .ok (.aload_n 0, 1) := by decide +kernel
theorem dX5_best_18 : decode cX5_best 18 = .ok (.getfield 21, 3) := by decide +kernel
theorem dX5_best_21 : decode cX5_best 21 = .ok (.invokevirtual 240, 3) := by decide +kernel
theorem dX5_best_24 : decode cX5_best 24 = .ok (.iconst 0, 1) := by decide +kernel
theorem dX5_best_25 : decode cX5_best 25 = .ok (.istore_n 1, 1) := by decide +kernel
theorem dX5_best_26 : decode cX5_best 26 = .ok (.iconst (-1), 1) := by decide +kernel
theorem dX5_best_27 : decode cX5_best 27 = .ok (.istore_n 2, 1) := by decide +kernel
theorem dX5_best_28 : decode cX5_best 28 = .ok (.iconst 0, 1) := by decide +kernel
theorem dX5_best_29 : decode cX5_best 29 = .ok (.istore_n 3, 1) := by decide +kernel
theorem dX5_best_30 : decode cX5_best 30 = .ok (.iload_n 3, 1) := by decide +kernel
theorem dX5_best_31 : decode cX5_best 31 = .ok (.aload_n 0, 1) := by decide +kernel
theorem dX5_best_32 : decode cX5_best 32 = .ok (.getfield 21, 3) := by decide +kernel
theorem dX5_best_35 : decode cX5_best 35 = .ok (.getfield 120, 3) := by decide +kernel
theorem dX5_best_38 : decode cX5_best 38 = .ok (.if_icmp .ge 39, 3) := by decide +kernel
theorem dX5_best_41 : decode cX5_best 41 = .ok (.aload_n 0, 1) := by decide +kernel
theorem dX5_best_42 : decode cX5_best 42 = .ok (.getfield 42, 3) := by decide +kernel
theorem dX5_best_45 : decode cX5_best 45 = .ok (.aload_n 0, 1) := by decide +kernel
theorem dX5_best_46 : decode cX5_best 46 = .ok (.getfield 21, 3) := by decide +kernel
theorem dX5_best_49 : decode cX5_best 49 = .ok (.invokevirtual 180, 3) := by decide +kernel
theorem dX5_best_52 : decode cX5_best 52 = .ok (.iconst 1, 1) := by decide +kernel
theorem dX5_best_53 : decode cX5_best 53 = .ok (.iload_n 3, 1) := by decide +kernel
theorem dX5_best_54 : decode cX5_best 54 = .ok (.ishl, 1) := by decide +kernel
theorem dX5_best_55 : decode cX5_best 55 = .ok (.invokevirtual 243, 3) := by decide +kernel
theorem dX5_best_58 : decode cX5_best 58 = .ok (.istore 4, 2) := by decide +kernel
theorem dX5_best_60 : decode cX5_best 60 = .ok (.iload 4, 2) := by decide +kernel
theorem dX5_best_62 : decode cX5_best 62 = .ok (.iload_n 2, 1) := by decide +kernel
theorem dX5_best_63 : decode cX5_best 63 = .ok (.if_icmp .le 8, 3) := by decide +kernel
theorem dX5_best_66 : decode cX5_best 66 = .ok (.iload 4, 2) := by decide +kernel
theorem dX5_best_68 : decode cX5_best 68 = .ok (.istore_n 2, 1) := by decide +kernel
theorem dX5_best_69 : decode cX5_best 69 = .ok (.iload_n 3, 1) := by decide +kernel
theorem dX5_best_70 : decode cX5_best 70 = .ok (.istore_n 1, 1) := by decide +kernel
theorem dX5_best_71 : decode cX5_best 71 = .ok (.iinc 3 1, 3) := by decide +kernel
theorem dX5_best_74 : decode cX5_best 74 = .ok (.goto (-44), 3) := by decide +kernel
theorem dX5_best_77 : decode cX5_best 77 = .ok (.aload_n 0, 1) := by decide +kernel
theorem dX5_best_78 : decode cX5_best 78 = .ok (.iload_n 2, 1) := by decide +kernel
theorem dX5_best_79 : decode cX5_best 79 = .ok (.aload_n 0, 1) := by decide +kernel
theorem dX5_best_80 : decode cX5_best 80 = .ok (.getfield 42, 3) := by decide +kernel
theorem dX5_best_83 : decode cX5_best 83 = .ok (.invokevirtual 246, 3) := by decide +kernel
theorem dX5_best_86 : decode cX5_best 86 = .ok (.invokevirtual 249, 3) := by decide +kernel
theorem dX5_best_89 : decode cX5_best 89 = .ok (.iload_n 1, 1) := by decide +kernel
theorem dX5_best_90 : decode cX5_best 90 = .ok (.ireturn, 1) := by decide +kernel
theorem dX5_ways_0 : decode cX5_ways 0 = .ok (.iload_n 1, 1) := by decide +kernel
theorem dX5_ways_1 : decode cX5_ways 1 = .ok (.bipush 8, 2) := by decide +kernel
theorem dX5_ways_3 : decode cX5_ways 3 = .ok (.invokestatic 196, 3) := by decide +kernel
theorem dX5_ways_6 : decode cX5_ways 6 = .ok (.ifCond .ne 5, 3) := by decide +kernel
theorem dX5_ways_9 : decode cX5_ways 9 = .ok (.iconst (-1), 1) := by decide +kernel
theorem dX5_ways_10 : decode cX5_ways 10 = .ok (.ireturn, 1) := by decide +kernel
theorem dX5_ways_11 : decode cX5_ways 11 = .ok (.aload_n 0, 1) := by decide +kernel
theorem dX5_ways_12 : decode cX5_ways 12 = .ok (.getfield 21, 3) := by decide +kernel
theorem dX5_ways_15 : decode cX5_ways 15 = .ok (.invokevirtual 199, 3) := by decide +kernel
theorem dX5_ways_18 : decode cX5_ways 18 = .ok (.ifCond .eq 6, 3) := by decide +kernel
theorem dX5_ways_21 : decode cX5_ways 21 = .ok (.bipush (-4), 2) := by decide +kernel
theorem dX5_ways_23 : decode cX5_ways 23 = .ok (.ireturn, 1) := by decide +kernel
theorem dX5_ways_24 : decode cX5_ways 24 = .ok (.aload_n 0, 1) := by decide +kernel
theorem dX5_ways_25 : decode cX5_ways 25 = .ok (.getfield 49, 3) := by decide +kernel
theorem dX5_ways_28 : decode cX5_ways 28 = .ok (.aload_n 0, 1) := by decide +kernel
theorem dX5_ways_29 : decode cX5_ways 29 = .ok (.getfield 21, 3) := by decide +kernel
theorem dX5_ways_32 : decode cX5_ways 32 = .ok (.iload_n 1, 1) := by decide +kernel
theorem dX5_ways_33 : decode cX5_ways 33 = .ok (.aload_n 0, 1) := by decide +kernel
theorem dX5_ways_34 : decode cX5_ways 34 = .ok (.getfield 21, 3) := by decide +kernel
theorem dX5_ways_37 : decode cX5_ways 37 = .ok (.invokevirtual 252, 3) := by decide +kernel
theorem dX5_ways_40 : decode cX5_ways 40 = .ok (.invokevirtual 228, 3) := by decide +kernel
theorem dX5_ways_43 : decode cX5_ways 43 = .ok (.istore_n 2, 1) := by decide +kernel
theorem dX5_ways_44 : decode cX5_ways 44 = .ok (.aload_n 0, 1) := by decide +kernel
theorem dX5_ways_45 : decode cX5_ways 45 = .ok (.aload_n 0, 1) := by decide +kernel
theorem dX5_ways_46 : decode cX5_ways 46 = .ok (.getfield 49, 3) := by decide +kernel
theorem dX5_ways_49 : decode cX5_ways 49 = .ok (.getfield 255, 3) := by decide +kernel
theorem dX5_ways_52 : decode cX5_ways 52 = .ok (.putfield 61, 3) := by decide +kernel
theorem dX5_ways_55 : decode cX5_ways 55 = .ok (.iload_n 2, 1) := by decide +kernel
theorem dX5_ways_56 : decode cX5_ways 56 = .ok (.ireturn, 1) := by decide +kernel
theorem dX5_sure_0 : decode cX5_sure 0 = .ok (.iload_n 1, 1) := by decide +kernel
theorem dX5_sure_1 : decode cX5_sure 1 = .ok (.bipush 8, 2) := by decide +kernel
theorem dX5_sure_3 : decode cX5_sure 3 = .ok (.invokestatic 196, 3) := by decide +kernel
theorem dX5_sure_6 : decode cX5_sure 6 = .ok (.ifCond .ne 5, 3) := by decide +kernel
theorem dX5_sure_9 : decode cX5_sure 9 = .ok (.iconst (-1), 1) := by decide +kernel
theorem dX5_sure_10 : decode cX5_sure 10 = .ok (.ireturn, 1) := by decide +kernel
theorem dX5_sure_11 : decode cX5_sure 11 = .ok (.aload_n 0, 1) := by decide +kernel
theorem dX5_sure_12 : decode cX5_sure 12 = .ok (.getfield 21, 3) := by decide +kernel
theorem dX5_sure_15 : decode cX5_sure 15 = .ok (.invokevirtual 199, 3) := by decide +kernel
theorem dX5_sure_18 : decode cX5_sure 18 = .ok (.ifCond .eq 6, 3) := by decide +kernel
theorem dX5_sure_21 : decode cX5_sure 21 = .ok (.bipush (-4), 2) := by decide +kernel
theorem dX5_sure_23 : decode cX5_sure 23 = .ok (.ireturn, 1) := by decide +kernel
theorem dX5_sure_24 : decode cX5_sure 24 = .ok (.aload_n 0, 1) := by decide +kernel
theorem dX5_sure_25 : decode cX5_sure 25 = .ok (.getfield 49, 3) := by decide +kernel
theorem dX5_sure_28 : decode cX5_sure 28 = .ok (.aload_n 0, 1) := by decide +kernel
theorem dX5_sure_29 : decode cX5_sure 29 = .ok (.getfield 21, 3) := by decide +kernel
theorem dX5_sure_32 : decode cX5_sure 32 = .ok (.iload_n 1, 1) := by decide +kernel
theorem dX5_sure_33 : decode cX5_sure 33 = .ok (.aload_n 0, 1) := by decide +kernel
theorem dX5_sure_34 : decode cX5_sure 34 = .ok (.getfield 21, 3) := by decide +kernel
theorem dX5_sure_37 : decode cX5_sure 37 = .ok (.invokevirtual 252, 3) := by decide +kernel
theorem dX5_sure_40 : decode cX5_sure 40 = .ok (.invokevirtual 258, 3) := by decide +kernel
theorem dX5_sure_43 : decode cX5_sure 43 = .ok (.ireturn, 1) := by decide +kernel
theorem dX5_was_0 : decode cX5_was 0 = .ok (.iload_n 1, 1) := by decide +kernel
theorem dX5_was_1 : decode cX5_was 1 = .ok (.aload_n 0, 1) := by decide +kernel
theorem dX5_was_2 : decode cX5_was 2 = .ok (.getfield 21, 3) := by decide +kernel
theorem dX5_was_5 : decode cX5_was 5 = .ok (.getfield 168, 3) := by decide +kernel
theorem dX5_was_8 : decode cX5_was 8 = .ok (.invokestatic 74, 3) := by decide +kernel
theorem dX5_was_11 : decode cX5_was 11 = .ok (.ifCond .eq 12, 3) := by decide +kernel
theorem dX5_was_14 : decode cX5_was 14 = .ok (.iload_n 2, 1) := by decide +kernel
theorem dX5_was_15 : decode cX5_was 15 = .ok (.bipush 40, 2) := by decide +kernel
theorem dX5_was_17 : decode cX5_was 17 = .ok (.invokestatic 196, 3) := by decide +kernel
theorem dX5_was_20 : decode cX5_was 20 = .ok (.ifCond .ne 5, 3) := by decide +kernel
theorem dX5_was_23 : decode cX5_was 23 = .ok (.iconst (-1), 1) := by decide +kernel
theorem dX5_was_24 : decode cX5_was 24 = .ok (.ireturn, 1) := by decide +kernel
theorem dX5_was_25 : decode cX5_was 25 = .ok (.iconst 1, 1) := by decide +kernel
theorem dX5_was_26 : decode cX5_was 26 = .ok (.aload_n 0, 1) := by decide +kernel
theorem dX5_was_27 : decode cX5_was 27 = .ok (.getfield 21, 3) := by decide +kernel
theorem dX5_was_30 : decode cX5_was 30 = .ok (.getfield 171, 3) := by decide +kernel
theorem dX5_was_33 : decode cX5_was 33 = .ok (.iload_n 1, 1) := by decide +kernel
theorem dX5_was_34 : decode cX5_was 34 = .ok (.iaload, 1) := by decide +kernel
theorem dX5_was_35 : decode cX5_was 35 = .ok (.ishl, 1) := by decide +kernel
theorem dX5_was_36 : decode cX5_was 36 = .ok (.istore_n 3, 1) := by decide +kernel
theorem dX5_was_37 : decode cX5_was 37 = .ok (.iconst 0, 1) := by decide +kernel
theorem dX5_was_38 : decode cX5_was 38 = .ok (.istore 4, 2) := by decide +kernel
theorem dX5_was_40 : decode cX5_was 40 = .ok (.iload 4, 2) := by decide +kernel
theorem dX5_was_42 : decode cX5_was 42 = .ok (.iload_n 2, 1) := by decide +kernel
theorem dX5_was_43 : decode cX5_was 43 = .ok (.if_icmp .ge 18, 3) := by decide +kernel
theorem dX5_was_46 : decode cX5_was 46 = .ok (.aload_n 0, 1) := by decide +kernel
theorem dX5_was_47 : decode cX5_was 47 = .ok (.getfield 21, 3) := by decide +kernel
theorem dX5_was_50 : decode cX5_was 50 = .ok (.iload_n 3, 1) := by decide +kernel
theorem dX5_was_51 : decode cX5_was 51 = .ok (.invokevirtual 261, 3) := by decide +kernel
theorem dX5_was_54 : decode cX5_was 54 = .ok (.istore_n 3, 1) := by decide +kernel
theorem dX5_was_55 : decode cX5_was 55 = .ok (.iinc 4 1, 3) := by decide +kernel
theorem dX5_was_58 : decode cX5_was 58 = .ok (.goto (-18), 3) := by decide +kernel
theorem dX5_was_61 : decode cX5_was 61 = .ok (.iload_n 3, 1) := by decide +kernel
theorem dX5_was_62 : decode cX5_was 62 = .ok (.ireturn, 1) := by decide +kernel
theorem dX5_bare_0 : decode cX5_bare 0 = .ok (.aload_n 0, 1) := by decide +kernel
theorem dX5_bare_1 : decode cX5_bare 1 = .ok (.getfield 21, 3) := by decide +kernel
theorem dX5_bare_4 : decode cX5_bare 4 = .ok (.invokevirtual 199, 3) := by decide +kernel
theorem dX5_bare_7 : decode cX5_bare 7 = .ok (.ifCond .eq 6, 3) := by decide +kernel
theorem dX5_bare_10 : decode cX5_bare 10 = .ok (.bipush (-4), 2) := by decide +kernel
theorem dX5_bare_12 : decode cX5_bare 12 = .ok (.ireturn, 1) := by decide +kernel
theorem dX5_bare_13 : decode cX5_bare 13 = .ok (.aload_n 0, 1) := by decide +kernel
theorem dX5_bare_14 : decode cX5_bare 14 = .ok (.getfield 29, 3) := by decide +kernel
theorem dX5_bare_17 : decode cX5_bare 17 = .ok (.aload_n 0, 1) := by decide +kernel
theorem dX5_bare_18 : decode cX5_bare 18 = .ok (.getfield 21, 3) := by decide +kernel
theorem dX5_bare_21 : decode cX5_bare 21 = .ok (.invokevirtual 116, 3) := by decide +kernel
theorem dX5_bare_24 : decode cX5_bare 24 = .ok (.iconst 0, 1) := by decide +kernel
theorem dX5_bare_25 : decode cX5_bare 25 = .ok (.istore_n 1, 1) := by decide +kernel
theorem dX5_bare_26 : decode cX5_bare 26 = .ok (.iload_n 1, 1) := by decide +kernel
theorem dX5_bare_27 : decode cX5_bare 27 = .ok (.bipush 60, 2) := by decide +kernel
theorem dX5_bare_29 : decode cX5_bare 29 = .ok (.if_icmp .gt 31, 3) := by decide +kernel
theorem dX5_bare_32 : decode cX5_bare 32 = .ok (.aload_n 0, 1) := by decide +kernel
theorem dX5_bare_33 : decode cX5_bare 33 = .ok (.getfield 29, 3) := by decide +kernel
theorem dX5_bare_36 : decode cX5_bare 36 = .ok (.iconst 0, 1) := by decide +kernel
theorem dX5_bare_37 : decode cX5_bare 37 = .ok (.invokevirtual 264, 3) := by decide +kernel
theorem dX5_bare_40 : decode cX5_bare 40 = .ok (.ifCond .ne 5, 3) := by decide +kernel
theorem dX5_bare_43 : decode cX5_bare 43 = .ok (.iload_n 1, 1) := by decide +kernel
theorem dX5_bare_44 : decode cX5_bare 44 = .ok (.ireturn, 1) := by decide +kernel
theorem dX5_bare_45 : decode cX5_bare 45 = .ok (.aload_n 0, 1) := by decide +kernel
theorem dX5_bare_46 : decode cX5_bare 46 = .ok (.getfield 29, 3) := by decide +kernel
theorem dX5_bare_49 : decode cX5_bare 49 = .ok (.iconst 1, 1) := by decide +kernel
theorem dX5_bare_50 : decode cX5_bare 50 = .ok (.invokevirtual 202, 3) := by decide +kernel
theorem dX5_bare_53 : decode cX5_bare 53 = .ok (.pop, 1) := by decide +kernel
theorem dX5_bare_54 : decode cX5_bare 54 = .ok (.iinc 1 1, 3) := by decide +kernel
theorem dX5_bare_57 : decode cX5_bare 57 = .ok (.goto (-31), 3) := by decide +kernel
theorem dX5_bare_60 : decode cX5_bare 60 = .ok (.bipush (-9), 2) := by decide +kernel
theorem dX5_bare_62 : decode cX5_bare 62 = .ok (.ireturn, 1) := by decide +kernel
theorem dX5_lots_0 : decode cX5_lots 0 = .ok (.iload_n 1, 1) := by decide +kernel
theorem dX5_lots_1 : decode cX5_lots 1 = .ok (.iconst 1, 1) := by decide +kernel
theorem dX5_lots_2 : decode cX5_lots 2 = .ok (.if_icmp .lt 21, 3) := by decide +kernel
theorem dX5_lots_5 : decode cX5_lots 5 = .ok (.iload_n 1, 1) := by decide +kernel
theorem dX5_lots_6 : decode cX5_lots 6 = .ok (.bipush 20, 2) := by decide +kernel
theorem dX5_lots_8 : decode cX5_lots 8 = .ok (.if_icmp .gt 15, 3) := by decide +kernel
theorem dX5_lots_11 : decode cX5_lots 11 = .ok (.iload_n 2, 1) := by decide +kernel
theorem dX5_lots_12 : decode cX5_lots 12 = .ok (.iconst 1, 1) := by decide +kernel
theorem dX5_lots_13 : decode cX5_lots 13 = .ok (.if_icmp .lt 10, 3) := by decide +kernel
theorem dX5_lots_16 : decode cX5_lots 16 = .ok (.iload_n 2, 1) := by decide +kernel
theorem dX5_lots_17 : decode cX5_lots 17 = .ok (.ldc_w 267, 3) := by decide +kernel
theorem dX5_lots_20 : decode cX5_lots 20 = .ok (.if_icmp .lt 5, 3) := by decide +kernel
theorem dX5_lots_23 : decode cX5_lots 23 = .ok (.iconst (-1), 1) := by decide +kernel
theorem dX5_lots_24 : decode cX5_lots 24 = .ok (.ireturn, 1) := by decide +kernel
theorem dX5_lots_25 : decode cX5_lots 25 = .ok (.aload_n 0, 1) := by decide +kernel
theorem dX5_lots_26 : decode cX5_lots 26 = .ok (.getfield 21, 3) := by decide +kernel
theorem dX5_lots_29 : decode cX5_lots 29 = .ok (.invokevirtual 199, 3) := by decide +kernel
theorem dX5_lots_32 : decode cX5_lots 32 = .ok (.ifCond .eq 6, 3) := by decide +kernel
theorem dX5_lots_35 : decode cX5_lots 35 = .ok (.bipush (-4), 2) := by decide +kernel
theorem dX5_lots_37 : decode cX5_lots 37 = .ok (.ireturn, 1) := by decide +kernel
theorem dX5_lots_38 : decode cX5_lots 38 = .ok (.aload_n 0, 1) := by decide +kernel
theorem dX5_lots_39 : decode cX5_lots 39 = .ok (.getfield 21, 3) := by decide +kernel
theorem dX5_lots_42 : decode cX5_lots 42 = .ok (.getfield 184, 3) := by decide +kernel
theorem dX5_lots_45 : decode cX5_lots 45 = .ok (.iload_n 1, 1) := by decide +kernel
theorem dX5_lots_46 : decode cX5_lots 46 = .ok (.iadd, 1) := by decide +kernel
theorem dX5_lots_47 : decode cX5_lots 47 = .ok (.bipush 30, 2) := by decide +kernel
theorem dX5_lots_49 : decode cX5_lots 49 = .ok (.if_icmp .le 6, 3) := by decide +kernel
theorem dX5_lots_52 : decode cX5_lots 52 = .ok (.bipush (-2), 2) := by decide +kernel
theorem dX5_lots_54 : decode cX5_lots 54 = .ok (.ireturn, 1) := by decide +kernel
theorem dX5_lots_55 : decode cX5_lots 55 = .ok (.iload_n 2, 1) := by decide +kernel
theorem dX5_lots_56 : decode cX5_lots 56 = .ok (.i2l, 1) := by decide +kernel
theorem dX5_lots_57 : decode cX5_lots 57 = .ok (.lstore_n 3, 1) := by decide +kernel
theorem dX5_lots_58 : decode cX5_lots 58 = .ok (.iconst 0, 1) := by decide +kernel
theorem dX5_lots_59 : decode cX5_lots 59 = .ok (.istore 5, 2) := by decide +kernel
theorem dX5_lots_61 : decode cX5_lots 61 = .ok (.iload 5, 2) := by decide +kernel
theorem dX5_lots_63 : decode cX5_lots 63 = .ok (.iload_n 1, 1) := by decide +kernel
theorem dX5_lots_64 : decode cX5_lots 64 = .ok (.if_icmp .ge 99, 3) := by decide +kernel
theorem dX5_lots_67 : decode cX5_lots 67 = .ok (.aload_n 0, 1) := by decide +kernel
theorem dX5_lots_68 : decode cX5_lots 68 = .ok (.getfield 21, 3) := by decide +kernel
theorem dX5_lots_71 : decode cX5_lots 71 = .ok (.getfield 150, 3) := by decide +kernel
theorem dX5_lots_74 : decode cX5_lots 74 = .ok (.aload_n 0, 1) := by decide +kernel
theorem dX5_lots_75 : decode cX5_lots 75 = .ok (.getfield 21, 3) := by decide +kernel
theorem dX5_lots_78 : decode cX5_lots 78 = .ok (.invokevirtual 180, 3) := by decide +kernel
theorem dX5_lots_81 : decode cX5_lots 81 = .ok (.iaload, 1) := by decide +kernel
theorem dX5_lots_82 : decode cX5_lots 82 = .ok (.istore 6, 2) := by decide +kernel
theorem dX5_lots_84 : decode cX5_lots 84 = .ok (.iload 6, 2) := by decide +kernel
theorem dX5_lots_86 : decode cX5_lots 86 = .ok (.ifCond .ne 6, 3) := by decide +kernel
theorem dX5_lots_89 : decode cX5_lots 89 = .ok (.iload 5, 2) := by decide +kernel
theorem dX5_lots_91 : decode cX5_lots 91 = .ok (.ireturn, 1) := by decide +kernel
theorem dX5_lots_92 : decode cX5_lots 92 = .ok (.lload_n 3, 1) := by decide +kernel
theorem dX5_lots_93 : decode cX5_lots 93 = .ok (.ldc2_w 268, 3) := by decide +kernel
theorem dX5_lots_96 : decode cX5_lots 96 = .ok (.lmul, 1) := by decide +kernel
theorem dX5_lots_97 : decode cX5_lots 97 = .ok (.ldc2_w 270, 3) := by decide +kernel
theorem dX5_lots_100 : decode cX5_lots 100 = .ok (.lrem, 1) := by decide +kernel
theorem dX5_lots_101 : decode cX5_lots 101 = .ok (.lstore_n 3, 1) := by decide +kernel
theorem dX5_lots_102 : decode cX5_lots 102 = .ok (.aload_n 0, 1) := by decide +kernel
theorem dX5_lots_103 : decode cX5_lots 103 = .ok (.getfield 21, 3) := by decide +kernel
theorem dX5_lots_106 : decode cX5_lots 106 = .ok (.iload 6, 2) := by decide +kernel
theorem dX5_lots_108 : decode cX5_lots 108 = .ok (.lload_n 3, 1) := by decide +kernel
theorem dX5_lots_109 : decode cX5_lots 109 = .ok (.iload 6, 2) := by decide +kernel
theorem dX5_lots_111 : decode cX5_lots 111 = .ok (.invokestatic 156, 3) := by decide +kernel
theorem dX5_lots_114 : decode cX5_lots 114 = .ok (.i2l, 1) := by decide +kernel
theorem dX5_lots_115 : decode cX5_lots 115 = .ok (.lrem, 1) := by decide +kernel
theorem dX5_lots_116 : decode cX5_lots 116 = .ok (.l2i, 1) := by decide +kernel
theorem dX5_lots_117 : decode cX5_lots 117 = .ok (.invokestatic 272, 3) := by decide +kernel
theorem dX5_lots_120 : decode cX5_lots 120 = .ok (.invokevirtual 187, 3) := by decide +kernel
theorem dX5_lots_123 : decode cX5_lots 123 = .ok (.lload_n 3, 1) := by decide +kernel
theorem dX5_lots_124 : decode cX5_lots 124 = .ok (.ldc2_w 275, 3) := by decide +kernel
theorem dX5_lots_127 : decode cX5_lots 127 = .ok (.ldiv, 1) := by decide +kernel
theorem dX5_lots_128 : decode cX5_lots 128 = .ok (.ldc2_w 277, 3) := by decide +kernel
theorem dX5_lots_131 : decode cX5_lots 131 = .ok (.lrem, 1) := by decide +kernel
theorem dX5_lots_132 : decode cX5_lots 132 = .ok (.lconst 1, 1) := by decide +kernel
theorem dX5_lots_133 : decode cX5_lots 133 = .ok (.lcmp, 1) := by decide +kernel
theorem dX5_lots_134 : decode cX5_lots 134 = .ok (.ifCond .ne 23, 3) := by decide +kernel
theorem dX5_lots_137 : decode cX5_lots 137 = .ok (.aload_n 0, 1) := by decide +kernel
theorem dX5_lots_138 : decode cX5_lots 138 = .ok (.getfield 21, 3) := by decide +kernel
theorem dX5_lots_141 : decode cX5_lots 141 = .ok (.getfield 177, 3) := by decide +kernel
theorem dX5_lots_144 : decode cX5_lots 144 = .ok (.iconst 0, 1) := by decide +kernel
theorem dX5_lots_145 : decode cX5_lots 145 = .ok (.iaload, 1) := by decide +kernel
theorem dX5_lots_146 : decode cX5_lots 146 = .ok (.ifCond .le 11, 3) := by decide +kernel
theorem dX5_lots_149 : decode cX5_lots 149 = .ok (.aload_n 0, 1) := by decide +kernel
theorem dX5_lots_150 : decode cX5_lots 150 = .ok (.getfield 21, 3) := by decide +kernel
theorem dX5_lots_153 : decode cX5_lots 153 = .ok (.iconst 0, 1) := by decide +kernel
theorem dX5_lots_154 : decode cX5_lots 154 = .ok (.invokevirtual 190, 3) := by decide +kernel
theorem dX5_lots_157 : decode cX5_lots 157 = .ok (.iinc 5 1, 3) := by decide +kernel
theorem dX5_lots_160 : decode cX5_lots 160 = .ok (.goto (-99), 3) := by decide +kernel
theorem dX5_lots_163 : decode cX5_lots 163 = .ok (.iload_n 1, 1) := by decide +kernel
theorem dX5_lots_164 : decode cX5_lots 164 = .ok (.ireturn, 1) := by decide +kernel
theorem dX5_asked_0 : decode cX5_asked 0 = .ok (.aload_n 0, 1) := by decide +kernel
theorem dX5_asked_1 : decode cX5_asked 1 = .ok (.getfield 61, 3) := by decide +kernel
theorem dX5_asked_4 : decode cX5_asked 4 = .ok (.ireturn, 1) := by decide +kernel
theorem dX5_upper_0 : decode cX5_upper 0 = .ok (.aload_n 0, 1) := by decide +kernel
theorem dX5_upper_1 : decode cX5_upper 1 = .ok (.getfield 64, 3) := by decide +kernel
theorem dX5_upper_4 : decode cX5_upper 4 = .ok (.lreturn, 1) := by decide +kernel
theorem dX5_lower_0 : decode cX5_lower 0 = .ok (.aload_n 0, 1) := by decide +kernel
theorem dX5_lower_1 : decode cX5_lower 1 = .ok (.getfield 68, 3) := by decide +kernel
theorem dX5_lower_4 : decode cX5_lower 4 = .ok (.lreturn, 1) := by decide +kernel
theorem dX5_count_0 : decode cX5_count 0 = .ok (.iload_n 1, 1) := by decide +kernel
theorem dX5_count_1 : decode cX5_count 1 = .ok (.bipush 11, 2) := by decide +kernel
theorem dX5_count_3 : decode cX5_count 3 = .ok (.invokestatic 74, 3) := by decide +kernel
theorem dX5_count_6 : decode cX5_count 6 = .ok (.ifCond .ne 5, 3) := by decide +kernel
theorem dX5_count_9 : decode cX5_count 9 = .ok (.iconst (-1), 1) := by decide +kernel
theorem dX5_count_10 : decode cX5_count 10 = .ok (.ireturn, 1) := by decide +kernel
theorem dX5_count_11 : decode cX5_count 11 = .ok (.iload_n 1, 1) := by decide +kernel
theorem dX5_count_12 : decode cX5_count 12 = .ok (.tableswitch 120 0 9 #[56, 64, 72, 80, 88, 88, 88, 99, 107, 115], 56) := by decide +kernel
theorem dX5_count_68 : decode cX5_count 68 = .ok (.aload_n 0, 1) := by decide +kernel
theorem dX5_count_69 : decode cX5_count 69 = .ok (.getfield 21, 3) := by decide +kernel
theorem dX5_count_72 : decode cX5_count 72 = .ok (.getfield 120, 3) := by decide +kernel
theorem dX5_count_75 : decode cX5_count 75 = .ok (.ireturn, 1) := by decide +kernel
theorem dX5_count_76 : decode cX5_count 76 = .ok (.aload_n 0, 1) := by decide +kernel
theorem dX5_count_77 : decode cX5_count 77 = .ok (.getfield 21, 3) := by decide +kernel
theorem dX5_count_80 : decode cX5_count 80 = .ok (.invokevirtual 279, 3) := by decide +kernel
theorem dX5_count_83 : decode cX5_count 83 = .ok (.ireturn, 1) := by decide +kernel
theorem dX5_count_84 : decode cX5_count 84 = .ok (.aload_n 0, 1) := by decide +kernel
theorem dX5_count_85 : decode cX5_count 85 = .ok (.getfield 21, 3) := by decide +kernel
theorem dX5_count_88 : decode cX5_count 88 = .ok (.getfield 168, 3) := by decide +kernel
theorem dX5_count_91 : decode cX5_count 91 = .ok (.ireturn, 1) := by decide +kernel
theorem dX5_count_92 : decode cX5_count 92 = .ok (.aload_n 0, 1) := by decide +kernel
theorem dX5_count_93 : decode cX5_count 93 = .ok (.getfield 21, 3) := by decide +kernel
theorem dX5_count_96 : decode cX5_count 96 = .ok (.getfield 184, 3) := by decide +kernel
theorem dX5_count_99 : decode cX5_count 99 = .ok (.ireturn, 1) := by decide +kernel
theorem dX5_count_100 : decode cX5_count 100 = .ok (.aload_n 0, 1) := by decide +kernel
theorem dX5_count_101 : decode cX5_count 101 = .ok (.getfield 21, 3) := by decide +kernel
theorem dX5_count_104 : decode cX5_count 104 = .ok (.iload_n 1, 1) := by decide +kernel
theorem dX5_count_105 : decode cX5_count 105 = .ok (.iconst 4, 1) := by decide +kernel
theorem dX5_count_106 : decode cX5_count 106 = .ok (.isub, 1) := by decide +kernel
theorem dX5_count_107 : decode cX5_count 107 = .ok (.invokevirtual 264, 3) := by decide +kernel
theorem dX5_count_110 : decode cX5_count 110 = .ok (.ireturn, 1) := by decide +kernel
theorem dX5_count_111 : decode cX5_count 111 = .ok (.aload_n 0, 1) := by decide +kernel
theorem dX5_count_112 : decode cX5_count 112 = .ok (.getfield 11, 3) := by decide +kernel
theorem dX5_count_115 : decode cX5_count 115 = .ok (.invokestatic 282, 3) := by decide +kernel
theorem dX5_count_118 : decode cX5_count 118 = .ok (.ireturn, 1) := by decide +kernel
theorem dX5_count_119 : decode cX5_count 119 = .ok (.aload_n 0, 1) := by decide +kernel
theorem dX5_count_120 : decode cX5_count 120 = .ok (.getfield 15, 3) := by decide +kernel
theorem dX5_count_123 : decode cX5_count 123 = .ok (.invokestatic 282, 3) := by decide +kernel
theorem dX5_count_126 : decode cX5_count 126 = .ok (.ireturn, 1) := by decide +kernel
theorem dX5_count_127 : decode cX5_count 127 = .ok (.aload_n 0, 1) := by decide +kernel
theorem dX5_count_128 : decode cX5_count 128 = .ok (.invokevirtual 286, 3) := by decide +kernel
theorem dX5_count_131 : decode cX5_count 131 = .ok (.ireturn, 1) := by decide +kernel
theorem dX5_count_132 : decode cX5_count 132 = .ok (.aload_n 0, 1) := by decide +kernel
theorem dX5_count_133 : decode cX5_count 133 = .ok (.getfield 21, 3) := by decide +kernel
theorem dX5_count_136 : decode cX5_count 136 = .ok (.getfield 153, 3) := by decide +kernel
theorem dX5_count_139 : decode cX5_count 139 = .ok (.iconst 2, 1) := by decide +kernel
theorem dX5_count_140 : decode cX5_count 140 = .ok (.iaload, 1) := by decide +kernel
theorem dX5_count_141 : decode cX5_count 141 = .ok (.invokestatic 156, 3) := by decide +kernel
theorem dX5_count_144 : decode cX5_count 144 = .ok (.ireturn, 1) := by decide +kernel
theorem dX5_finding_0 : decode cX5_finding 0 = .ok (.aload_n 0, 1) := by decide +kernel
theorem dX5_finding_1 : decode cX5_finding 1 = .ok (.getfield 57, 3) := by decide +kernel
theorem dX5_finding_4 : decode cX5_finding 4 = .ok (.ireturn, 1) := by decide +kernel
theorem dX5_findings_0 : decode cX5_findings 0 = .ok (.iload_n 1, 1) := by decide +kernel
theorem dX5_findings_1 : decode cX5_findings 1 = .ok (.iconst 1, 1) := by decide +kernel
theorem dX5_findings_2 : decode cX5_findings 2 = .ok (.if_icmp .lt 8, 3) := by decide +kernel
theorem dX5_findings_5 : decode cX5_findings 5 = .ok (.iload_n 1, 1) := by decide +kernel
theorem dX5_findings_6 : decode cX5_findings 6 = .ok (.iconst 5, 1) := by decide +kernel
theorem dX5_findings_7 : decode cX5_findings 7 = .ok (.if_icmp .le 5, 3) := by decide +kernel
theorem dX5_findings_10 : decode cX5_findings 10 = .ok (.iconst (-1), 1) := by decide +kernel
theorem dX5_findings_11 : decode cX5_findings 11 = .ok (.ireturn, 1) := by decide +kernel
theorem dX5_findings_12 : decode cX5_findings 12 = .ok (.aload_n 0, 1) := by decide +kernel
theorem dX5_findings_13 : decode cX5_findings 13 = .ok (.getfield 53, 3) := by decide +kernel
theorem dX5_findings_16 : decode cX5_findings 16 = .ok (.iload_n 1, 1) := by decide +kernel
theorem dX5_findings_17 : decode cX5_findings 17 = .ok (.iaload, 1) := by decide +kernel
theorem dX5_findings_18 : decode cX5_findings 18 = .ok (.ireturn, 1) := by decide +kernel
theorem dX5_digest_0 : decode cX5_digest 0 = .ok (.ldc2_w 289, 3) := by decide +kernel
theorem dX5_digest_3 : decode cX5_digest 3 = .ok (.lstore_n 1, 1) := by decide +kernel
theorem dX5_digest_4 : decode cX5_digest 4 = .ok (.iconst 0, 1) := by decide +kernel
theorem dX5_digest_5 : decode cX5_digest 5 = .ok (.istore_n 3, 1) := by decide +kernel
theorem dX5_digest_6 : decode cX5_digest 6 = .ok (.iload_n 3, 1) := by decide +kernel
theorem dX5_digest_7 : decode cX5_digest 7 = .ok (.bipush 11, 2) := by decide +kernel
theorem dX5_digest_9 : decode cX5_digest 9 = .ok (.if_icmp .ge 22, 3) := by decide +kernel
theorem dX5_digest_12 : decode cX5_digest 12 = .ok (.ldc2_w 291, 3) := by decide +kernel
theorem dX5_digest_15 : decode cX5_digest 15 = .ok (.lload_n 1, 1) := by decide +kernel
theorem dX5_digest_16 : decode cX5_digest 16 = .ok (.lmul, 1) := by decide +kernel
theorem dX5_digest_17 : decode cX5_digest 17 = .ok (.aload_n 0, 1) := by decide +kernel
theorem dX5_digest_18 : decode cX5_digest 18 = .ok (.iload_n 3, 1) := by decide +kernel
theorem dX5_digest_19 : decode cX5_digest 19 = .ok (.invokevirtual 293, 3) := by decide +kernel
theorem dX5_digest_22 : decode cX5_digest 22 = .ok (.i2l, 1) := by decide +kernel
theorem dX5_digest_23 : decode cX5_digest 23 = .ok (.ladd, 1) := by decide +kernel
theorem dX5_digest_24 : decode cX5_digest 24 = .ok (.lstore_n 1, 1) := by decide +kernel
theorem dX5_digest_25 : decode cX5_digest 25 = .ok (.iinc 3 1, 3) := by decide +kernel
theorem dX5_digest_28 : decode cX5_digest 28 = .ok (.goto (-22), 3) := by decide +kernel
theorem dX5_digest_31 : decode cX5_digest 31 = .ok (.aload_n 0, 1) := by decide +kernel
theorem dX5_digest_32 : decode cX5_digest 32 = .ok (.getfield 21, 3) := by decide +kernel
theorem dX5_digest_35 : decode cX5_digest 35 = .ok (.lload_n 1, 1) := by decide +kernel
theorem dX5_digest_36 : decode cX5_digest 36 = .ok (.invokevirtual 296, 3) := by decide +kernel
theorem dX5_digest_39 : decode cX5_digest 39 = .ok (.lstore_n 1, 1) := by decide +kernel
theorem dX5_digest_40 : decode cX5_digest 40 = .ok (.iconst 0, 1) := by decide +kernel
theorem dX5_digest_41 : decode cX5_digest 41 = .ok (.istore_n 3, 1) := by decide +kernel
theorem dX5_digest_42 : decode cX5_digest 42 = .ok (.iload_n 3, 1) := by decide +kernel
theorem dX5_digest_43 : decode cX5_digest 43 = .ok (.iconst 3, 1) := by decide +kernel
theorem dX5_digest_44 : decode cX5_digest 44 = .ok (.if_icmp .ge 42, 3) := by decide +kernel
theorem dX5_digest_47 : decode cX5_digest 47 = .ok (.ldc2_w 291, 3) := by decide +kernel
theorem dX5_digest_50 : decode cX5_digest 50 = .ok (.lload_n 1, 1) := by decide +kernel
theorem dX5_digest_51 : decode cX5_digest 51 = .ok (.lmul, 1) := by decide +kernel
theorem dX5_digest_52 : decode cX5_digest 52 = .ok (.aload_n 0, 1) := by decide +kernel
theorem dX5_digest_53 : decode cX5_digest 53 = .ok (.getfield 25, 3) := by decide +kernel
theorem dX5_digest_56 : decode cX5_digest 56 = .ok (.iload_n 3, 1) := by decide +kernel
theorem dX5_digest_57 : decode cX5_digest 57 = .ok (.aaload, 1) := by decide +kernel
theorem dX5_digest_58 : decode cX5_digest 58 = .ok (.invokevirtual 199, 3) := by decide +kernel
theorem dX5_digest_61 : decode cX5_digest 61 = .ok (.ifCond .eq 7, 3) := by decide +kernel
theorem dX5_digest_64 : decode cX5_digest 64 = .ok (.iconst (-1), 1) := by decide +kernel
theorem dX5_digest_65 : decode cX5_digest 65 = .ok (.goto 12, 3) := by decide +kernel
theorem dX5_digest_68 : decode cX5_digest 68 = .ok (.aload_n 0, 1) := by decide +kernel
theorem dX5_digest_69 : decode cX5_digest 69 = .ok (.getfield 25, 3) := by decide +kernel
theorem dX5_digest_72 : decode cX5_digest 72 = .ok (.iload_n 3, 1) := by decide +kernel
theorem dX5_digest_73 : decode cX5_digest 73 = .ok (.aaload, 1) := by decide +kernel
theorem dX5_digest_74 : decode cX5_digest 74 = .ok (.getfield 184, 3) := by decide +kernel
theorem dX5_digest_77 : decode cX5_digest 77 = .ok (.i2l, 1) := by decide +kernel
theorem dX5_digest_78 : decode cX5_digest 78 = .ok (.ladd, 1) := by decide +kernel
theorem dX5_digest_79 : decode cX5_digest 79 = .ok (.lstore_n 1, 1) := by decide +kernel
theorem dX5_digest_80 : decode cX5_digest 80 = .ok (.iinc 3 1, 3) := by decide +kernel
theorem dX5_digest_83 : decode cX5_digest 83 = .ok (.goto (-41), 3) := by decide +kernel
theorem dX5_digest_86 : decode cX5_digest 86 = .ok (.iconst 0, 1) := by decide +kernel
theorem dX5_digest_87 : decode cX5_digest 87 = .ok (.istore_n 3, 1) := by decide +kernel
theorem dX5_digest_88 : decode cX5_digest 88 = .ok (.iload_n 3, 1) := by decide +kernel
theorem dX5_digest_89 : decode cX5_digest 89 = .ok (.bipush 6, 2) := by decide +kernel
theorem dX5_digest_91 : decode cX5_digest 91 = .ok (.if_icmp .ge 20, 3) := by decide +kernel
theorem dX5_digest_94 : decode cX5_digest 94 = .ok (.aload_n 0, 1) := by decide +kernel
theorem dX5_digest_95 : decode cX5_digest 95 = .ok (.getfield 11, 3) := by decide +kernel
theorem dX5_digest_98 : decode cX5_digest 98 = .ok (.iload_n 3, 1) := by decide +kernel
theorem dX5_digest_99 : decode cX5_digest 99 = .ok (.aaload, 1) := by decide +kernel
theorem dX5_digest_100 : decode cX5_digest 100 = .ok (.lload_n 1, 1) := by decide +kernel
theorem dX5_digest_101 : decode cX5_digest 101 = .ok (.invokevirtual 300, 3) := by decide +kernel
theorem dX5_digest_104 : decode cX5_digest 104 = .ok (.lstore_n 1, 1) := by decide +kernel
theorem dX5_digest_105 : decode cX5_digest 105 = .ok (.iinc 3 1, 3) := by decide +kernel
theorem dX5_digest_108 : decode cX5_digest 108 = .ok (.goto (-20), 3) := by decide +kernel
theorem dX5_digest_111 : decode cX5_digest 111 = .ok (.iconst 0, 1) := by decide +kernel
theorem dX5_digest_112 : decode cX5_digest 112 = .ok (.istore_n 3, 1) := by decide +kernel
theorem dX5_digest_113 : decode cX5_digest 113 = .ok (.iload_n 3, 1) := by decide +kernel
theorem dX5_digest_114 : decode cX5_digest 114 = .ok (.iconst 4, 1) := by decide +kernel
theorem dX5_digest_115 : decode cX5_digest 115 = .ok (.if_icmp .ge 20, 3) := by decide +kernel
theorem dX5_digest_118 : decode cX5_digest 118 = .ok (.aload_n 0, 1) := by decide +kernel
theorem dX5_digest_119 : decode cX5_digest 119 = .ok (.getfield 15, 3) := by decide +kernel
theorem dX5_digest_122 : decode cX5_digest 122 = .ok (.iload_n 3, 1) := by decide +kernel
theorem dX5_digest_123 : decode cX5_digest 123 = .ok (.aaload, 1) := by decide +kernel
theorem dX5_digest_124 : decode cX5_digest 124 = .ok (.lload_n 1, 1) := by decide +kernel
theorem dX5_digest_125 : decode cX5_digest 125 = .ok (.invokevirtual 300, 3) := by decide +kernel
theorem dX5_digest_128 : decode cX5_digest 128 = .ok (.lstore_n 1, 1) := by decide +kernel
theorem dX5_digest_129 : decode cX5_digest 129 = .ok (.iinc 3 1, 3) := by decide +kernel
theorem dX5_digest_132 : decode cX5_digest 132 = .ok (.goto (-19), 3) := by decide +kernel
theorem dX5_digest_135 : decode cX5_digest 135 = .ok (.lload_n 1, 1) := by decide +kernel
theorem dX5_digest_136 : decode cX5_digest 136 = .ok (.lreturn, 1) := by decide +kernel
theorem dX5_isBelow_0 : decode cX5_isBelow 0 = .ok (.iload_n 0, 1) := by decide +kernel
theorem dX5_isBelow_1 : decode cX5_isBelow 1 = .ok (.ifCond .lt 12, 3) := by decide +kernel
theorem dX5_isBelow_4 : decode cX5_isBelow 4 = .ok (.iload_n 0, 1) := by decide +kernel
theorem dX5_isBelow_5 : decode cX5_isBelow 5 = .ok (.iload_n 1, 1) := by decide +kernel
theorem dX5_isBelow_6 : decode cX5_isBelow 6 = .ok (.if_icmp .ge 7, 3) := by decide +kernel
theorem dX5_isBelow_9 : decode cX5_isBelow 9 = .ok (.iconst 1, 1) := by decide +kernel
theorem dX5_isBelow_10 : decode cX5_isBelow 10 = .ok (.goto 4, 3) := by decide +kernel
theorem dX5_isBelow_13 : decode cX5_isBelow 13 = .ok (.iconst 0, 1) := by decide +kernel
theorem dX5_isBelow_14 : decode cX5_isBelow 14 = .ok (.ireturn, 1) := by decide +kernel
theorem dX5_isUpTo_0 : decode cX5_isUpTo 0 = .ok (.iload_n 0, 1) := by decide +kernel
theorem dX5_isUpTo_1 : decode cX5_isUpTo 1 = .ok (.ifCond .lt 12, 3) := by decide +kernel
theorem dX5_isUpTo_4 : decode cX5_isUpTo 4 = .ok (.iload_n 0, 1) := by decide +kernel
theorem dX5_isUpTo_5 : decode cX5_isUpTo 5 = .ok (.iload_n 1, 1) := by decide +kernel
theorem dX5_isUpTo_6 : decode cX5_isUpTo 6 = .ok (.if_icmp .gt 7, 3) := by decide +kernel
theorem dX5_isUpTo_9 : decode cX5_isUpTo 9 = .ok (.iconst 1, 1) := by decide +kernel
theorem dX5_isUpTo_10 : decode cX5_isUpTo 10 = .ok (.goto 4, 3) := by decide +kernel
theorem dX5_isUpTo_13 : decode cX5_isUpTo 13 = .ok (.iconst 0, 1) := by decide +kernel
theorem dX5_isUpTo_14 : decode cX5_isUpTo 14 = .ok (.ireturn, 1) := by decide +kernel
theorem dX5_least_0 : decode cX5_least 0 = .ok (.iload_n 0, 1) := by decide +kernel
theorem dX5_least_1 : decode cX5_least 1 = .ok (.iload_n 0, 1) := by decide +kernel
theorem dX5_least_2 : decode cX5_least 2 = .ok (.ineg, 1) := by decide +kernel
theorem dX5_least_3 : decode cX5_least 3 = .ok (.iand, 1) := by decide +kernel
theorem dX5_least_4 : decode cX5_least 4 = .ok (.iconst 1, 1) := by decide +kernel
theorem dX5_least_5 : decode cX5_least 5 = .ok (.isub, 1) := by decide +kernel
theorem dX5_least_6 : decode cX5_least 6 = .ok (.invokestatic 156, 3) := by decide +kernel
theorem dX5_least_9 : decode cX5_least 9 = .ok (.ireturn, 1) := by decide +kernel
theorem dX5_member_0 : decode cX5_member 0 = .ok (.iload_n 0, 1) := by decide +kernel
theorem dX5_member_1 : decode cX5_member 1 = .ok (.istore_n 2, 1) := by decide +kernel
theorem dX5_member_2 : decode cX5_member 2 = .ok (.iconst 0, 1) := by decide +kernel
theorem dX5_member_3 : decode cX5_member 3 = .ok (.istore_n 3, 1) := by decide +kernel
theorem dX5_member_4 : decode cX5_member 4 = .ok (.iload_n 3, 1) := by decide +kernel
theorem dX5_member_5 : decode cX5_member 5 = .ok (.iload_n 1, 1) := by decide +kernel
theorem dX5_member_6 : decode cX5_member 6 = .ok (.if_icmp .ge 15, 3) := by decide +kernel
theorem dX5_member_9 : decode cX5_member 9 = .ok (.iload_n 2, 1) := by decide +kernel
theorem dX5_member_10 : decode cX5_member 10 = .ok (.iload_n 2, 1) := by decide +kernel
theorem dX5_member_11 : decode cX5_member 11 = .ok (.iconst 1, 1) := by decide +kernel
theorem dX5_member_12 : decode cX5_member 12 = .ok (.isub, 1) := by decide +kernel
theorem dX5_member_13 : decode cX5_member 13 = .ok (.iand, 1) := by decide +kernel
theorem dX5_member_14 : decode cX5_member 14 = .ok (.istore_n 2, 1) := by decide +kernel
theorem dX5_member_15 : decode cX5_member 15 = .ok (.iinc 3 1, 3) := by decide +kernel
theorem dX5_member_18 : decode cX5_member 18 = .ok (.goto (-14), 3) := by decide +kernel
theorem dX5_member_21 : decode cX5_member 21 = .ok (.iload_n 2, 1) := by decide +kernel
theorem dX5_member_22 : decode cX5_member 22 = .ok (.invokestatic 301, 3) := by decide +kernel
theorem dX5_member_25 : decode cX5_member 25 = .ok (.ireturn, 1) := by decide +kernel
theorem dX5_refuse_0 : decode cX5_refuse 0 = .ok (.aload_n 0, 1) := by decide +kernel
theorem dX5_refuse_1 : decode cX5_refuse 1 = .ok (.iload_n 1, 1) := by decide +kernel
theorem dX5_refuse_2 : decode cX5_refuse 2 = .ok (.putfield 57, 3) := by decide +kernel
theorem dX5_refuse_5 : decode cX5_refuse 5 = .ok (.aload_n 0, 1) := by decide +kernel
theorem dX5_refuse_6 : decode cX5_refuse 6 = .ok (.getfield 53, 3) := by decide +kernel
theorem dX5_refuse_9 : decode cX5_refuse 9 = .ok (.iload_n 1, 1) := by decide +kernel
theorem dX5_refuse_10 : decode cX5_refuse 10 = .ok (.dup2, 1) := by decide +kernel
theorem dX5_refuse_11 : decode cX5_refuse 11 = .ok (.iaload, 1) := by decide +kernel
theorem dX5_refuse_12 : decode cX5_refuse 12 = .ok (.iconst 1, 1) := by decide +kernel
theorem dX5_refuse_13 : decode cX5_refuse 13 = .ok (.iadd, 1) := by decide +kernel
theorem dX5_refuse_14 : decode cX5_refuse 14 = .ok (.iastore, 1) := by decide +kernel
theorem dX5_refuse_15 : decode cX5_refuse 15 = .ok (.bipush (-3), 2) := by decide +kernel
theorem dX5_refuse_17 : decode cX5_refuse 17 = .ok (.ireturn, 1) := by decide +kernel
theorem dX5_tellChances_0 : decode cX5_tellChances 0 = .ok (.aload_n 0, 1) := by decide +kernel
theorem dX5_tellChances_1 : decode cX5_tellChances 1 = .ok (.iload_n 1, 1) := by decide +kernel
theorem dX5_tellChances_2 : decode cX5_tellChances 2 = .ok (.i2l, 1) := by decide +kernel
theorem dX5_tellChances_3 : decode cX5_tellChances 3 = .ok (.putfield 64, 3) := by decide +kernel
theorem dX5_tellChances_6 : decode cX5_tellChances 6 = .ok (.aload_n 0, 1) := by decide +kernel
theorem dX5_tellChances_7 : decode cX5_tellChances 7 = .ok (.iload_n 2, 1) := by decide +kernel
theorem dX5_tellChances_8 : decode cX5_tellChances 8 = .ok (.i2l, 1) := by decide +kernel
theorem dX5_tellChances_9 : decode cX5_tellChances 9 = .ok (.putfield 68, 3) := by decide +kernel
theorem dX5_tellChances_12 : decode cX5_tellChances 12 = .ok (.iconst 0, 1) := by decide +kernel
theorem dX5_tellChances_13 : decode cX5_tellChances 13 = .ok (.istore_n 3, 1) := by decide +kernel
theorem dX5_tellChances_14 : decode cX5_tellChances 14 = .ok (.iload_n 3, 1) := by decide +kernel
theorem dX5_tellChances_15 : decode cX5_tellChances 15 = .ok (.bipush 8, 2) := by decide +kernel
theorem dX5_tellChances_17 : decode cX5_tellChances 17 = .ok (.if_icmp .ge 55, 3) := by decide +kernel
theorem dX5_tellChances_20 : decode cX5_tellChances 20 = .ok (.aload_n 0, 1) := by decide +kernel
theorem dX5_tellChances_21 : decode cX5_tellChances 21 = .ok (.getfield 68, 3) := by decide +kernel
theorem dX5_tellChances_24 : decode cX5_tellChances 24 = .ok (.lconst 1, 1) := by decide +kernel
theorem dX5_tellChances_25 : decode cX5_tellChances 25 = .ok (.lcmp, 1) := by decide +kernel
theorem dX5_tellChances_26 : decode cX5_tellChances 26 = .ok (.ifCond .le 46, 3) := by decide +kernel
theorem dX5_tellChances_29 : decode cX5_tellChances 29 = .ok (.aload_n 0, 1) := by decide +kernel
theorem dX5_tellChances_30 : decode cX5_tellChances 30 = .ok (.getfield 64, 3) := by decide +kernel
theorem dX5_tellChances_33 : decode cX5_tellChances 33 = .ok (.ldc2_w 277, 3) := by decide +kernel
theorem dX5_tellChances_36 : decode cX5_tellChances 36 = .ok (.lrem, 1) := by decide +kernel
theorem dX5_tellChances_37 : decode cX5_tellChances 37 = .ok (.lconst 0, 1) := by decide +kernel
theorem dX5_tellChances_38 : decode cX5_tellChances 38 = .ok (.lcmp, 1) := by decide +kernel
theorem dX5_tellChances_39 : decode cX5_tellChances 39 = .ok (.ifCond .ne 33, 3) := by decide +kernel
theorem dX5_tellChances_42 : decode cX5_tellChances 42 = .ok (.aload_n 0, 1) := by decide +kernel
theorem dX5_tellChances_43 : decode cX5_tellChances 43 = .ok (.dup, 1) := by decide +kernel
theorem dX5_tellChances_44 : decode cX5_tellChances 44 = .ok (.getfield 64, 3) := by decide +kernel
theorem dX5_tellChances_47 : decode cX5_tellChances 47 = .ok (.ldc2_w 277, 3) := by decide +kernel
theorem dX5_tellChances_50 : decode cX5_tellChances 50 = .ok (.ldiv, 1) := by decide +kernel
theorem dX5_tellChances_51 : decode cX5_tellChances 51 = .ok (.putfield 64, 3) := by decide +kernel
theorem dX5_tellChances_54 : decode cX5_tellChances 54 = .ok (.aload_n 0, 1) := by decide +kernel
theorem dX5_tellChances_55 : decode cX5_tellChances 55 = .ok (.dup, 1) := by decide +kernel
theorem dX5_tellChances_56 : decode cX5_tellChances 56 = .ok (.getfield 68, 3) := by decide +kernel
theorem dX5_tellChances_59 : decode cX5_tellChances 59 = .ok (.ldc2_w 277, 3) := by decide +kernel
theorem dX5_tellChances_62 : decode cX5_tellChances 62 = .ok (.ldiv, 1) := by decide +kernel
theorem dX5_tellChances_63 : decode cX5_tellChances 63 = .ok (.putfield 68, 3) := by decide +kernel
theorem dX5_tellChances_66 : decode cX5_tellChances 66 = .ok (.iinc 3 1, 3) := by decide +kernel
theorem dX5_tellChances_69 : decode cX5_tellChances 69 = .ok (.goto (-55), 3) := by decide +kernel
theorem dX5_tellChances_72 : decode cX5_tellChances 72 = .ok (.return_, 1) := by decide +kernel
theorem dX5_thereOf_0 : decode cX5_thereOf 0 = .ok (.iconst 0, 1) := by decide +kernel
theorem dX5_thereOf_1 : decode cX5_thereOf 1 = .ok (.istore_n 1, 1) := by decide +kernel
theorem dX5_thereOf_2 : decode cX5_thereOf 2 = .ok (.iconst 0, 1) := by decide +kernel
theorem dX5_thereOf_3 : decode cX5_thereOf 3 = .ok (.istore_n 2, 1) := by decide +kernel
theorem dX5_thereOf_4 : decode cX5_thereOf 4 = .ok (.iload_n 2, 1) := by decide +kernel
theorem dX5_thereOf_5 : decode cX5_thereOf 5 = .ok (.aload_n 0, 1) := by decide +kernel
theorem dX5_thereOf_6 : decode cX5_thereOf 6 = .ok (.arraylength, 1) := by decide +kernel
theorem dX5_thereOf_7 : decode cX5_thereOf 7 = .ok (.if_icmp .ge 21, 3) := by decide +kernel
theorem dX5_thereOf_10 : decode cX5_thereOf 10 = .ok (.aload_n 0, 1) := by decide +kernel
theorem dX5_thereOf_11 : decode cX5_thereOf 11 = .ok (.iload_n 2, 1) := by decide +kernel
theorem dX5_thereOf_12 : decode cX5_thereOf 12 = .ok (.aaload, 1) := by decide +kernel
theorem dX5_thereOf_13 : decode cX5_thereOf 13 = .ok (.invokevirtual 92, 3) := by decide +kernel
theorem dX5_thereOf_16 : decode cX5_thereOf 16 = .ok (.ifCond .ne 6, 3) := by decide +kernel
theorem dX5_thereOf_19 : decode cX5_thereOf 19 = .ok (.iinc 1 1, 3) := by decide +kernel
theorem dX5_thereOf_22 : decode cX5_thereOf 22 = .ok (.iinc 2 1, 3) := by decide +kernel
theorem dX5_thereOf_25 : decode cX5_thereOf 25 = .ok (.goto (-21), 3) := by decide +kernel
theorem dX5_thereOf_28 : decode cX5_thereOf 28 = .ok (.iload_n 1, 1) := by decide +kernel
theorem dX5_thereOf_29 : decode cX5_thereOf 29 = .ok (.ireturn, 1) := by decide +kernel
theorem dX5_keptNumber_0 : decode cX5_keptNumber 0 = .ok (.iconst 0, 1) := by decide +kernel
theorem dX5_keptNumber_1 : decode cX5_keptNumber 1 = .ok (.istore_n 1, 1) := by decide +kernel
theorem dX5_keptNumber_2 : decode cX5_keptNumber 2 = .ok (.iconst 0, 1) := by decide +kernel
theorem dX5_keptNumber_3 : decode cX5_keptNumber 3 = .ok (.istore_n 2, 1) := by decide +kernel
theorem dX5_keptNumber_4 : decode cX5_keptNumber 4 = .ok (.iload_n 2, 1) := by decide +kernel
theorem dX5_keptNumber_5 : decode cX5_keptNumber 5 = .ok (.iconst 3, 1) := by decide +kernel
theorem dX5_keptNumber_6 : decode cX5_keptNumber 6 = .ok (.if_icmp .ge 24, 3) := by decide +kernel
theorem dX5_keptNumber_9 : decode cX5_keptNumber 9 = .ok (.aload_n 0, 1) := by decide +kernel
theorem dX5_keptNumber_10 : decode cX5_keptNumber 10 = .ok (.getfield 25, 3) := by decide +kernel
theorem dX5_keptNumber_13 : decode cX5_keptNumber 13 = .ok (.iload_n 2, 1) := by decide +kernel
theorem dX5_keptNumber_14 : decode cX5_keptNumber 14 = .ok (.aaload, 1) := by decide +kernel
theorem dX5_keptNumber_15 : decode cX5_keptNumber 15 = .ok (.invokevirtual 199, 3) := by decide +kernel
theorem dX5_keptNumber_18 : decode cX5_keptNumber 18 = .ok (.ifCond .ne 6, 3) := by decide +kernel
theorem dX5_keptNumber_21 : decode cX5_keptNumber 21 = .ok (.iinc 1 1, 3) := by decide +kernel
theorem dX5_keptNumber_24 : decode cX5_keptNumber 24 = .ok (.iinc 2 1, 3) := by decide +kernel
theorem dX5_keptNumber_27 : decode cX5_keptNumber 27 = .ok (.goto (-23), 3) := by decide +kernel
theorem dX5_keptNumber_30 : decode cX5_keptNumber 30 = .ok (.iload_n 1, 1) := by decide +kernel
theorem dX5_keptNumber_31 : decode cX5_keptNumber 31 = .ok (.ireturn, 1) := by decide +kernel
theorem dX5_plan_0 : decode cX5_plan 0 = .ok (.iload_n 1, 1) := by decide +kernel
theorem dX5_plan_1 : decode cX5_plan 1 = .ok (.bipush 6, 2) := by decide +kernel
theorem dX5_plan_3 : decode cX5_plan 3 = .ok (.invokestatic 74, 3) := by decide +kernel
theorem dX5_plan_6 : decode cX5_plan 6 = .ok (.ifCond .eq 12, 3) := by decide +kernel
theorem dX5_plan_9 : decode cX5_plan 9 = .ok (.iload_n 2, 1) := by decide +kernel
theorem dX5_plan_10 : decode cX5_plan 10 = .ok (.bipush 40, 2) := by decide +kernel
theorem dX5_plan_12 : decode cX5_plan 12 = .ok (.invokestatic 196, 3) := by decide +kernel
theorem dX5_plan_15 : decode cX5_plan 15 = .ok (.ifCond .ne 5, 3) := by decide +kernel
theorem dX5_plan_18 : decode cX5_plan 18 = .ok (.iconst (-1), 1) := by decide +kernel
theorem dX5_plan_19 : decode cX5_plan 19 = .ok (.ireturn, 1) := by decide +kernel
theorem dX5_plan_20 : decode cX5_plan 20 = .ok (.aload_n 0, 1) := by decide +kernel
theorem dX5_plan_21 : decode cX5_plan 21 = .ok (.getfield 21, 3) := by decide +kernel
theorem dX5_plan_24 : decode cX5_plan 24 = .ok (.invokevirtual 199, 3) := by decide +kernel
theorem dX5_plan_27 : decode cX5_plan 27 = .ok (.ifCond .eq 6, 3) := by decide +kernel
theorem dX5_plan_30 : decode cX5_plan 30 = .ok (.bipush (-4), 2) := by decide +kernel
theorem dX5_plan_32 : decode cX5_plan 32 = .ok (.ireturn, 1) := by decide +kernel
theorem dX5_plan_33 : decode cX5_plan 33 = .ok (.aload_n 0, 1) := by decide +kernel
theorem dX5_plan_34 : decode cX5_plan 34 = .ok (.getfield 11, 3) := by decide +kernel
theorem dX5_plan_37 : decode cX5_plan 37 = .ok (.iload_n 1, 1) := by decide +kernel
theorem dX5_plan_38 : decode cX5_plan 38 = .ok (.aaload, 1) := by decide +kernel
theorem dX5_plan_39 : decode cX5_plan 39 = .ok (.invokevirtual 92, 3) := by decide +kernel
theorem dX5_plan_42 : decode cX5_plan 42 = .ok (.ifCond .eq 9, 3) := by decide +kernel
theorem dX5_plan_45 : decode cX5_plan 45 = .ok (.aload_n 0, 1) := by decide +kernel
theorem dX5_plan_46 : decode cX5_plan 46 = .ok (.iconst 1, 1) := by decide +kernel
theorem dX5_plan_47 : decode cX5_plan 47 = .ok (.invokevirtual 78, 3) := by decide +kernel
theorem dX5_plan_50 : decode cX5_plan 50 = .ok (.ireturn, 1) := by decide +kernel
theorem dX5_plan_51 : decode cX5_plan 51 = .ok (.aload_n 0, 1) := by decide +kernel
theorem dX5_plan_52 : decode cX5_plan 52 = .ok (.getfield 11, 3) := by decide +kernel
theorem dX5_plan_55 : decode cX5_plan 55 = .ok (.iload_n 1, 1) := by decide +kernel
theorem dX5_plan_56 : decode cX5_plan 56 = .ok (.aaload, 1) := by decide +kernel
theorem dX5_plan_57 : decode cX5_plan 57 = .ok (.getfield 96, 3) := by decide +kernel
theorem dX5_plan_60 : decode cX5_plan 60 = .ok (.bipush 8, 2) := by decide +kernel
theorem dX5_plan_62 : decode cX5_plan 62 = .ok (.if_icmp .le 9, 3) := by decide +kernel
theorem dX5_plan_65 : decode cX5_plan 65 = .ok (.aload_n 0, 1) := by decide +kernel
theorem dX5_plan_66 : decode cX5_plan 66 = .ok (.iconst 5, 1) := by decide +kernel
theorem dX5_plan_67 : decode cX5_plan 67 = .ok (.invokevirtual 78, 3) := by decide +kernel
theorem dX5_plan_70 : decode cX5_plan 70 = .ok (.ireturn, 1) := by decide +kernel
theorem dX5_plan_71 : decode cX5_plan 71 = .ok (.aload_n 0, 1) := by decide +kernel
theorem dX5_plan_72 : decode cX5_plan 72 = .ok (.getfield 21, 3) := by decide +kernel
theorem dX5_plan_75 : decode cX5_plan 75 = .ok (.invokevirtual 180, 3) := by decide +kernel
theorem dX5_plan_78 : decode cX5_plan 78 = .ok (.istore 4, 2) := by decide +kernel
theorem dX5_plan_80 : decode cX5_plan 80 = .ok (.iconst 1, 1) := by decide +kernel
theorem dX5_plan_81 : decode cX5_plan 81 = .ok (.iload 4, 2) := by decide +kernel
theorem dX5_plan_83 : decode cX5_plan 83 = .ok (.ishl, 1) := by decide +kernel
theorem dX5_plan_84 : decode cX5_plan 84 = .ok (.istore 5, 2) := by decide +kernel
theorem dX5_plan_86 : decode cX5_plan 86 = .ok (.iconst 0, 1) := by decide +kernel
theorem dX5_plan_87 : decode cX5_plan 87 = .ok (.istore 6, 2) := by decide +kernel
theorem dX5_plan_89 : decode cX5_plan 89 = .ok (.iload 6, 2) := by decide +kernel
theorem dX5_plan_91 : decode cX5_plan 91 = .ok (.aload_n 0, 1) := by decide +kernel
theorem dX5_plan_92 : decode cX5_plan 92 = .ok (.getfield 11, 3) := by decide +kernel
theorem dX5_plan_95 : decode cX5_plan 95 = .ok (.iload_n 1, 1) := by decide +kernel
theorem dX5_plan_96 : decode cX5_plan 96 = .ok (.aaload, 1) := by decide +kernel
theorem dX5_plan_97 : decode cX5_plan 97 = .ok (.getfield 96, 3) := by decide +kernel
theorem dX5_plan_100 : decode cX5_plan 100 = .ok (.if_icmp .ge 68, 3) := by decide +kernel
theorem dX5_plan_103 : decode cX5_plan 103 = .ok (.aload_n 0, 1) := by decide +kernel
theorem dX5_plan_104 : decode cX5_plan 104 = .ok (.getfield 11, 3) := by decide +kernel
theorem dX5_plan_107 : decode cX5_plan 107 = .ok (.iload_n 1, 1) := by decide +kernel
theorem dX5_plan_108 : decode cX5_plan 108 = .ok (.aaload, 1) := by decide +kernel
theorem dX5_plan_109 : decode cX5_plan 109 = .ok (.getfield 89, 3) := by decide +kernel
theorem dX5_plan_112 : decode cX5_plan 112 = .ok (.iload 6, 2) := by decide +kernel
theorem dX5_plan_114 : decode cX5_plan 114 = .ok (.iaload, 1) := by decide +kernel
theorem dX5_plan_115 : decode cX5_plan 115 = .ok (.istore 7, 2) := by decide +kernel
theorem dX5_plan_117 : decode cX5_plan 117 = .ok (.aload_n 0, 1) := by decide +kernel
theorem dX5_plan_118 : decode cX5_plan 118 = .ok (.getfield 21, 3) := by decide +kernel
theorem dX5_plan_121 : decode cX5_plan 121 = .ok (.iload 7, 2) := by decide +kernel
theorem dX5_plan_123 : decode cX5_plan 123 = .ok (.invokevirtual 123, 3) := by decide +kernel
theorem dX5_plan_126 : decode cX5_plan 126 = .ok (.ifCond .eq 17, 3) := by decide +kernel
theorem dX5_plan_129 : decode cX5_plan 129 = .ok (.aload_n 0, 1) := by decide +kernel
theorem dX5_plan_130 : decode cX5_plan 130 = .ok (.getfield 21, 3) := by decide +kernel
theorem dX5_plan_133 : decode cX5_plan 133 = .ok (.iload 4, 2) := by decide +kernel
theorem dX5_plan_135 : decode cX5_plan 135 = .ok (.iload 7, 2) := by decide +kernel
theorem dX5_plan_137 : decode cX5_plan 137 = .ok (.invokevirtual 161, 3) := by decide +kernel
theorem dX5_plan_140 : decode cX5_plan 140 = .ok (.ifCond .ne 9, 3) := by decide +kernel
theorem dX5_plan_143 : decode cX5_plan 143 = .ok (.aload_n 0, 1) := by decide +kernel
theorem dX5_plan_144 : decode cX5_plan 144 = .ok (.iconst 3, 1) := by decide +kernel
theorem dX5_plan_145 : decode cX5_plan 145 = .ok (.invokevirtual 78, 3) := by decide +kernel
theorem dX5_plan_148 : decode cX5_plan 148 = .ok (.ireturn, 1) := by decide +kernel
theorem dX5_plan_149 : decode cX5_plan 149 = .ok (.iload 7, 2) := by decide +kernel
theorem dX5_plan_151 : decode cX5_plan 151 = .ok (.istore 4, 2) := by decide +kernel
theorem dX5_plan_153 : decode cX5_plan 153 = .ok (.iload 5, 2) := by decide +kernel
theorem dX5_plan_155 : decode cX5_plan 155 = .ok (.iconst 1, 1) := by decide +kernel
theorem dX5_plan_156 : decode cX5_plan 156 = .ok (.iload 7, 2) := by decide +kernel
theorem dX5_plan_158 : decode cX5_plan 158 = .ok (.ishl, 1) := by decide +kernel
theorem dX5_plan_159 : decode cX5_plan 159 = .ok (.ior, 1) := by decide +kernel
theorem dX5_plan_160 : decode cX5_plan 160 = .ok (.istore 5, 2) := by decide +kernel
theorem dX5_plan_162 : decode cX5_plan 162 = .ok (.iinc 6 1, 3) := by decide +kernel
theorem dX5_plan_165 : decode cX5_plan 165 = .ok (.goto (-76), 3) := by decide +kernel
theorem dX5_plan_168 : decode cX5_plan 168 = .ok (.aload_n 0, 1) := by decide +kernel
theorem dX5_plan_169 : decode cX5_plan 169 = .ok (.getfield 29, 3) := by decide +kernel
theorem dX5_plan_172 : decode cX5_plan 172 = .ok (.aload_n 0, 1) := by decide +kernel
theorem dX5_plan_173 : decode cX5_plan 173 = .ok (.getfield 21, 3) := by decide +kernel
theorem dX5_plan_176 : decode cX5_plan 176 = .ok (.invokevirtual 116, 3) := by decide +kernel
theorem dX5_plan_179 : decode cX5_plan 179 = .ok (.aload_n 0, 1) := by decide +kernel
theorem dX5_plan_180 : decode cX5_plan 180 = .ok (.getfield 29, 3) := by decide +kernel
theorem dX5_plan_183 : decode cX5_plan 183 = .ok (.iload_n 2, 1) := by decide +kernel
theorem dX5_plan_184 : decode cX5_plan 184 = .ok (.invokevirtual 202, 3) := by decide +kernel
theorem dX5_plan_187 : decode cX5_plan 187 = .ok (.pop, 1) := by decide +kernel
theorem dX5_plan_188 : decode cX5_plan 188 = .ok (.aload_n 0, 1) := by decide +kernel
theorem dX5_plan_189 : decode cX5_plan 189 = .ok (.getfield 42, 3) := by decide +kernel
theorem dX5_plan_192 : decode cX5_plan 192 = .ok (.aload_n 0, 1) := by decide +kernel
theorem dX5_plan_193 : decode cX5_plan 193 = .ok (.getfield 29, 3) := by decide +kernel
theorem dX5_plan_196 : decode cX5_plan 196 = .ok (.invokevirtual 240, 3) := by decide +kernel
theorem dX5_plan_199 : decode cX5_plan 199 = .ok (.aload_n 0, 1) := by decide +kernel
theorem dX5_plan_200 : decode cX5_plan 200 = .ok (.getfield 42, 3) := by decide +kernel
theorem dX5_plan_203 : decode cX5_plan 203 = .ok (.iload 4, 2) := by decide +kernel
theorem dX5_plan_205 : decode cX5_plan 205 = .ok (.iload 5, 2) := by decide +kernel
theorem dX5_plan_207 : decode cX5_plan 207 = .ok (.iload_n 3, 1) := by decide +kernel
theorem dX5_plan_208 : decode cX5_plan 208 = .ok (.invokevirtual 304, 3) := by decide +kernel
theorem dX5_plan_211 : decode cX5_plan 211 = .ok (.istore 6, 2) := by decide +kernel
theorem dX5_plan_213 : decode cX5_plan 213 = .ok (.iload 6, 2) := by decide +kernel
theorem dX5_plan_215 : decode cX5_plan 215 = .ok (.bipush (-9), 2) := by decide +kernel
theorem dX5_plan_217 : decode cX5_plan 217 = .ok (.if_icmp .ne 6, 3) := by decide +kernel
theorem dX5_plan_220 : decode cX5_plan 220 = .ok (.bipush (-9), 2) := by decide +kernel
theorem dX5_plan_222 : decode cX5_plan 222 = .ok (.ireturn, 1) := by decide +kernel
theorem dX5_plan_223 : decode cX5_plan 223 = .ok (.aload_n 0, 1) := by decide +kernel
theorem dX5_plan_224 : decode cX5_plan 224 = .ok (.iload 6, 2) := by decide +kernel
theorem dX5_plan_226 : decode cX5_plan 226 = .ok (.putfield 61, 3) := by decide +kernel
theorem dX5_plan_229 : decode cX5_plan 229 = .ok (.iload 6, 2) := by decide +kernel
theorem dX5_plan_231 : decode cX5_plan 231 = .ok (.invokestatic 156, 3) := by decide +kernel
theorem dX5_plan_234 : decode cX5_plan 234 = .ok (.ireturn, 1) := by decide +kernel
theorem dX6_init_0 : decode cX6_init 0 = .ok (.aload_n 0, 1) := by decide +kernel
theorem dX6_init_1 : decode cX6_init 1 = .ok (.invokespecial 1, 3) := by decide +kernel
theorem dX6_init_4 : decode cX6_init 4 = .ok (.aload_n 0, 1) := by decide +kernel
theorem dX6_init_5 : decode cX6_init 5 = .ok (.bipush 6, 2) := by decide +kernel
theorem dX6_init_7 : decode cX6_init 7 = .ok (.newarray .int, 2) := by decide +kernel
theorem dX6_init_9 : decode cX6_init 9 = .ok (.putfield 7, 3) := by decide +kernel
theorem dX6_init_12 : decode cX6_init 12 = .ok (.aload_n 0, 1) := by decide +kernel
theorem dX6_init_13 : decode cX6_init 13 = .ok (.lconst 1, 1) := by decide +kernel
theorem dX6_init_14 : decode cX6_init 14 = .ok (.putfield 13, 3) := by decide +kernel
theorem dX6_init_17 : decode cX6_init 17 = .ok (.aload_n 0, 1) := by decide +kernel
theorem dX6_init_18 : decode cX6_init 18 = .ok (.bipush 6, 2) := by decide +kernel
theorem dX6_init_20 : decode cX6_init 20 = .ok (.newarray .int, 2) := by decide +kernel
theorem dX6_init_22 : decode cX6_init 22 = .ok (.putfield 17, 3) := by decide +kernel
theorem dX6_init_25 : decode cX6_init 25 = .ok (.aload_n 0, 1) := by decide +kernel
theorem dX6_init_26 : decode cX6_init 26 = .ok (.sipush 240, 3) := by decide +kernel
theorem dX6_init_29 : decode cX6_init 29 = .ok (.newarray .int, 2) := by decide +kernel
theorem dX6_init_31 : decode cX6_init 31 = .ok (.putfield 20, 3) := by decide +kernel
theorem dX6_init_34 : decode cX6_init 34 = .ok (.aload_n 0, 1) := by decide +kernel
theorem dX6_init_35 : decode cX6_init 35 = .ok (.bipush 40, 2) := by decide +kernel
theorem dX6_init_37 : decode cX6_init 37 = .ok (.newarray .int, 2) := by decide +kernel
theorem dX6_init_39 : decode cX6_init 39 = .ok (.putfield 23, 3) := by decide +kernel
theorem dX6_init_42 : decode cX6_init 42 = .ok (.aload_n 0, 1) := by decide +kernel
theorem dX6_init_43 : decode cX6_init 43 = .ok (.iconst 4, 1) := by decide +kernel
theorem dX6_init_44 : decode cX6_init 44 = .ok (.newarray .int, 2) := by decide +kernel
theorem dX6_init_46 : decode cX6_init 46 = .ok (.putfield 26, 3) := by decide +kernel
theorem dX6_init_49 : decode cX6_init 49 = .ok (.aload_n 0, 1) := by decide +kernel
theorem dX6_init_50 : decode cX6_init 50 = .ok (.sipush 320, 3) := by decide +kernel
theorem dX6_init_53 : decode cX6_init 53 = .ok (.newarray .byte, 2) := by decide +kernel
theorem dX6_init_55 : decode cX6_init 55 = .ok (.putfield 29, 3) := by decide +kernel
theorem dX6_init_58 : decode cX6_init 58 = .ok (.aload_n 0, 1) := by decide +kernel
theorem dX6_init_59 : decode cX6_init 59 = .ok (.bipush 8, 2) := by decide +kernel
theorem dX6_init_61 : decode cX6_init 61 = .ok (.newarray .int, 2) := by decide +kernel
theorem dX6_init_63 : decode cX6_init 63 = .ok (.putfield 33, 3) := by decide +kernel
theorem dX6_init_66 : decode cX6_init 66 = .ok (.aload_n 0, 1) := by decide +kernel
theorem dX6_init_67 : decode cX6_init 67 = .ok (.bipush 8, 2) := by decide +kernel
theorem dX6_init_69 : decode cX6_init 69 = .ok (.newarray .int, 2) := by decide +kernel
theorem dX6_init_71 : decode cX6_init 71 = .ok (.putfield 36, 3) := by decide +kernel
theorem dX6_init_74 : decode cX6_init 74 = .ok (.aload_n 0, 1) := by decide +kernel
theorem dX6_init_75 : decode cX6_init 75 = .ok (.bipush 8, 2) := by decide +kernel
theorem dX6_init_77 : decode cX6_init 77 = .ok (.newarray .int, 2) := by decide +kernel
theorem dX6_init_79 : decode cX6_init 79 = .ok (.putfield 39, 3) := by decide +kernel
theorem dX6_init_82 : decode cX6_init 82 = .ok (.aload_n 0, 1) := by decide +kernel
theorem dX6_init_83 : decode cX6_init 83 = .ok (.bipush 8, 2) := by decide +kernel
theorem dX6_init_85 : decode cX6_init 85 = .ok (.newarray .int, 2) := by decide +kernel
theorem dX6_init_87 : decode cX6_init 87 = .ok (.putfield 42, 3) := by decide +kernel
theorem dX6_init_90 : decode cX6_init 90 = .ok (.aload_n 0, 1) := by decide +kernel
theorem dX6_init_91 : decode cX6_init 91 = .ok (.iconst 4, 1) := by decide +kernel
theorem dX6_init_92 : decode cX6_init 92 = .ok (.newarray .int, 2) := by decide +kernel
theorem dX6_init_94 : decode cX6_init 94 = .ok (.putfield 45, 3) := by decide +kernel
theorem dX6_init_97 : decode cX6_init 97 = .ok (.aload_n 0, 1) := by decide +kernel
theorem dX6_init_98 : decode cX6_init 98 = .ok (.iconst 3, 1) := by decide +kernel
theorem dX6_init_99 : decode cX6_init 99 = .ok (.newarray .int, 2) := by decide +kernel
theorem dX6_init_101 : decode cX6_init 101 = .ok (.putfield 48, 3) := by decide +kernel
theorem dX6_init_104 : decode cX6_init 104 = .ok (.aload_n 0, 1) := by decide +kernel
theorem dX6_init_105 : decode cX6_init 105 = .ok (.sipush 156, 3) := by decide +kernel
theorem dX6_init_108 : decode cX6_init 108 = .ok (.newarray .int, 2) := by decide +kernel
theorem dX6_init_110 : decode cX6_init 110 = .ok (.putfield 51, 3) := by decide +kernel
theorem dX6_init_113 : decode cX6_init 113 = .ok (.aload_n 0, 1) := by decide +kernel
theorem dX6_init_114 : decode cX6_init 114 = .ok (.bipush 31, 2) := by decide +kernel
theorem dX6_init_116 : decode cX6_init 116 = .ok (.newarray .int, 2) := by decide +kernel
theorem dX6_init_118 : decode cX6_init 118 = .ok (.putfield 54, 3) := by decide +kernel
theorem dX6_init_121 : decode cX6_init 121 = .ok (.aload_n 0, 1) := by decide +kernel
theorem dX6_init_122 : decode cX6_init 122 = .ok (.iconst 3, 1) := by decide +kernel
theorem dX6_init_123 : decode cX6_init 123 = .ok (.newarray .boolean, 2) := by decide +kernel
theorem dX6_init_125 : decode cX6_init 125 = .ok (.putfield 57, 3) := by decide +kernel
theorem dX6_init_128 : decode cX6_init 128 = .ok (.aload_n 0, 1) := by decide +kernel
theorem dX6_init_129 : decode cX6_init 129 = .ok (.iconst 3, 1) := by decide +kernel
theorem dX6_init_130 : decode cX6_init 130 = .ok (.newarray .int, 2) := by decide +kernel
theorem dX6_init_132 : decode cX6_init 132 = .ok (.putfield 61, 3) := by decide +kernel
theorem dX6_init_135 : decode cX6_init 135 = .ok (.aload_n 0, 1) := by decide +kernel
theorem dX6_init_136 : decode cX6_init 136 = .ok (.bipush 117, 2) := by decide +kernel
theorem dX6_init_138 : decode cX6_init 138 = .ok (.newarray .int, 2) := by decide +kernel
theorem dX6_init_140 : decode cX6_init 140 = .ok (.putfield 64, 3) := by decide +kernel
theorem dX6_init_143 : decode cX6_init 143 = .ok (.aload_n 0, 1) := by decide +kernel
theorem dX6_init_144 : decode cX6_init 144 = .ok (.bipush 24, 2) := by decide +kernel
theorem dX6_init_146 : decode cX6_init 146 = .ok (.newarray .int, 2) := by decide +kernel
theorem dX6_init_148 : decode cX6_init 148 = .ok (.putfield 67, 3) := by decide +kernel
theorem dX6_init_151 : decode cX6_init 151 = .ok (.aload_n 0, 1) := by decide +kernel
theorem dX6_init_152 : decode cX6_init 152 = .ok (.bipush 93, 2) := by decide +kernel
theorem dX6_init_154 : decode cX6_init 154 = .ok (.newarray .int, 2) := by decide +kernel
theorem dX6_init_156 : decode cX6_init 156 = .ok (.putfield 70, 3) := by decide +kernel
theorem dX6_init_159 : decode cX6_init 159 = .ok (.aload_n 0, 1) := by decide +kernel
theorem dX6_init_160 : decode cX6_init 160 = .ok (.bipush 9, 2) := by decide +kernel
theorem dX6_init_162 : decode cX6_init 162 = .ok (.newarray .int, 2) := by decide +kernel
theorem dX6_init_164 : decode cX6_init 164 = .ok (.putfield 73, 3) := by decide +kernel
theorem dX6_init_167 : decode cX6_init 167 = .ok (.aload_n 0, 1) := by decide +kernel
theorem dX6_init_168 : decode cX6_init 168 = .ok (.bipush 8, 2) := by decide +kernel
theorem dX6_init_170 : decode cX6_init 170 = .ok (.newarray .int, 2) := by decide +kernel
theorem dX6_init_172 : decode cX6_init 172 = .ok (.putfield 76, 3) := by decide +kernel
theorem dX6_init_175 : decode cX6_init 175 = .ok (.aload_n 0, 1) := by decide +kernel
theorem dX6_init_176 : decode cX6_init 176 = .ok (.bipush 8, 2) := by decide +kernel
theorem dX6_init_178 : decode cX6_init 178 = .ok (.newarray .int, 2) := by decide +kernel
theorem dX6_init_180 : decode cX6_init 180 = .ok (.putfield 79, 3) := by decide +kernel
theorem dX6_init_183 : decode cX6_init 183 = .ok (.aload_n 0, 1) := by decide +kernel
theorem dX6_init_184 : decode cX6_init 184 = .ok (.bipush 8, 2) := by decide +kernel
theorem dX6_init_186 : decode cX6_init 186 = .ok (.newarray .int, 2) := by decide +kernel
theorem dX6_init_188 : decode cX6_init 188 = .ok (.putfield 82, 3) := by decide +kernel
theorem dX6_init_191 : decode cX6_init 191 = .ok (.aload_n 0, 1) := by decide +kernel
theorem dX6_init_192 : decode cX6_init 192 = .ok (.bipush 72, 2) := by decide +kernel
theorem dX6_init_194 : decode cX6_init 194 = .ok (.newarray .int, 2) := by decide +kernel
theorem dX6_init_196 : decode cX6_init 196 = .ok (.putfield 85, 3) := by decide +kernel
theorem dX6_init_199 : decode cX6_init 199 = .ok (.iconst 0, 1) := by decide +kernel
theorem dX6_init_200 : decode cX6_init 200 = .ok (.istore_n 1, 1) := by decide +kernel
theorem dX6_init_201 : decode cX6_init 201 = .ok (.iload_n 1, 1) := by decide +kernel
theorem dX6_init_202 : decode cX6_init 202 = .ok (.bipush 6, 2) := by decide +kernel
theorem dX6_init_204 : decode cX6_init 204 = .ok (.if_icmp .ge 16, 3) := by decide +kernel
theorem dX6_init_207 : decode cX6_init 207 = .ok (.aload_n 0, 1) := by decide +kernel
theorem dX6_init_208 : decode cX6_init 208 = .ok (.getfield 17, 3) := by decide +kernel
theorem dX6_init_211 : decode cX6_init 211 = .ok (.iload_n 1, 1) := by decide +kernel
theorem dX6_init_212 : decode cX6_init 212 = .ok (.iconst (-1), 1) := by decide +kernel
theorem dX6_init_213 : decode cX6_init 213 = .ok (.iastore, 1) := by decide +kernel
theorem dX6_init_214 : decode cX6_init 214 = .ok (.iinc 1 1, 3) := by decide +kernel
theorem dX6_init_217 : decode cX6_init 217 = .ok (.goto (-16), 3) := by decide +kernel
theorem dX6_init_220 : decode cX6_init 220 = .ok (.iconst 0, 1) := by decide +kernel
theorem dX6_init_221 : decode cX6_init 221 = .ok (.istore_n 1, 1) := by decide +kernel
theorem dX6_init_222 : decode cX6_init 222 = .ok (.iload_n 1, 1) := by decide +kernel
theorem dX6_init_223 : decode cX6_init 223 = .ok (.iconst 4, 1) := by decide +kernel
theorem dX6_init_224 : decode cX6_init 224 = .ok (.if_icmp .ge 16, 3) := by decide +kernel
theorem dX6_init_227 : decode cX6_init 227 = .ok (.aload_n 0, 1) := by decide +kernel
theorem dX6_init_228 : decode cX6_init 228 = .ok (.getfield 26, 3) := by decide +kernel
theorem dX6_init_231 : decode cX6_init 231 = .ok (.iload_n 1, 1) := by decide +kernel
theorem dX6_init_232 : decode cX6_init 232 = .ok (.iconst (-1), 1) := by decide +kernel
theorem dX6_init_233 : decode cX6_init 233 = .ok (.iastore, 1) := by decide +kernel
theorem dX6_init_234 : decode cX6_init 234 = .ok (.iinc 1 1, 3) := by decide +kernel
theorem dX6_init_237 : decode cX6_init 237 = .ok (.goto (-15), 3) := by decide +kernel
theorem dX6_init_240 : decode cX6_init 240 = .ok (.return_, 1) := by decide +kernel
theorem dX6_in_0 : decode cX6_in 0 = .ok (.iload_n 0, 1) := by decide +kernel
theorem dX6_in_1 : decode cX6_in 1 = .ok (.iload_n 1, 1) := by decide +kernel
theorem dX6_in_2 : decode cX6_in 2 = .ok (.if_icmp .lt 12, 3) := by decide +kernel
theorem dX6_in_5 : decode cX6_in 5 = .ok (.iload_n 0, 1) := by decide +kernel
theorem dX6_in_6 : decode cX6_in 6 = .ok (.iload_n 2, 1) := by decide +kernel
theorem dX6_in_7 : decode cX6_in 7 = .ok (.if_icmp .gt 7, 3) := by decide +kernel
theorem dX6_in_10 : decode cX6_in 10 = .ok (.iconst 1, 1) := by decide +kernel
theorem dX6_in_11 : decode cX6_in 11 = .ok (.goto 4, 3) := by decide +kernel
theorem dX6_in_14 : decode cX6_in 14 = .ok (.iconst 0, 1) := by decide +kernel
theorem dX6_in_15 : decode cX6_in 15 = .ok (.ireturn, 1) := by decide +kernel
theorem dX6_has_0 : decode cX6_has 0 = .ok (.iload_n 0, 1) := by decide +kernel
theorem dX6_has_1 : decode cX6_has 1 = .ok (.iload_n 1, 1) := by decide +kernel
theorem dX6_has_2 : decode cX6_has 2 = .ok (.ishr, 1) := by decide +kernel
theorem dX6_has_3 : decode cX6_has 3 = .ok (.iconst 1, 1) := by decide +kernel
theorem dX6_has_4 : decode cX6_has 4 = .ok (.iand, 1) := by decide +kernel
theorem dX6_has_5 : decode cX6_has 5 = .ok (.iconst 1, 1) := by decide +kernel
theorem dX6_has_6 : decode cX6_has 6 = .ok (.if_icmp .ne 7, 3) := by decide +kernel
theorem dX6_has_9 : decode cX6_has 9 = .ok (.iconst 1, 1) := by decide +kernel
theorem dX6_has_10 : decode cX6_has 10 = .ok (.goto 4, 3) := by decide +kernel
theorem dX6_has_13 : decode cX6_has 13 = .ok (.iconst 0, 1) := by decide +kernel
theorem dX6_has_14 : decode cX6_has 14 = .ok (.ireturn, 1) := by decide +kernel
theorem dX6_bits_0 : decode cX6_bits 0 = .ok (.iconst 0, 1) := by decide +kernel
theorem dX6_bits_1 : decode cX6_bits 1 = .ok (.istore_n 1, 1) := by decide +kernel
theorem dX6_bits_2 : decode cX6_bits 2 = .ok (.iload_n 0, 1) := by decide +kernel
theorem dX6_bits_3 : decode cX6_bits 3 = .ok (.istore_n 2, 1) := by decide +kernel
theorem dX6_bits_4 : decode cX6_bits 4 = .ok (.iload_n 2, 1) := by decide +kernel
theorem dX6_bits_5 : decode cX6_bits 5 = .ok (.ifCond .eq 15, 3) := by decide +kernel
theorem dX6_bits_8 : decode cX6_bits 8 = .ok (.iinc 1 1, 3) := by decide +kernel
theorem dX6_bits_11 : decode cX6_bits 11 = .ok (.iload_n 2, 1) := by decide +kernel
theorem dX6_bits_12 : decode cX6_bits 12 = .ok (.iload_n 2, 1) := by decide +kernel
theorem dX6_bits_13 : decode cX6_bits 13 = .ok (.iconst 1, 1) := by decide +kernel
theorem dX6_bits_14 : decode cX6_bits 14 = .ok (.isub, 1) := by decide +kernel
theorem dX6_bits_15 : decode cX6_bits 15 = .ok (.iand, 1) := by decide +kernel
theorem dX6_bits_16 : decode cX6_bits 16 = .ok (.istore_n 2, 1) := by decide +kernel
theorem dX6_bits_17 : decode cX6_bits 17 = .ok (.goto (-13), 3) := by decide +kernel
theorem dX6_bits_20 : decode cX6_bits 20 = .ok (.iload_n 1, 1) := by decide +kernel
theorem dX6_bits_21 : decode cX6_bits 21 = .ok (.ireturn, 1) := by decide +kernel
theorem dX6_meets_0 : decode cX6_meets 0 = .ok (.aload_n 0, 1) := by decide +kernel
theorem dX6_meets_1 : decode cX6_meets 1 = .ok (.iload_n 1, 1) := by decide +kernel
theorem dX6_meets_2 : decode cX6_meets 2 = .ok (.putfield 88, 3) := by decide +kernel
theorem dX6_meets_5 : decode cX6_meets 5 = .ok (.aload_n 0, 1) := by decide +kernel
theorem dX6_meets_6 : decode cX6_meets 6 = .ok (.getfield 7, 3) := by decide +kernel
theorem dX6_meets_9 : decode cX6_meets 9 = .ok (.iload_n 1, 1) := by decide +kernel
theorem dX6_meets_10 : decode cX6_meets 10 = .ok (.dup2, 1) := by decide +kernel
theorem dX6_meets_11 : decode cX6_meets 11 = .ok (.iaload, 1) := by decide +kernel
theorem dX6_meets_12 : decode cX6_meets 12 = .ok (.iconst 1, 1) := by decide +kernel
theorem dX6_meets_13 : decode cX6_meets 13 = .ok (.iadd, 1) := by decide +kernel
theorem dX6_meets_14 : decode cX6_meets 14 = .ok (.iastore, 1) := by decide +kernel
theorem dX6_meets_15 : decode cX6_meets 15 = .ok (.bipush (-3), 2) := by decide +kernel
theorem dX6_meets_17 : decode cX6_meets 17 = .ok (.ireturn, 1) := by decide +kernel
theorem dX6_finding_0 : decode cX6_finding 0 = .ok (.aload_n 0, 1) := by decide +kernel
theorem dX6_finding_1 : decode cX6_finding 1 = .ok (.getfield 88, 3) := by decide +kernel
theorem dX6_finding_4 : decode cX6_finding 4 = .ok (.ireturn, 1) := by decide +kernel
theorem dX6_findings_0 : decode cX6_findings 0 = .ok (.iload_n 1, 1) := by decide +kernel
theorem dX6_findings_1 : decode cX6_findings 1 = .ok (.iconst 1, 1) := by decide +kernel
theorem dX6_findings_2 : decode cX6_findings 2 = .ok (.iconst 5, 1) := by decide +kernel
theorem dX6_findings_3 : decode cX6_findings 3 = .ok (.invokestatic 92, 3) := by decide +kernel
theorem dX6_findings_6 : decode cX6_findings 6 = .ok (.ifCond .eq 12, 3) := by decide +kernel
theorem dX6_findings_9 : decode cX6_findings 9 = .ok (.aload_n 0, 1) := by decide +kernel
theorem dX6_findings_10 : decode cX6_findings 10 = .ok (.getfield 7, 3) := by decide +kernel
theorem dX6_findings_13 : decode cX6_findings 13 = .ok (.iload_n 1, 1) := by decide +kernel
theorem dX6_findings_14 : decode cX6_findings 14 = .ok (.iaload, 1) := by decide +kernel
theorem dX6_findings_15 : decode cX6_findings 15 = .ok (.goto 4, 3) := by decide +kernel
theorem dX6_findings_18 : decode cX6_findings 18 = .ok (.iconst (-1), 1) := by decide +kernel
theorem dX6_findings_19 : decode cX6_findings 19 = .ok (.ireturn, 1) := by decide +kernel
theorem dX6_tells_0 : decode cX6_tells 0 = .ok (.aload_n 0, 1) := by decide +kernel
theorem dX6_tells_1 : decode cX6_tells 1 = .ok (.iload_n 1, 1) := by decide +kernel
theorem dX6_tells_2 : decode cX6_tells 2 = .ok (.putfield 96, 3) := by decide +kernel
theorem dX6_tells_5 : decode cX6_tells 5 = .ok (.iload_n 2, 1) := by decide +kernel
theorem dX6_tells_6 : decode cX6_tells 6 = .ok (.ireturn, 1) := by decide +kernel
theorem dX6_asked_0 : decode cX6_asked 0 = .ok (.aload_n 0, 1) := by decide +kernel
theorem dX6_asked_1 : decode cX6_asked 1 = .ok (.getfield 96, 3) := by decide +kernel
theorem dX6_asked_4 : decode cX6_asked 4 = .ok (.ireturn, 1) := by decide +kernel
theorem dX6_part_0 : decode cX6_part 0 = .ok (.lload_n 1, 1) := by decide +kernel
theorem dX6_part_1 : decode cX6_part 1 = .ok (.lstore 5, 2) := by decide +kernel
theorem dX6_part_3 : decode cX6_part 3 = .ok (.lload_n 3, 1) := by decide +kernel
theorem dX6_part_4 : decode cX6_part 4 = .ok (.lstore 7, 2) := by decide +kernel
theorem dX6_part_6 : decode cX6_part 6 = .ok (.lload 7, 2) := by decide +kernel
theorem dX6_part_8 : decode cX6_part 8 = .ok (.lconst 0, 1) := by decide +kernel
theorem dX6_part_9 : decode cX6_part 9 = .ok (.lcmp, 1) := by decide +kernel
theorem dX6_part_10 : decode cX6_part 10 = .ok (.ifCond .eq 21, 3) := by decide +kernel
theorem dX6_part_13 : decode cX6_part 13 = .ok (.lload 5, 2) := by decide +kernel
theorem dX6_part_15 : decode cX6_part 15 = .ok (.lload 7, 2) := by decide +kernel
theorem dX6_part_17 : decode cX6_part 17 = .ok (.lrem, 1) := by decide +kernel
theorem dX6_part_18 : decode cX6_part 18 = .ok (.lstore 9, 2) := by decide +kernel
theorem dX6_part_20 : decode cX6_part 20 = .ok (.lload 7, 2) := by decide +kernel
theorem dX6_part_22 : decode cX6_part 22 = .ok (.lstore 5, 2) := by decide +kernel
theorem dX6_part_24 : decode cX6_part 24 = .ok (.lload 9, 2) := by decide +kernel
theorem dX6_part_26 : decode cX6_part 26 = .ok (.lstore 7, 2) := by decide +kernel
theorem dX6_part_28 : decode cX6_part 28 = .ok (.goto (-22), 3) := by decide +kernel
theorem dX6_part_31 : decode cX6_part 31 = .ok (.aload_n 0, 1) := by decide +kernel
theorem dX6_part_32 : decode cX6_part 32 = .ok (.lload_n 1, 1) := by decide +kernel
theorem dX6_part_33 : decode cX6_part 33 = .ok (.lload 5, 2) := by decide +kernel
theorem dX6_part_35 : decode cX6_part 35 = .ok (.ldiv, 1) := by decide +kernel
theorem dX6_part_36 : decode cX6_part 36 = .ok (.putfield 99, 3) := by decide +kernel
theorem dX6_part_39 : decode cX6_part 39 = .ok (.aload_n 0, 1) := by decide +kernel
theorem dX6_part_40 : decode cX6_part 40 = .ok (.lload_n 3, 1) := by decide +kernel
theorem dX6_part_41 : decode cX6_part 41 = .ok (.lload 5, 2) := by decide +kernel
theorem dX6_part_43 : decode cX6_part 43 = .ok (.ldiv, 1) := by decide +kernel
theorem dX6_part_44 : decode cX6_part 44 = .ok (.putfield 13, 3) := by decide +kernel
theorem dX6_part_47 : decode cX6_part 47 = .ok (.iconst 1, 1) := by decide +kernel
theorem dX6_part_48 : decode cX6_part 48 = .ok (.ireturn, 1) := by decide +kernel
theorem dX6_upper_0 : decode cX6_upper 0 = .ok (.aload_n 0, 1) := by decide +kernel
theorem dX6_upper_1 : decode cX6_upper 1 = .ok (.getfield 99, 3) := by decide +kernel
theorem dX6_upper_4 : decode cX6_upper 4 = .ok (.lreturn, 1) := by decide +kernel
theorem dX6_lower_0 : decode cX6_lower 0 = .ok (.aload_n 0, 1) := by decide +kernel
theorem dX6_lower_1 : decode cX6_lower 1 = .ok (.getfield 13, 3) := by decide +kernel
theorem dX6_lower_4 : decode cX6_lower 4 = .ok (.lreturn, 1) := by decide +kernel
theorem dX6_isRow_0 : decode cX6_isRow 0 = .ok (.iload_n 0, 1) := by decide +kernel
theorem dX6_isRow_1 : decode cX6_isRow 1 = .ok (.iconst 0, 1) := by decide +kernel
theorem dX6_isRow_2 : decode cX6_isRow 2 = .ok (.iconst 5, 1) := by decide +kernel
theorem dX6_isRow_3 : decode cX6_isRow 3 = .ok (.invokestatic 92, 3) := by decide +kernel
theorem dX6_isRow_6 : decode cX6_isRow 6 = .ok (.ireturn, 1) := by decide +kernel
theorem dX6_rowAt_0 : decode cX6_rowAt 0 = .ok (.aload_n 0, 1) := by decide +kernel
theorem dX6_rowAt_1 : decode cX6_rowAt 1 = .ok (.getfield 20, 3) := by decide +kernel
theorem dX6_rowAt_4 : decode cX6_rowAt 4 = .ok (.bipush 40, 2) := by decide +kernel
theorem dX6_rowAt_6 : decode cX6_rowAt 6 = .ok (.iload_n 1, 1) := by decide +kernel
theorem dX6_rowAt_7 : decode cX6_rowAt 7 = .ok (.imul, 1) := by decide +kernel
theorem dX6_rowAt_8 : decode cX6_rowAt 8 = .ok (.iload_n 2, 1) := by decide +kernel
theorem dX6_rowAt_9 : decode cX6_rowAt 9 = .ok (.iadd, 1) := by decide +kernel
theorem dX6_rowAt_10 : decode cX6_rowAt 10 = .ok (.iaload, 1) := by decide +kernel
theorem dX6_rowAt_11 : decode cX6_rowAt 11 = .ok (.ireturn, 1) := by decide +kernel
theorem dX6_row_0 : decode cX6_row 0 = .ok (.iload_n 1, 1) := by decide +kernel
theorem dX6_row_1 : decode cX6_row 1 = .ok (.invokestatic 102, 3) := by decide +kernel
theorem dX6_row_4 : decode cX6_row 4 = .ok (.ifCond .eq 9, 3) := by decide +kernel
theorem dX6_row_7 : decode cX6_row 7 = .ok (.iload_n 2, 1) := by decide +kernel
theorem dX6_row_8 : decode cX6_row 8 = .ok (.bipush 40, 2) := by decide +kernel
theorem dX6_row_10 : decode cX6_row 10 = .ok (.if_icmp .le 5, 3) := by decide +kernel
theorem dX6_row_13 : decode cX6_row 13 = .ok (.iconst (-1), 1) := by decide +kernel
theorem dX6_row_14 : decode cX6_row 14 = .ok (.ireturn, 1) := by decide +kernel
theorem dX6_row_15 : decode cX6_row 15 = .ok (.iload_n 2, 1) := by decide +kernel
theorem dX6_row_16 : decode cX6_row 16 = .ok (.ifCond .ge 9, 3) := by decide +kernel
theorem dX6_row_19 : decode cX6_row 19 = .ok (.aload_n 0, 1) := by decide +kernel
theorem dX6_row_20 : decode cX6_row 20 = .ok (.iconst 5, 1) := by decide +kernel
theorem dX6_row_21 : decode cX6_row 21 = .ok (.invokevirtual 106, 3) := by decide +kernel
theorem dX6_row_24 : decode cX6_row 24 = .ok (.ireturn, 1) := by decide +kernel
theorem dX6_row_25 : decode cX6_row 25 = .ok (.aload_n 0, 1) := by decide +kernel
theorem dX6_row_26 : decode cX6_row 26 = .ok (.getfield 17, 3) := by decide +kernel
theorem dX6_row_29 : decode cX6_row 29 = .ok (.iload_n 1, 1) := by decide +kernel
theorem dX6_row_30 : decode cX6_row 30 = .ok (.iload_n 2, 1) := by decide +kernel
theorem dX6_row_31 : decode cX6_row 31 = .ok (.iastore, 1) := by decide +kernel
theorem dX6_row_32 : decode cX6_row 32 = .ok (.iconst 0, 1) := by decide +kernel
theorem dX6_row_33 : decode cX6_row 33 = .ok (.istore_n 3, 1) := by decide +kernel
theorem dX6_row_34 : decode cX6_row 34 = .ok (.iload_n 3, 1) := by decide +kernel
theorem dX6_row_35 : decode cX6_row 35 = .ok (.bipush 40, 2) := by decide +kernel
theorem dX6_row_37 : decode cX6_row 37 = .ok (.if_icmp .ge 21, 3) := by decide +kernel
theorem dX6_row_40 : decode cX6_row 40 = .ok (.aload_n 0, 1) := by decide +kernel
theorem dX6_row_41 : decode cX6_row 41 = .ok (.getfield 20, 3) := by decide +kernel
theorem dX6_row_44 : decode cX6_row 44 = .ok (.bipush 40, 2) := by decide +kernel
theorem dX6_row_46 : decode cX6_row 46 = .ok (.iload_n 1, 1) := by decide +kernel
theorem dX6_row_47 : decode cX6_row 47 = .ok (.imul, 1) := by decide +kernel
theorem dX6_row_48 : decode cX6_row 48 = .ok (.iload_n 3, 1) := by decide +kernel
theorem dX6_row_49 : decode cX6_row 49 = .ok (.iadd, 1) := by decide +kernel
theorem dX6_row_50 : decode cX6_row 50 = .ok (.iconst 0, 1) := by decide +kernel
theorem dX6_row_51 : decode cX6_row 51 = .ok (.iastore, 1) := by decide +kernel
theorem dX6_row_52 : decode cX6_row 52 = .ok (.iinc 3 1, 3) := by decide +kernel
theorem dX6_row_55 : decode cX6_row 55 = .ok (.goto (-21), 3) := by decide +kernel
theorem dX6_row_58 : decode cX6_row 58 = .ok (.iload_n 2, 1) := by decide +kernel
theorem dX6_row_59 : decode cX6_row 59 = .ok (.ireturn, 1) := by decide +kernel
theorem dX6_lay_0 : decode cX6_lay 0 = .ok (.iload_n 1, 1) := by decide +kernel
theorem dX6_lay_1 : decode cX6_lay 1 = .ok (.invokestatic 102, 3) := by decide +kernel
theorem dX6_lay_4 : decode cX6_lay 4 = .ok (.ifCond .ne 5, 3) := by decide +kernel
theorem dX6_lay_7 : decode cX6_lay 7 = .ok (.iconst (-1), 1) := by decide +kernel
theorem dX6_lay_8 : decode cX6_lay 8 = .ok (.ireturn, 1) := by decide +kernel
theorem dX6_lay_9 : decode cX6_lay 9 = .ok (.aload_n 0, 1) := by decide +kernel
theorem dX6_lay_10 : decode cX6_lay 10 = .ok (.getfield 17, 3) := by decide +kernel
theorem dX6_lay_13 : decode cX6_lay 13 = .ok (.iload_n 1, 1) := by decide +kernel
theorem dX6_lay_14 : decode cX6_lay 14 = .ok (.iaload, 1) := by decide +kernel
theorem dX6_lay_15 : decode cX6_lay 15 = .ok (.ifCond .ge 9, 3) := by decide +kernel
theorem dX6_lay_18 : decode cX6_lay 18 = .ok (.aload_n 0, 1) := by decide +kernel
theorem dX6_lay_19 : decode cX6_lay 19 = .ok (.iconst 1, 1) := by decide +kernel
theorem dX6_lay_20 : decode cX6_lay 20 = .ok (.invokevirtual 106, 3) := by decide +kernel
theorem dX6_lay_23 : decode cX6_lay 23 = .ok (.ireturn, 1) := by decide +kernel
theorem dX6_lay_24 : decode cX6_lay 24 = .ok (.iload_n 2, 1) := by decide +kernel
theorem dX6_lay_25 : decode cX6_lay 25 = .ok (.iconst 0, 1) := by decide +kernel
theorem dX6_lay_26 : decode cX6_lay 26 = .ok (.aload_n 0, 1) := by decide +kernel
theorem dX6_lay_27 : decode cX6_lay 27 = .ok (.getfield 17, 3) := by decide +kernel
theorem dX6_lay_30 : decode cX6_lay 30 = .ok (.iload_n 1, 1) := by decide +kernel
theorem dX6_lay_31 : decode cX6_lay 31 = .ok (.iaload, 1) := by decide +kernel
theorem dX6_lay_32 : decode cX6_lay 32 = .ok (.iconst 1, 1) := by decide +kernel
theorem dX6_lay_33 : decode cX6_lay 33 = .ok (.isub, 1) := by decide +kernel
theorem dX6_lay_34 : decode cX6_lay 34 = .ok (.invokestatic 92, 3) := by decide +kernel
theorem dX6_lay_37 : decode cX6_lay 37 = .ok (.ifCond .ne 9, 3) := by decide +kernel
theorem dX6_lay_40 : decode cX6_lay 40 = .ok (.aload_n 0, 1) := by decide +kernel
theorem dX6_lay_41 : decode cX6_lay 41 = .ok (.iconst 2, 1) := by decide +kernel
theorem dX6_lay_42 : decode cX6_lay 42 = .ok (.invokevirtual 106, 3) := by decide +kernel
theorem dX6_lay_45 : decode cX6_lay 45 = .ok (.ireturn, 1) := by decide +kernel
theorem dX6_lay_46 : decode cX6_lay 46 = .ok (.aload_n 0, 1) := by decide +kernel
theorem dX6_lay_47 : decode cX6_lay 47 = .ok (.iload_n 1, 1) := by decide +kernel
theorem dX6_lay_48 : decode cX6_lay 48 = .ok (.iload_n 2, 1) := by decide +kernel
theorem dX6_lay_49 : decode cX6_lay 49 = .ok (.invokevirtual 110, 3) := by decide +kernel
theorem dX6_lay_52 : decode cX6_lay 52 = .ok (.istore 4, 2) := by decide +kernel
theorem dX6_lay_54 : decode cX6_lay 54 = .ok (.aload_n 0, 1) := by decide +kernel
theorem dX6_lay_55 : decode cX6_lay 55 = .ok (.getfield 20, 3) := by decide +kernel
theorem dX6_lay_58 : decode cX6_lay 58 = .ok (.bipush 40, 2) := by decide +kernel
theorem dX6_lay_60 : decode cX6_lay 60 = .ok (.iload_n 1, 1) := by decide +kernel
theorem dX6_lay_61 : decode cX6_lay 61 = .ok (.imul, 1) := by decide +kernel
theorem dX6_lay_62 : decode cX6_lay 62 = .ok (.iload_n 2, 1) := by decide +kernel
theorem dX6_lay_63 : decode cX6_lay 63 = .ok (.iadd, 1) := by decide +kernel
theorem dX6_lay_64 : decode cX6_lay 64 = .ok (.iload_n 3, 1) := by decide +kernel
theorem dX6_lay_65 : decode cX6_lay 65 = .ok (.iastore, 1) := by decide +kernel
theorem dX6_lay_66 : decode cX6_lay 66 = .ok (.aload_n 0, 1) := by decide +kernel
theorem dX6_lay_67 : decode cX6_lay 67 = .ok (.iload 4, 2) := by decide +kernel
theorem dX6_lay_69 : decode cX6_lay 69 = .ok (.iconst 1, 1) := by decide +kernel
theorem dX6_lay_70 : decode cX6_lay 70 = .ok (.invokevirtual 114, 3) := by decide +kernel
theorem dX6_lay_73 : decode cX6_lay 73 = .ok (.ireturn, 1) := by decide +kernel
theorem dX6_at_0 : decode cX6_at 0 = .ok (.iload_n 1, 1) := by decide +kernel
theorem dX6_at_1 : decode cX6_at 1 = .ok (.invokestatic 102, 3) := by decide +kernel
theorem dX6_at_4 : decode cX6_at 4 = .ok (.ifCond .ne 5, 3) := by decide +kernel
theorem dX6_at_7 : decode cX6_at 7 = .ok (.iconst (-1), 1) := by decide +kernel
theorem dX6_at_8 : decode cX6_at 8 = .ok (.ireturn, 1) := by decide +kernel
theorem dX6_at_9 : decode cX6_at 9 = .ok (.aload_n 0, 1) := by decide +kernel
theorem dX6_at_10 : decode cX6_at 10 = .ok (.getfield 17, 3) := by decide +kernel
theorem dX6_at_13 : decode cX6_at 13 = .ok (.iload_n 1, 1) := by decide +kernel
theorem dX6_at_14 : decode cX6_at 14 = .ok (.iaload, 1) := by decide +kernel
theorem dX6_at_15 : decode cX6_at 15 = .ok (.ifCond .ge 9, 3) := by decide +kernel
theorem dX6_at_18 : decode cX6_at 18 = .ok (.aload_n 0, 1) := by decide +kernel
theorem dX6_at_19 : decode cX6_at 19 = .ok (.iconst 1, 1) := by decide +kernel
theorem dX6_at_20 : decode cX6_at 20 = .ok (.invokevirtual 106, 3) := by decide +kernel
theorem dX6_at_23 : decode cX6_at 23 = .ok (.ireturn, 1) := by decide +kernel
theorem dX6_at_24 : decode cX6_at 24 = .ok (.iload_n 2, 1) := by decide +kernel
theorem dX6_at_25 : decode cX6_at 25 = .ok (.iconst 0, 1) := by decide +kernel
theorem dX6_at_26 : decode cX6_at 26 = .ok (.aload_n 0, 1) := by decide +kernel
theorem dX6_at_27 : decode cX6_at 27 = .ok (.getfield 17, 3) := by decide +kernel
theorem dX6_at_30 : decode cX6_at 30 = .ok (.iload_n 1, 1) := by decide +kernel
theorem dX6_at_31 : decode cX6_at 31 = .ok (.iaload, 1) := by decide +kernel
theorem dX6_at_32 : decode cX6_at 32 = .ok (.iconst 1, 1) := by decide +kernel
theorem dX6_at_33 : decode cX6_at 33 = .ok (.isub, 1) := by decide +kernel
theorem dX6_at_34 : decode cX6_at 34 = .ok (.invokestatic 92, 3) := by decide +kernel
theorem dX6_at_37 : decode cX6_at 37 = .ok (.ifCond .eq 17, 3) := by decide +kernel
theorem dX6_at_40 : decode cX6_at 40 = .ok (.aload_n 0, 1) := by decide +kernel
theorem dX6_at_41 : decode cX6_at 41 = .ok (.aload_n 0, 1) := by decide +kernel
theorem dX6_at_42 : decode cX6_at 42 = .ok (.iload_n 1, 1) := by decide +kernel
theorem dX6_at_43 : decode cX6_at 43 = .ok (.iload_n 2, 1) := by decide +kernel
theorem dX6_at_44 : decode cX6_at 44 = .ok (.invokevirtual 110, 3) := by decide +kernel
theorem dX6_at_47 : decode cX6_at 47 = .ok (.iconst 1, 1) := by decide +kernel
theorem dX6_at_48 : decode cX6_at 48 = .ok (.invokevirtual 114, 3) := by decide +kernel
theorem dX6_at_51 : decode cX6_at 51 = .ok (.goto 8, 3) := by decide +kernel
theorem dX6_at_54 : decode cX6_at 54 = .ok (.aload_n 0, 1) := by decide +kernel
theorem dX6_at_55 : decode cX6_at 55 = .ok (.iconst 2, 1) := by decide +kernel
theorem dX6_at_56 : decode cX6_at 56 = .ok (.invokevirtual 106, 3) := by decide +kernel
theorem dX6_at_59 : decode cX6_at 59 = .ok (.ireturn, 1) := by decide +kernel
theorem dX6_tear_0 : decode cX6_tear 0 = .ok (.iload_n 1, 1) := by decide +kernel
theorem dX6_tear_1 : decode cX6_tear 1 = .ok (.invokestatic 102, 3) := by decide +kernel
theorem dX6_tear_4 : decode cX6_tear 4 = .ok (.ifCond .ne 5, 3) := by decide +kernel
theorem dX6_tear_7 : decode cX6_tear 7 = .ok (.iconst (-1), 1) := by decide +kernel
theorem dX6_tear_8 : decode cX6_tear 8 = .ok (.ireturn, 1) := by decide +kernel
theorem dX6_tear_9 : decode cX6_tear 9 = .ok (.aload_n 0, 1) := by decide +kernel
theorem dX6_tear_10 : decode cX6_tear 10 = .ok (.getfield 17, 3) := by decide +kernel
theorem dX6_tear_13 : decode cX6_tear 13 = .ok (.iload_n 1, 1) := by decide +kernel
theorem dX6_tear_14 : decode cX6_tear 14 = .ok (.iaload, 1) := by decide +kernel
theorem dX6_tear_15 : decode cX6_tear 15 = .ok (.ifCond .ge 9, 3) := by decide +kernel
theorem dX6_tear_18 : decode cX6_tear 18 = .ok (.aload_n 0, 1) := by decide +kernel
theorem dX6_tear_19 : decode cX6_tear 19 = .ok (.iconst 1, 1) := by decide +kernel
theorem dX6_tear_20 : decode cX6_tear 20 = .ok (.invokevirtual 106, 3) := by decide +kernel
theorem dX6_tear_23 : decode cX6_tear 23 = .ok (.ireturn, 1) := by decide +kernel
theorem dX6_tear_24 : decode cX6_tear 24 = .ok (.aload_n 0, 1) := by decide +kernel
theorem dX6_tear_25 : decode cX6_tear 25 = .ok (.getfield 17, 3) := by decide +kernel
theorem dX6_tear_28 : decode cX6_tear 28 = .ok (.iload_n 1, 1) := by decide +kernel
theorem dX6_tear_29 : decode cX6_tear 29 = .ok (.iconst (-1), 1) := by decide +kernel
theorem dX6_tear_30 : decode cX6_tear 30 = .ok (.iastore, 1) := by decide +kernel
theorem dX6_tear_31 : decode cX6_tear 31 = .ok (.iconst 1, 1) := by decide +kernel
theorem dX6_tear_32 : decode cX6_tear 32 = .ok (.ireturn, 1) := by decide +kernel
theorem dX6_copy_0 : decode cX6_copy 0 = .ok (.iload_n 1, 1) := by decide +kernel
theorem dX6_copy_1 : decode cX6_copy 1 = .ok (.invokestatic 102, 3) := by decide +kernel
theorem dX6_copy_4 : decode cX6_copy 4 = .ok (.ifCond .eq 10, 3) := by decide +kernel
theorem dX6_copy_7 : decode cX6_copy 7 = .ok (.iload_n 3, 1) := by decide +kernel
theorem dX6_copy_8 : decode cX6_copy 8 = .ok (.invokestatic 102, 3) := by decide +kernel
theorem dX6_copy_11 : decode cX6_copy 11 = .ok (.ifCond .ne 5, 3) := by decide +kernel
theorem dX6_copy_14 : decode cX6_copy 14 = .ok (.iconst (-1), 1) := by decide +kernel
theorem dX6_copy_15 : decode cX6_copy 15 = .ok (.ireturn, 1) := by decide +kernel
theorem dX6_copy_16 : decode cX6_copy 16 = .ok (.iload 5, 2) := by decide +kernel
theorem dX6_copy_18 : decode cX6_copy 18 = .ok (.ifCond .ge 9, 3) := by decide +kernel
theorem dX6_copy_21 : decode cX6_copy 21 = .ok (.aload_n 0, 1) := by decide +kernel
theorem dX6_copy_22 : decode cX6_copy 22 = .ok (.iconst 5, 1) := by decide +kernel
theorem dX6_copy_23 : decode cX6_copy 23 = .ok (.invokevirtual 106, 3) := by decide +kernel
theorem dX6_copy_26 : decode cX6_copy 26 = .ok (.ireturn, 1) := by decide +kernel
theorem dX6_copy_27 : decode cX6_copy 27 = .ok (.aload_n 0, 1) := by decide +kernel
theorem dX6_copy_28 : decode cX6_copy 28 = .ok (.getfield 17, 3) := by decide +kernel
theorem dX6_copy_31 : decode cX6_copy 31 = .ok (.iload_n 1, 1) := by decide +kernel
theorem dX6_copy_32 : decode cX6_copy 32 = .ok (.iaload, 1) := by decide +kernel
theorem dX6_copy_33 : decode cX6_copy 33 = .ok (.ifCond .lt 12, 3) := by decide +kernel
theorem dX6_copy_36 : decode cX6_copy 36 = .ok (.aload_n 0, 1) := by decide +kernel
theorem dX6_copy_37 : decode cX6_copy 37 = .ok (.getfield 17, 3) := by decide +kernel
theorem dX6_copy_40 : decode cX6_copy 40 = .ok (.iload_n 3, 1) := by decide +kernel
theorem dX6_copy_41 : decode cX6_copy 41 = .ok (.iaload, 1) := by decide +kernel
theorem dX6_copy_42 : decode cX6_copy 42 = .ok (.ifCond .ge 9, 3) := by decide +kernel
theorem dX6_copy_45 : decode cX6_copy 45 = .ok (.aload_n 0, 1) := by decide +kernel
theorem dX6_copy_46 : decode cX6_copy 46 = .ok (.iconst 1, 1) := by decide +kernel
theorem dX6_copy_47 : decode cX6_copy 47 = .ok (.invokevirtual 106, 3) := by decide +kernel
theorem dX6_copy_50 : decode cX6_copy 50 = .ok (.ireturn, 1) := by decide +kernel
theorem dX6_copy_51 : decode cX6_copy 51 = .ok (.iload_n 2, 1) := by decide +kernel
theorem dX6_copy_52 : decode cX6_copy 52 = .ok (.ifCond .lt 43, 3) := by decide +kernel
theorem dX6_copy_55 : decode cX6_copy 55 = .ok (.iload 4, 2) := by decide +kernel
theorem dX6_copy_57 : decode cX6_copy 57 = .ok (.ifCond .lt 38, 3) := by decide +kernel
theorem dX6_copy_60 : decode cX6_copy 60 = .ok (.iload_n 2, 1) := by decide +kernel
theorem dX6_copy_61 : decode cX6_copy 61 = .ok (.i2l, 1) := by decide +kernel
theorem dX6_copy_62 : decode cX6_copy 62 = .ok (.iload 5, 2) := by decide +kernel
theorem dX6_copy_64 : decode cX6_copy 64 = .ok (.i2l, 1) := by decide +kernel
theorem dX6_copy_65 : decode cX6_copy 65 = .ok (.ladd, 1) := by decide +kernel
theorem dX6_copy_66 : decode cX6_copy 66 = .ok (.aload_n 0, 1) := by decide +kernel
theorem dX6_copy_67 : decode cX6_copy 67 = .ok (.getfield 17, 3) := by decide +kernel
theorem dX6_copy_70 : decode cX6_copy 70 = .ok (.iload_n 1, 1) := by decide +kernel
theorem dX6_copy_71 : decode cX6_copy 71 = .ok (.iaload, 1) := by decide +kernel
theorem dX6_copy_72 : decode cX6_copy 72 = .ok (.i2l, 1) := by decide +kernel
theorem dX6_copy_73 : decode cX6_copy 73 = .ok (.lcmp, 1) := by decide +kernel
theorem dX6_copy_74 : decode cX6_copy 74 = .ok (.ifCond .gt 21, 3) := by decide +kernel
theorem dX6_copy_77 : decode cX6_copy 77 = .ok (.iload 4, 2) := by decide +kernel
theorem dX6_copy_79 : decode cX6_copy 79 = .ok (.i2l, 1) := by decide +kernel
theorem dX6_copy_80 : decode cX6_copy 80 = .ok (.iload 5, 2) := by decide +kernel
theorem dX6_copy_82 : decode cX6_copy 82 = .ok (.i2l, 1) := by decide +kernel
theorem dX6_copy_83 : decode cX6_copy 83 = .ok (.ladd, 1) := by decide +kernel
theorem dX6_copy_84 : decode cX6_copy 84 = .ok (.aload_n 0, 1) := by decide +kernel
theorem dX6_copy_85 : decode cX6_copy 85 = .ok (.getfield 17, 3) := by decide +kernel
theorem dX6_copy_88 : decode cX6_copy 88 = .ok (.iload_n 3, 1) := by decide +kernel
theorem dX6_copy_89 : decode cX6_copy 89 = .ok (.iaload, 1) := by decide +kernel
theorem dX6_copy_90 : decode cX6_copy 90 = .ok (.i2l, 1) := by decide +kernel
theorem dX6_copy_91 : decode cX6_copy 91 = .ok (.lcmp, 1) := by decide +kernel
theorem dX6_copy_92 : decode cX6_copy 92 = .ok (.ifCond .le 9, 3) := by decide +kernel
theorem dX6_copy_95 : decode cX6_copy 95 = .ok (.aload_n 0, 1) := by decide +kernel
theorem dX6_copy_96 : decode cX6_copy 96 = .ok (.iconst 2, 1) := by decide +kernel
theorem dX6_copy_97 : decode cX6_copy 97 = .ok (.invokevirtual 106, 3) := by decide +kernel
theorem dX6_copy_100 : decode cX6_copy 100 = .ok (.ireturn, 1) := by decide +kernel
theorem dX6_copy_101 : decode cX6_copy 101 = .ok (.iconst 0, 1) := by decide +kernel
theorem dX6_copy_102 : decode cX6_copy 102 = .ok (.istore 6, 2) := by decide +kernel
theorem dX6_copy_104 : decode cX6_copy 104 = .ok (.iload 6, 2) := by decide +kernel
theorem dX6_copy_106 : decode cX6_copy 106 = .ok (.iload 5, 2) := by decide +kernel
theorem dX6_copy_108 : decode cX6_copy 108 = .ok (.if_icmp .ge 25, 3) := by decide +kernel
theorem dX6_copy_111 : decode cX6_copy 111 = .ok (.aload_n 0, 1) := by decide +kernel
theorem dX6_copy_112 : decode cX6_copy 112 = .ok (.getfield 23, 3) := by decide +kernel
theorem dX6_copy_115 : decode cX6_copy 115 = .ok (.iload 6, 2) := by decide +kernel
theorem dX6_copy_117 : decode cX6_copy 117 = .ok (.aload_n 0, 1) := by decide +kernel
theorem dX6_copy_118 : decode cX6_copy 118 = .ok (.iload_n 1, 1) := by decide +kernel
theorem dX6_copy_119 : decode cX6_copy 119 = .ok (.iload_n 2, 1) := by decide +kernel
theorem dX6_copy_120 : decode cX6_copy 120 = .ok (.iload 6, 2) := by decide +kernel
theorem dX6_copy_122 : decode cX6_copy 122 = .ok (.iadd, 1) := by decide +kernel
theorem dX6_copy_123 : decode cX6_copy 123 = .ok (.invokevirtual 110, 3) := by decide +kernel
theorem dX6_copy_126 : decode cX6_copy 126 = .ok (.iastore, 1) := by decide +kernel
theorem dX6_copy_127 : decode cX6_copy 127 = .ok (.iinc 6 1, 3) := by decide +kernel
theorem dX6_copy_130 : decode cX6_copy 130 = .ok (.goto (-26), 3) := by decide +kernel
theorem dX6_copy_133 : decode cX6_copy 133 = .ok (.iconst 0, 1) := by decide +kernel
theorem dX6_copy_134 : decode cX6_copy 134 = .ok (.istore 6, 2) := by decide +kernel
theorem dX6_copy_136 : decode cX6_copy 136 = .ok (.iload 6, 2) := by decide +kernel
theorem dX6_copy_138 : decode cX6_copy 138 = .ok (.iload 5, 2) := by decide +kernel
theorem dX6_copy_140 : decode cX6_copy 140 = .ok (.if_icmp .ge 31, 3) := by decide +kernel
theorem dX6_copy_143 : decode cX6_copy 143 = .ok (.aload_n 0, 1) := by decide +kernel
theorem dX6_copy_144 : decode cX6_copy 144 = .ok (.getfield 20, 3) := by decide +kernel
theorem dX6_copy_147 : decode cX6_copy 147 = .ok (.bipush 40, 2) := by decide +kernel
theorem dX6_copy_149 : decode cX6_copy 149 = .ok (.iload_n 3, 1) := by decide +kernel
theorem dX6_copy_150 : decode cX6_copy 150 = .ok (.imul, 1) := by decide +kernel
theorem dX6_copy_151 : decode cX6_copy 151 = .ok (.iload 4, 2) := by decide +kernel
theorem dX6_copy_153 : decode cX6_copy 153 = .ok (.iadd, 1) := by decide +kernel
theorem dX6_copy_154 : decode cX6_copy 154 = .ok (.iload 6, 2) := by decide +kernel
theorem dX6_copy_156 : decode cX6_copy 156 = .ok (.iadd, 1) := by decide +kernel
theorem dX6_copy_157 : decode cX6_copy 157 = .ok (.aload_n 0, 1) := by decide +kernel
theorem dX6_copy_158 : decode cX6_copy 158 = .ok (.getfield 23, 3) := by decide +kernel
theorem dX6_copy_161 : decode cX6_copy 161 = .ok (.iload 6, 2) := by decide +kernel
theorem dX6_copy_163 : decode cX6_copy 163 = .ok (.iaload, 1) := by decide +kernel
theorem dX6_copy_164 : decode cX6_copy 164 = .ok (.iastore, 1) := by decide +kernel
theorem dX6_copy_165 : decode cX6_copy 165 = .ok (.iinc 6 1, 3) := by decide +kernel
theorem dX6_copy_168 : decode cX6_copy 168 = .ok (.goto (-32), 3) := by decide +kernel
theorem dX6_copy_171 : decode cX6_copy 171 = .ok (.iconst 1, 1) := by decide +kernel
theorem dX6_copy_172 : decode cX6_copy 172 = .ok (.ireturn, 1) := by decide +kernel
theorem dX6_mean_0 : decode cX6_mean 0 = .ok (.iload_n 1, 1) := by decide +kernel
theorem dX6_mean_1 : decode cX6_mean 1 = .ok (.invokestatic 102, 3) := by decide +kernel
theorem dX6_mean_4 : decode cX6_mean 4 = .ok (.ifCond .ne 5, 3) := by decide +kernel
theorem dX6_mean_7 : decode cX6_mean 7 = .ok (.iconst (-1), 1) := by decide +kernel
theorem dX6_mean_8 : decode cX6_mean 8 = .ok (.ireturn, 1) := by decide +kernel
theorem dX6_mean_9 : decode cX6_mean 9 = .ok (.aload_n 0, 1) := by decide +kernel
theorem dX6_mean_10 : decode cX6_mean 10 = .ok (.getfield 17, 3) := by decide +kernel
theorem dX6_mean_13 : decode cX6_mean 13 = .ok (.iload_n 1, 1) := by decide +kernel
theorem dX6_mean_14 : decode cX6_mean 14 = .ok (.iaload, 1) := by decide +kernel
theorem dX6_mean_15 : decode cX6_mean 15 = .ok (.ifCond .ge 9, 3) := by decide +kernel
theorem dX6_mean_18 : decode cX6_mean 18 = .ok (.aload_n 0, 1) := by decide +kernel
theorem dX6_mean_19 : decode cX6_mean 19 = .ok (.iconst 1, 1) := by decide +kernel
theorem dX6_mean_20 : decode cX6_mean 20 = .ok (.invokevirtual 106, 3) := by decide +kernel
theorem dX6_mean_23 : decode cX6_mean 23 = .ok (.ireturn, 1) := by decide +kernel
theorem dX6_mean_24 : decode cX6_mean 24 = .ok (.aload_n 0, 1) := by decide +kernel
theorem dX6_mean_25 : decode cX6_mean 25 = .ok (.getfield 17, 3) := by decide +kernel
theorem dX6_mean_28 : decode cX6_mean 28 = .ok (.iload_n 1, 1) := by decide +kernel
theorem dX6_mean_29 : decode cX6_mean 29 = .ok (.iaload, 1) := by decide +kernel
theorem dX6_mean_30 : decode cX6_mean 30 = .ok (.ifCond .ne 9, 3) := by decide +kernel
theorem dX6_mean_33 : decode cX6_mean 33 = .ok (.aload_n 0, 1) := by decide +kernel
theorem dX6_mean_34 : decode cX6_mean 34 = .ok (.iconst 4, 1) := by decide +kernel
theorem dX6_mean_35 : decode cX6_mean 35 = .ok (.invokevirtual 106, 3) := by decide +kernel
theorem dX6_mean_38 : decode cX6_mean 38 = .ok (.ireturn, 1) := by decide +kernel
theorem dX6_mean_39 : decode cX6_mean 39 = .ok (.lconst 0, 1) := by decide +kernel
theorem dX6_mean_40 : decode cX6_mean 40 = .ok (.lstore_n 2, 1) := by decide +kernel
theorem dX6_mean_41 : decode cX6_mean 41 = .ok (.iconst 0, 1) := by decide +kernel
theorem dX6_mean_42 : decode cX6_mean 42 = .ok (.istore 4, 2) := by decide +kernel
theorem dX6_mean_44 : decode cX6_mean 44 = .ok (.iload 4, 2) := by decide +kernel
theorem dX6_mean_46 : decode cX6_mean 46 = .ok (.aload_n 0, 1) := by decide +kernel
theorem dX6_mean_47 : decode cX6_mean 47 = .ok (.getfield 17, 3) := by decide +kernel
theorem dX6_mean_50 : decode cX6_mean 50 = .ok (.iload_n 1, 1) := by decide +kernel
theorem dX6_mean_51 : decode cX6_mean 51 = .ok (.iaload, 1) := by decide +kernel
theorem dX6_mean_52 : decode cX6_mean 52 = .ok (.if_icmp .ge 20, 3) := by decide +kernel
theorem dX6_mean_55 : decode cX6_mean 55 = .ok (.lload_n 2, 1) := by decide +kernel
theorem dX6_mean_56 : decode cX6_mean 56 = .ok (.aload_n 0, 1) := by decide +kernel
theorem dX6_mean_57 : decode cX6_mean 57 = .ok (.iload_n 1, 1) := by decide +kernel
theorem dX6_mean_58 : decode cX6_mean 58 = .ok (.iload 4, 2) := by decide +kernel
theorem dX6_mean_60 : decode cX6_mean 60 = .ok (.invokevirtual 110, 3) := by decide +kernel
theorem dX6_mean_63 : decode cX6_mean 63 = .ok (.i2l, 1) := by decide +kernel
theorem dX6_mean_64 : decode cX6_mean 64 = .ok (.ladd, 1) := by decide +kernel
theorem dX6_mean_65 : decode cX6_mean 65 = .ok (.lstore_n 2, 1) := by decide +kernel
theorem dX6_mean_66 : decode cX6_mean 66 = .ok (.iinc 4 1, 3) := by decide +kernel
theorem dX6_mean_69 : decode cX6_mean 69 = .ok (.goto (-25), 3) := by decide +kernel
theorem dX6_mean_72 : decode cX6_mean 72 = .ok (.aload_n 0, 1) := by decide +kernel
theorem dX6_mean_73 : decode cX6_mean 73 = .ok (.lload_n 2, 1) := by decide +kernel
theorem dX6_mean_74 : decode cX6_mean 74 = .ok (.aload_n 0, 1) := by decide +kernel
theorem dX6_mean_75 : decode cX6_mean 75 = .ok (.getfield 17, 3) := by decide +kernel
theorem dX6_mean_78 : decode cX6_mean 78 = .ok (.iload_n 1, 1) := by decide +kernel
theorem dX6_mean_79 : decode cX6_mean 79 = .ok (.iaload, 1) := by decide +kernel
theorem dX6_mean_80 : decode cX6_mean 80 = .ok (.i2l, 1) := by decide +kernel
theorem dX6_mean_81 : decode cX6_mean 81 = .ok (.ldiv, 1) := by decide +kernel
theorem dX6_mean_82 : decode cX6_mean 82 = .ok (.l2i, 1) := by decide +kernel
theorem dX6_mean_83 : decode cX6_mean 83 = .ok (.iconst 1, 1) := by decide +kernel
theorem dX6_mean_84 : decode cX6_mean 84 = .ok (.invokevirtual 114, 3) := by decide +kernel
theorem dX6_mean_87 : decode cX6_mean 87 = .ok (.ireturn, 1) := by decide +kernel
theorem dX6_isText_0 : decode cX6_isText 0 = .ok (.iload_n 0, 1) := by decide +kernel
theorem dX6_isText_1 : decode cX6_isText 1 = .ok (.iconst 0, 1) := by decide +kernel
theorem dX6_isText_2 : decode cX6_isText 2 = .ok (.iconst 3, 1) := by decide +kernel
theorem dX6_isText_3 : decode cX6_isText 3 = .ok (.invokestatic 92, 3) := by decide +kernel
theorem dX6_isText_6 : decode cX6_isText 6 = .ok (.ireturn, 1) := by decide +kernel
theorem dX6_text_0 : decode cX6_text 0 = .ok (.iload_n 1, 1) := by decide +kernel
theorem dX6_text_1 : decode cX6_text 1 = .ok (.invokestatic 117, 3) := by decide +kernel
theorem dX6_text_4 : decode cX6_text 4 = .ok (.ifCond .eq 9, 3) := by decide +kernel
theorem dX6_text_7 : decode cX6_text 7 = .ok (.iload_n 2, 1) := by decide +kernel
theorem dX6_text_8 : decode cX6_text 8 = .ok (.bipush 80, 2) := by decide +kernel
theorem dX6_text_10 : decode cX6_text 10 = .ok (.if_icmp .le 5, 3) := by decide +kernel
theorem dX6_text_13 : decode cX6_text 13 = .ok (.iconst (-1), 1) := by decide +kernel
theorem dX6_text_14 : decode cX6_text 14 = .ok (.ireturn, 1) := by decide +kernel
theorem dX6_text_15 : decode cX6_text 15 = .ok (.iload_n 2, 1) := by decide +kernel
theorem dX6_text_16 : decode cX6_text 16 = .ok (.ifCond .ge 9, 3) := by decide +kernel
theorem dX6_text_19 : decode cX6_text 19 = .ok (.aload_n 0, 1) := by decide +kernel
theorem dX6_text_20 : decode cX6_text 20 = .ok (.iconst 5, 1) := by decide +kernel
theorem dX6_text_21 : decode cX6_text 21 = .ok (.invokevirtual 106, 3) := by decide +kernel
theorem dX6_text_24 : decode cX6_text 24 = .ok (.ireturn, 1) := by decide +kernel
theorem dX6_text_25 : decode cX6_text 25 = .ok (.aload_n 0, 1) := by decide +kernel
theorem dX6_text_26 : decode cX6_text 26 = .ok (.getfield 26, 3) := by decide +kernel
theorem dX6_text_29 : decode cX6_text 29 = .ok (.iload_n 1, 1) := by decide +kernel
theorem dX6_text_30 : decode cX6_text 30 = .ok (.iload_n 2, 1) := by decide +kernel
theorem dX6_text_31 : decode cX6_text 31 = .ok (.iastore, 1) := by decide +kernel
theorem dX6_text_32 : decode cX6_text 32 = .ok (.iconst 0, 1) := by decide +kernel
theorem dX6_text_33 : decode cX6_text 33 = .ok (.istore_n 3, 1) := by decide +kernel
theorem dX6_text_34 : decode cX6_text 34 = .ok (.iload_n 3, 1) := by decide +kernel
theorem dX6_text_35 : decode cX6_text 35 = .ok (.bipush 80, 2) := by decide +kernel
theorem dX6_text_37 : decode cX6_text 37 = .ok (.if_icmp .ge 22, 3) := by decide +kernel
theorem dX6_text_40 : decode cX6_text 40 = .ok (.aload_n 0, 1) := by decide +kernel
theorem dX6_text_41 : decode cX6_text 41 = .ok (.getfield 29, 3) := by decide +kernel
theorem dX6_text_44 : decode cX6_text 44 = .ok (.bipush 80, 2) := by decide +kernel
theorem dX6_text_46 : decode cX6_text 46 = .ok (.iload_n 1, 1) := by decide +kernel
theorem dX6_text_47 : decode cX6_text 47 = .ok (.imul, 1) := by decide +kernel
theorem dX6_text_48 : decode cX6_text 48 = .ok (.iload_n 3, 1) := by decide +kernel
theorem dX6_text_49 : decode cX6_text 49 = .ok (.iadd, 1) := by decide +kernel
theorem dX6_text_50 : decode cX6_text 50 = .ok (.bipush 32, 2) := by decide +kernel
theorem dX6_text_52 : decode cX6_text 52 = .ok (.bastore, 1) := by decide +kernel
theorem dX6_text_53 : decode cX6_text 53 = .ok (.iinc 3 1, 3) := by decide +kernel
theorem dX6_text_56 : decode cX6_text 56 = .ok (.goto (-22), 3) := by decide +kernel
theorem dX6_text_59 : decode cX6_text 59 = .ok (.iload_n 2, 1) := by decide +kernel
theorem dX6_text_60 : decode cX6_text 60 = .ok (.ireturn, 1) := by decide +kernel
theorem dX6_put_0 : decode cX6_put 0 = .ok (.iload_n 1, 1) := by decide +kernel
theorem dX6_put_1 : decode cX6_put 1 = .ok (.invokestatic 117, 3) := by decide +kernel
theorem dX6_put_4 : decode cX6_put 4 = .ok (.ifCond .ne 5, 3) := by decide +kernel
theorem dX6_put_7 : decode cX6_put 7 = .ok (.iconst (-1), 1) := by decide +kernel
theorem dX6_put_8 : decode cX6_put 8 = .ok (.ireturn, 1) := by decide +kernel
theorem dX6_put_9 : decode cX6_put 9 = .ok (.aload_n 0, 1) := by decide +kernel
theorem dX6_put_10 : decode cX6_put 10 = .ok (.getfield 26, 3) := by decide +kernel
theorem dX6_put_13 : decode cX6_put 13 = .ok (.iload_n 1, 1) := by decide +kernel
theorem dX6_put_14 : decode cX6_put 14 = .ok (.iaload, 1) := by decide +kernel
theorem dX6_put_15 : decode cX6_put 15 = .ok (.ifCond .ge 9, 3) := by decide +kernel
theorem dX6_put_18 : decode cX6_put 18 = .ok (.aload_n 0, 1) := by decide +kernel
theorem dX6_put_19 : decode cX6_put 19 = .ok (.iconst 1, 1) := by decide +kernel
theorem dX6_put_20 : decode cX6_put 20 = .ok (.invokevirtual 106, 3) := by decide +kernel
theorem dX6_put_23 : decode cX6_put 23 = .ok (.ireturn, 1) := by decide +kernel
theorem dX6_put_24 : decode cX6_put 24 = .ok (.iload_n 2, 1) := by decide +kernel
theorem dX6_put_25 : decode cX6_put 25 = .ok (.iconst 0, 1) := by decide +kernel
theorem dX6_put_26 : decode cX6_put 26 = .ok (.aload_n 0, 1) := by decide +kernel
theorem dX6_put_27 : decode cX6_put 27 = .ok (.getfield 26, 3) := by decide +kernel
theorem dX6_put_30 : decode cX6_put 30 = .ok (.iload_n 1, 1) := by decide +kernel
theorem dX6_put_31 : decode cX6_put 31 = .ok (.iaload, 1) := by decide +kernel
theorem dX6_put_32 : decode cX6_put 32 = .ok (.iconst 1, 1) := by decide +kernel
theorem dX6_put_33 : decode cX6_put 33 = .ok (.isub, 1) := by decide +kernel
theorem dX6_put_34 : decode cX6_put 34 = .ok (.invokestatic 92, 3) := by decide +kernel
theorem dX6_put_37 : decode cX6_put 37 = .ok (.ifCond .ne 9, 3) := by decide +kernel
theorem dX6_put_40 : decode cX6_put 40 = .ok (.aload_n 0, 1) := by decide +kernel
theorem dX6_put_41 : decode cX6_put 41 = .ok (.iconst 2, 1) := by decide +kernel
theorem dX6_put_42 : decode cX6_put 42 = .ok (.invokevirtual 106, 3) := by decide +kernel
theorem dX6_put_45 : decode cX6_put 45 = .ok (.ireturn, 1) := by decide +kernel
theorem dX6_put_46 : decode cX6_put 46 = .ok (.aload_n 0, 1) := by decide +kernel
theorem dX6_put_47 : decode cX6_put 47 = .ok (.getfield 29, 3) := by decide +kernel
theorem dX6_put_50 : decode cX6_put 50 = .ok (.bipush 80, 2) := by decide +kernel
theorem dX6_put_52 : decode cX6_put 52 = .ok (.iload_n 1, 1) := by decide +kernel
theorem dX6_put_53 : decode cX6_put 53 = .ok (.imul, 1) := by decide +kernel
theorem dX6_put_54 : decode cX6_put 54 = .ok (.iload_n 2, 1) := by decide +kernel
theorem dX6_put_55 : decode cX6_put 55 = .ok (.iadd, 1) := by decide +kernel
theorem dX6_put_56 : decode cX6_put 56 = .ok (.baload, 1) := by decide +kernel
theorem dX6_put_57 : decode cX6_put 57 = .ok (.istore 4, 2) := by decide +kernel
theorem dX6_put_59 : decode cX6_put 59 = .ok (.aload_n 0, 1) := by decide +kernel
theorem dX6_put_60 : decode cX6_put 60 = .ok (.getfield 29, 3) := by decide +kernel
theorem dX6_put_63 : decode cX6_put 63 = .ok (.bipush 80, 2) := by decide +kernel
theorem dX6_put_65 : decode cX6_put 65 = .ok (.iload_n 1, 1) := by decide +kernel
theorem dX6_put_66 : decode cX6_put 66 = .ok (.imul, 1) := by decide +kernel
theorem dX6_put_67 : decode cX6_put 67 = .ok (.iload_n 2, 1) := by decide +kernel
theorem dX6_put_68 : decode cX6_put 68 = .ok (.iadd, 1) := by decide +kernel
theorem dX6_put_69 : decode cX6_put 69 = .ok (.iload_n 3, 1) := by decide +kernel
theorem dX6_put_70 : decode cX6_put 70 = .ok (.i2b, 1) := by decide +kernel
theorem dX6_put_71 : decode cX6_put 71 = .ok (.bastore, 1) := by decide +kernel
theorem dX6_put_72 : decode cX6_put 72 = .ok (.sipush 1000, 3) := by decide +kernel
theorem dX6_put_75 : decode cX6_put 75 = .ok (.iload 4, 2) := by decide +kernel
theorem dX6_put_77 : decode cX6_put 77 = .ok (.iadd, 1) := by decide +kernel
theorem dX6_put_78 : decode cX6_put 78 = .ok (.ireturn, 1) := by decide +kernel
theorem dX6_byteAt_0 : decode cX6_byteAt 0 = .ok (.iload_n 2, 1) := by decide +kernel
theorem dX6_byteAt_1 : decode cX6_byteAt 1 = .ok (.aload_n 0, 1) := by decide +kernel
theorem dX6_byteAt_2 : decode cX6_byteAt 2 = .ok (.getfield 26, 3) := by decide +kernel
theorem dX6_byteAt_5 : decode cX6_byteAt 5 = .ok (.iload_n 1, 1) := by decide +kernel
theorem dX6_byteAt_6 : decode cX6_byteAt 6 = .ok (.iaload, 1) := by decide +kernel
theorem dX6_byteAt_7 : decode cX6_byteAt 7 = .ok (.if_icmp .ge 17, 3) := by decide +kernel
theorem dX6_byteAt_10 : decode cX6_byteAt 10 = .ok (.aload_n 0, 1) := by decide +kernel
theorem dX6_byteAt_11 : decode cX6_byteAt 11 = .ok (.getfield 29, 3) := by decide +kernel
theorem dX6_byteAt_14 : decode cX6_byteAt 14 = .ok (.bipush 80, 2) := by decide +kernel
theorem dX6_byteAt_16 : decode cX6_byteAt 16 = .ok (.iload_n 1, 1) := by decide +kernel
theorem dX6_byteAt_17 : decode cX6_byteAt 17 = .ok (.imul, 1) := by decide +kernel
theorem dX6_byteAt_18 : decode cX6_byteAt 18 = .ok (.iload_n 2, 1) := by decide +kernel
theorem dX6_byteAt_19 : decode cX6_byteAt 19 = .ok (.iadd, 1) := by decide +kernel
theorem dX6_byteAt_20 : decode cX6_byteAt 20 = .ok (.baload, 1) := by decide +kernel
theorem dX6_byteAt_21 : decode cX6_byteAt 21 = .ok (.goto 4, 3) := by decide +kernel
theorem dX6_byteAt_24 : decode cX6_byteAt 24 = .ok (.iconst 0, 1) := by decide +kernel
theorem dX6_byteAt_25 : decode cX6_byteAt 25 = .ok (.ireturn, 1) := by decide +kernel
theorem dX6_layRow_0 : decode cX6_layRow 0 = .ok (.aload_n 0, 1) := by decide +kernel
theorem dX6_layRow_1 : decode cX6_layRow 1 = .ok (.getfield 17, 3) := by decide +kernel
theorem dX6_layRow_4 : decode cX6_layRow 4 = .ok (.iload_n 1, 1) := by decide +kernel
theorem dX6_layRow_5 : decode cX6_layRow 5 = .ok (.iload_n 3, 1) := by decide +kernel
theorem dX6_layRow_6 : decode cX6_layRow 6 = .ok (.iastore, 1) := by decide +kernel
theorem dX6_layRow_7 : decode cX6_layRow 7 = .ok (.iconst 0, 1) := by decide +kernel
theorem dX6_layRow_8 : decode cX6_layRow 8 = .ok (.istore 4, 2) := by decide +kernel
theorem dX6_layRow_10 : decode cX6_layRow 10 = .ok (.iload 4, 2) := by decide +kernel
theorem dX6_layRow_12 : decode cX6_layRow 12 = .ok (.bipush 40, 2) := by decide +kernel
theorem dX6_layRow_14 : decode cX6_layRow 14 = .ok (.if_icmp .ge 35, 3) := by decide +kernel
theorem dX6_layRow_17 : decode cX6_layRow 17 = .ok (.aload_n 0, 1) := by decide +kernel
theorem dX6_layRow_18 : decode cX6_layRow 18 = .ok (.getfield 20, 3) := by decide +kernel
theorem dX6_layRow_21 : decode cX6_layRow 21 = .ok (.bipush 40, 2) := by decide +kernel
theorem dX6_layRow_23 : decode cX6_layRow 23 = .ok (.iload_n 1, 1) := by decide +kernel
theorem dX6_layRow_24 : decode cX6_layRow 24 = .ok (.imul, 1) := by decide +kernel
theorem dX6_layRow_25 : decode cX6_layRow 25 = .ok (.iload 4, 2) := by decide +kernel
theorem dX6_layRow_27 : decode cX6_layRow 27 = .ok (.iadd, 1) := by decide +kernel
theorem dX6_layRow_28 : decode cX6_layRow 28 = .ok (.iload 4, 2) := by decide +kernel
theorem dX6_layRow_30 : decode cX6_layRow 30 = .ok (.iload_n 3, 1) := by decide +kernel
theorem dX6_layRow_31 : decode cX6_layRow 31 = .ok (.if_icmp .ge 10, 3) := by decide +kernel
theorem dX6_layRow_34 : decode cX6_layRow 34 = .ok (.aload_n 2, 1) := by decide +kernel
theorem dX6_layRow_35 : decode cX6_layRow 35 = .ok (.iload 4, 2) := by decide +kernel
theorem dX6_layRow_37 : decode cX6_layRow 37 = .ok (.iaload, 1) := by decide +kernel
theorem dX6_layRow_38 : decode cX6_layRow 38 = .ok (.goto 4, 3) := by decide +kernel
theorem dX6_layRow_41 : decode cX6_layRow 41 = .ok (.iconst 0, 1) := by decide +kernel
theorem dX6_layRow_42 : decode cX6_layRow 42 = .ok (.iastore, 1) := by decide +kernel
theorem dX6_layRow_43 : decode cX6_layRow 43 = .ok (.iinc 4 1, 3) := by decide +kernel
theorem dX6_layRow_46 : decode cX6_layRow 46 = .ok (.goto (-36), 3) := by decide +kernel
theorem dX6_layRow_49 : decode cX6_layRow 49 = .ok (.return_, 1) := by decide +kernel
theorem dX6_kindOf_0 : decode cX6_kindOf 0 = .ok (.iload_n 0, 1) := by decide +kernel
theorem dX6_kindOf_1 : decode cX6_kindOf 1 = .ok (.tableswitch 103 98 116 #[97, 101, 103, 103, 103, 93, 103, 103, 103, 103, 103, 99, 103, 103, 91, 103, 103, 103, 95], 91) := by decide +kernel
theorem dX6_kindOf_92 : decode cX6_kindOf 92 = .ok (.iconst 0, 1) := by decide +kernel
theorem dX6_kindOf_93 : decode cX6_kindOf 93 = .ok (.ireturn, 1) := by decide +kernel
theorem dX6_kindOf_94 : decode cX6_kindOf 94 = .ok (.iconst 1, 1) := by decide +kernel
theorem dX6_kindOf_95 : decode cX6_kindOf 95 = .ok (.ireturn, 1) := by decide +kernel
theorem dX6_kindOf_96 : decode cX6_kindOf 96 = .ok (.iconst 2, 1) := by decide +kernel
theorem dX6_kindOf_97 : decode cX6_kindOf 97 = .ok (.ireturn, 1) := by decide +kernel
theorem dX6_kindOf_98 : decode cX6_kindOf 98 = .ok (.iconst 3, 1) := by decide +kernel
theorem dX6_kindOf_99 : decode cX6_kindOf 99 = .ok (.ireturn, 1) := by decide +kernel
theorem dX6_kindOf_100 : decode cX6_kindOf 100 = .ok (.iconst 4, 1) := by decide +kernel
theorem dX6_kindOf_101 : decode cX6_kindOf 101 = .ok (.ireturn, 1) := by decide +kernel
theorem dX6_kindOf_102 : decode cX6_kindOf 102 = .ok (.iconst 5, 1) := by decide +kernel
theorem dX6_kindOf_103 : decode cX6_kindOf 103 = .ok (.ireturn, 1) := by decide +kernel
theorem dX6_kindOf_104 : decode cX6_kindOf 104 = .ok (.bipush (-9), 2) := by decide +kernel
theorem dX6_kindOf_106 : decode cX6_kindOf 106 = .ok (.ireturn, 1) := by decide +kernel
theorem dX6_figure_0 : decode cX6_figure 0 = .ok (.aload_n 0, 1) := by decide +kernel
theorem dX6_figure_1 : decode cX6_figure 1 = .ok (.aload_n 0, 1) := by decide +kernel
theorem dX6_figure_2 : decode cX6_figure 2 = .ok (.iload_n 1, 1) := by decide +kernel
theorem dX6_figure_3 : decode cX6_figure 3 = .ok (.aload_n 0, 1) := by decide +kernel
theorem dX6_figure_4 : decode cX6_figure 4 = .ok (.getfield 120, 3) := by decide +kernel
theorem dX6_figure_7 : decode cX6_figure 7 = .ok (.invokevirtual 123, 3) := by decide +kernel
theorem dX6_figure_10 : decode cX6_figure 10 = .ok (.bipush 48, 2) := by decide +kernel
theorem dX6_figure_12 : decode cX6_figure 12 = .ok (.isub, 1) := by decide +kernel
theorem dX6_figure_13 : decode cX6_figure 13 = .ok (.putfield 126, 3) := by decide +kernel
theorem dX6_figure_16 : decode cX6_figure 16 = .ok (.aload_n 0, 1) := by decide +kernel
theorem dX6_figure_17 : decode cX6_figure 17 = .ok (.getfield 126, 3) := by decide +kernel
theorem dX6_figure_20 : decode cX6_figure 20 = .ok (.iconst 0, 1) := by decide +kernel
theorem dX6_figure_21 : decode cX6_figure 21 = .ok (.iload_n 2, 1) := by decide +kernel
theorem dX6_figure_22 : decode cX6_figure 22 = .ok (.invokestatic 92, 3) := by decide +kernel
theorem dX6_figure_25 : decode cX6_figure 25 = .ok (.istore_n 3, 1) := by decide +kernel
theorem dX6_figure_26 : decode cX6_figure 26 = .ok (.aload_n 0, 1) := by decide +kernel
theorem dX6_figure_27 : decode cX6_figure 27 = .ok (.dup, 1) := by decide +kernel
theorem dX6_figure_28 : decode cX6_figure 28 = .ok (.getfield 120, 3) := by decide +kernel
theorem dX6_figure_31 : decode cX6_figure 31 = .ok (.iload_n 3, 1) := by decide +kernel
theorem dX6_figure_32 : decode cX6_figure 32 = .ok (.ifCond .eq 7, 3) := by decide +kernel
theorem dX6_figure_35 : decode cX6_figure 35 = .ok (.iconst 1, 1) := by decide +kernel
theorem dX6_figure_36 : decode cX6_figure 36 = .ok (.goto 4, 3) := by decide +kernel
theorem dX6_figure_39 : decode cX6_figure 39 = .ok (.iconst 0, 1) := by decide +kernel
theorem dX6_figure_40 : decode cX6_figure 40 = .ok (.iadd, 1) := by decide +kernel
theorem dX6_figure_41 : decode cX6_figure 41 = .ok (.putfield 120, 3) := by decide +kernel
theorem dX6_figure_44 : decode cX6_figure 44 = .ok (.iload_n 3, 1) := by decide +kernel
theorem dX6_figure_45 : decode cX6_figure 45 = .ok (.ireturn, 1) := by decide +kernel
theorem dX6_readsPlace_0 : decode cX6_readsPlace 0 = .ok (.iload_n 1, 1) := by decide +kernel
theorem dX6_readsPlace_1 : decode cX6_readsPlace 1 = .ok (.invokestatic 129, 3) := by decide +kernel
theorem dX6_readsPlace_4 : decode cX6_readsPlace 4 = .ok (.istore_n 2, 1) := by decide +kernel
theorem dX6_readsPlace_5 : decode cX6_readsPlace 5 = .ok (.iload_n 2, 1) := by decide +kernel
theorem dX6_readsPlace_6 : decode cX6_readsPlace 6 = .ok (.bipush (-9), 2) := by decide +kernel
theorem dX6_readsPlace_8 : decode cX6_readsPlace 8 = .ok (.if_icmp .eq 24, 3) := by decide +kernel
theorem dX6_readsPlace_11 : decode cX6_readsPlace 11 = .ok (.aload_n 0, 1) := by decide +kernel
theorem dX6_readsPlace_12 : decode cX6_readsPlace 12 = .ok (.getfield 132, 3) := by decide +kernel
theorem dX6_readsPlace_15 : decode cX6_readsPlace 15 = .ok (.bipush 8, 2) := by decide +kernel
theorem dX6_readsPlace_17 : decode cX6_readsPlace 17 = .ok (.if_icmp .eq 15, 3) := by decide +kernel
theorem dX6_readsPlace_20 : decode cX6_readsPlace 20 = .ok (.aload_n 0, 1) := by decide +kernel
theorem dX6_readsPlace_21 : decode cX6_readsPlace 21 = .ok (.getfield 135, 3) := by decide +kernel
theorem dX6_readsPlace_24 : decode cX6_readsPlace 24 = .ok (.aload_n 0, 1) := by decide +kernel
theorem dX6_readsPlace_25 : decode cX6_readsPlace 25 = .ok (.getfield 138, 3) := by decide +kernel
theorem dX6_readsPlace_28 : decode cX6_readsPlace 28 = .ok (.iadd, 1) := by decide +kernel
theorem dX6_readsPlace_29 : decode cX6_readsPlace 29 = .ok (.ifCond .le 5, 3) := by decide +kernel
theorem dX6_readsPlace_32 : decode cX6_readsPlace 32 = .ok (.iconst 0, 1) := by decide +kernel
theorem dX6_readsPlace_33 : decode cX6_readsPlace 33 = .ok (.ireturn, 1) := by decide +kernel
theorem dX6_readsPlace_34 : decode cX6_readsPlace 34 = .ok (.aload_n 0, 1) := by decide +kernel
theorem dX6_readsPlace_35 : decode cX6_readsPlace 35 = .ok (.getfield 39, 3) := by decide +kernel
theorem dX6_readsPlace_38 : decode cX6_readsPlace 38 = .ok (.aload_n 0, 1) := by decide +kernel
theorem dX6_readsPlace_39 : decode cX6_readsPlace 39 = .ok (.getfield 132, 3) := by decide +kernel
theorem dX6_readsPlace_42 : decode cX6_readsPlace 42 = .ok (.iload_n 2, 1) := by decide +kernel
theorem dX6_readsPlace_43 : decode cX6_readsPlace 43 = .ok (.iastore, 1) := by decide +kernel
theorem dX6_readsPlace_44 : decode cX6_readsPlace 44 = .ok (.aload_n 0, 1) := by decide +kernel
theorem dX6_readsPlace_45 : decode cX6_readsPlace 45 = .ok (.getfield 42, 3) := by decide +kernel
theorem dX6_readsPlace_48 : decode cX6_readsPlace 48 = .ok (.aload_n 0, 1) := by decide +kernel
theorem dX6_readsPlace_49 : decode cX6_readsPlace 49 = .ok (.getfield 132, 3) := by decide +kernel
theorem dX6_readsPlace_52 : decode cX6_readsPlace 52 = .ok (.iconst 0, 1) := by decide +kernel
theorem dX6_readsPlace_53 : decode cX6_readsPlace 53 = .ok (.iastore, 1) := by decide +kernel
theorem dX6_readsPlace_54 : decode cX6_readsPlace 54 = .ok (.aload_n 0, 1) := by decide +kernel
theorem dX6_readsPlace_55 : decode cX6_readsPlace 55 = .ok (.dup, 1) := by decide +kernel
theorem dX6_readsPlace_56 : decode cX6_readsPlace 56 = .ok (.getfield 132, 3) := by decide +kernel
theorem dX6_readsPlace_59 : decode cX6_readsPlace 59 = .ok (.iconst 1, 1) := by decide +kernel
theorem dX6_readsPlace_60 : decode cX6_readsPlace 60 = .ok (.iadd, 1) := by decide +kernel
theorem dX6_readsPlace_61 : decode cX6_readsPlace 61 = .ok (.putfield 132, 3) := by decide +kernel
theorem dX6_readsPlace_64 : decode cX6_readsPlace 64 = .ok (.aload_n 0, 1) := by decide +kernel
theorem dX6_readsPlace_65 : decode cX6_readsPlace 65 = .ok (.dup, 1) := by decide +kernel
theorem dX6_readsPlace_66 : decode cX6_readsPlace 66 = .ok (.getfield 120, 3) := by decide +kernel
theorem dX6_readsPlace_69 : decode cX6_readsPlace 69 = .ok (.iconst 1, 1) := by decide +kernel
theorem dX6_readsPlace_70 : decode cX6_readsPlace 70 = .ok (.iadd, 1) := by decide +kernel
theorem dX6_readsPlace_71 : decode cX6_readsPlace 71 = .ok (.putfield 120, 3) := by decide +kernel
theorem dX6_readsPlace_74 : decode cX6_readsPlace 74 = .ok (.iconst 1, 1) := by decide +kernel
theorem dX6_readsPlace_75 : decode cX6_readsPlace 75 = .ok (.ireturn, 1) := by decide +kernel
theorem dX6_readsPath_0 : decode cX6_readsPath 0 = .ok (.aload_n 0, 1) := by decide +kernel
theorem dX6_readsPath_1 : decode cX6_readsPath 1 = .ok (.getfield 132, 3) := by decide +kernel
theorem dX6_readsPath_4 : decode cX6_readsPath 4 = .ok (.iconst 2, 1) := by decide +kernel
theorem dX6_readsPath_5 : decode cX6_readsPath 5 = .ok (.if_icmp .lt 19, 3) := by decide +kernel
theorem dX6_readsPath_8 : decode cX6_readsPath 8 = .ok (.aload_n 0, 1) := by decide +kernel
theorem dX6_readsPath_9 : decode cX6_readsPath 9 = .ok (.getfield 135, 3) := by decide +kernel
theorem dX6_readsPath_12 : decode cX6_readsPath 12 = .ok (.bipush 14, 2) := by decide +kernel
theorem dX6_readsPath_14 : decode cX6_readsPath 14 = .ok (.if_icmp .eq 10, 3) := by decide +kernel
theorem dX6_readsPath_17 : decode cX6_readsPath 17 = .ok (.aload_n 0, 1) := by decide +kernel
theorem dX6_readsPath_18 : decode cX6_readsPath 18 = .ok (.getfield 138, 3) := by decide +kernel
theorem dX6_readsPath_21 : decode cX6_readsPath 21 = .ok (.ifCond .le 5, 3) := by decide +kernel
theorem dX6_readsPath_24 : decode cX6_readsPath 24 = .ok (.iconst 0, 1) := by decide +kernel
theorem dX6_readsPath_25 : decode cX6_readsPath 25 = .ok (.ireturn, 1) := by decide +kernel
theorem dX6_readsPath_26 : decode cX6_readsPath 26 = .ok (.aload_n 0, 1) := by decide +kernel
theorem dX6_readsPath_27 : decode cX6_readsPath 27 = .ok (.dup, 1) := by decide +kernel
theorem dX6_readsPath_28 : decode cX6_readsPath 28 = .ok (.getfield 120, 3) := by decide +kernel
theorem dX6_readsPath_31 : decode cX6_readsPath 31 = .ok (.iconst 1, 1) := by decide +kernel
theorem dX6_readsPath_32 : decode cX6_readsPath 32 = .ok (.iadd, 1) := by decide +kernel
theorem dX6_readsPath_33 : decode cX6_readsPath 33 = .ok (.putfield 120, 3) := by decide +kernel
theorem dX6_readsPath_36 : decode cX6_readsPath 36 = .ok (.aload_n 0, 1) := by decide +kernel
theorem dX6_readsPath_37 : decode cX6_readsPath 37 = .ok (.iload_n 1, 1) := by decide +kernel
theorem dX6_readsPath_38 : decode cX6_readsPath 38 = .ok (.aload_n 0, 1) := by decide +kernel
theorem dX6_readsPath_39 : decode cX6_readsPath 39 = .ok (.getfield 132, 3) := by decide +kernel
theorem dX6_readsPath_42 : decode cX6_readsPath 42 = .ok (.iconst 1, 1) := by decide +kernel
theorem dX6_readsPath_43 : decode cX6_readsPath 43 = .ok (.isub, 1) := by decide +kernel
theorem dX6_readsPath_44 : decode cX6_readsPath 44 = .ok (.invokevirtual 141, 3) := by decide +kernel
theorem dX6_readsPath_47 : decode cX6_readsPath 47 = .ok (.ifCond .ne 5, 3) := by decide +kernel
theorem dX6_readsPath_50 : decode cX6_readsPath 50 = .ok (.iconst 0, 1) := by decide +kernel
theorem dX6_readsPath_51 : decode cX6_readsPath 51 = .ok (.ireturn, 1) := by decide +kernel
theorem dX6_readsPath_52 : decode cX6_readsPath 52 = .ok (.aload_n 0, 1) := by decide +kernel
theorem dX6_readsPath_53 : decode cX6_readsPath 53 = .ok (.getfield 126, 3) := by decide +kernel
theorem dX6_readsPath_56 : decode cX6_readsPath 56 = .ok (.istore_n 2, 1) := by decide +kernel
theorem dX6_readsPath_57 : decode cX6_readsPath 57 = .ok (.aload_n 0, 1) := by decide +kernel
theorem dX6_readsPath_58 : decode cX6_readsPath 58 = .ok (.iload_n 1, 1) := by decide +kernel
theorem dX6_readsPath_59 : decode cX6_readsPath 59 = .ok (.aload_n 0, 1) := by decide +kernel
theorem dX6_readsPath_60 : decode cX6_readsPath 60 = .ok (.getfield 120, 3) := by decide +kernel
theorem dX6_readsPath_63 : decode cX6_readsPath 63 = .ok (.invokevirtual 123, 3) := by decide +kernel
theorem dX6_readsPath_66 : decode cX6_readsPath 66 = .ok (.bipush 48, 2) := by decide +kernel
theorem dX6_readsPath_68 : decode cX6_readsPath 68 = .ok (.isub, 1) := by decide +kernel
theorem dX6_readsPath_69 : decode cX6_readsPath 69 = .ok (.istore_n 3, 1) := by decide +kernel
theorem dX6_readsPath_70 : decode cX6_readsPath 70 = .ok (.iload_n 3, 1) := by decide +kernel
theorem dX6_readsPath_71 : decode cX6_readsPath 71 = .ok (.iconst 0, 1) := by decide +kernel
theorem dX6_readsPath_72 : decode cX6_readsPath 72 = .ok (.aload_n 0, 1) := by decide +kernel
theorem dX6_readsPath_73 : decode cX6_readsPath 73 = .ok (.getfield 132, 3) := by decide +kernel
theorem dX6_readsPath_76 : decode cX6_readsPath 76 = .ok (.iconst 1, 1) := by decide +kernel
theorem dX6_readsPath_77 : decode cX6_readsPath 77 = .ok (.isub, 1) := by decide +kernel
theorem dX6_readsPath_78 : decode cX6_readsPath 78 = .ok (.invokestatic 92, 3) := by decide +kernel
theorem dX6_readsPath_81 : decode cX6_readsPath 81 = .ok (.ifCond .eq 21, 3) := by decide +kernel
theorem dX6_readsPath_84 : decode cX6_readsPath 84 = .ok (.iload_n 3, 1) := by decide +kernel
theorem dX6_readsPath_85 : decode cX6_readsPath 85 = .ok (.iload_n 2, 1) := by decide +kernel
theorem dX6_readsPath_86 : decode cX6_readsPath 86 = .ok (.if_icmp .eq 16, 3) := by decide +kernel
theorem dX6_readsPath_89 : decode cX6_readsPath 89 = .ok (.aload_n 0, 1) := by decide +kernel
theorem dX6_readsPath_90 : decode cX6_readsPath 90 = .ok (.getfield 42, 3) := by decide +kernel
theorem dX6_readsPath_93 : decode cX6_readsPath 93 = .ok (.iload_n 2, 1) := by decide +kernel
theorem dX6_readsPath_94 : decode cX6_readsPath 94 = .ok (.iaload, 1) := by decide +kernel
theorem dX6_readsPath_95 : decode cX6_readsPath 95 = .ok (.iload_n 3, 1) := by decide +kernel
theorem dX6_readsPath_96 : decode cX6_readsPath 96 = .ok (.invokestatic 145, 3) := by decide +kernel
theorem dX6_readsPath_99 : decode cX6_readsPath 99 = .ok (.ifCond .eq 5, 3) := by decide +kernel
theorem dX6_readsPath_102 : decode cX6_readsPath 102 = .ok (.iconst 0, 1) := by decide +kernel
theorem dX6_readsPath_103 : decode cX6_readsPath 103 = .ok (.ireturn, 1) := by decide +kernel
theorem dX6_readsPath_104 : decode cX6_readsPath 104 = .ok (.aload_n 0, 1) := by decide +kernel
theorem dX6_readsPath_105 : decode cX6_readsPath 105 = .ok (.dup, 1) := by decide +kernel
theorem dX6_readsPath_106 : decode cX6_readsPath 106 = .ok (.getfield 120, 3) := by decide +kernel
theorem dX6_readsPath_109 : decode cX6_readsPath 109 = .ok (.iconst 1, 1) := by decide +kernel
theorem dX6_readsPath_110 : decode cX6_readsPath 110 = .ok (.iadd, 1) := by decide +kernel
theorem dX6_readsPath_111 : decode cX6_readsPath 111 = .ok (.putfield 120, 3) := by decide +kernel
theorem dX6_readsPath_114 : decode cX6_readsPath 114 = .ok (.aload_n 0, 1) := by decide +kernel
theorem dX6_readsPath_115 : decode cX6_readsPath 115 = .ok (.getfield 42, 3) := by decide +kernel
theorem dX6_readsPath_118 : decode cX6_readsPath 118 = .ok (.iload_n 2, 1) := by decide +kernel
theorem dX6_readsPath_119 : decode cX6_readsPath 119 = .ok (.dup2, 1) := by decide +kernel
theorem dX6_readsPath_120 : decode cX6_readsPath 120 = .ok (.iaload, 1) := by decide +kernel
theorem dX6_readsPath_121 : decode cX6_readsPath 121 = .ok (.iconst 1, 1) := by decide +kernel
theorem dX6_readsPath_122 : decode cX6_readsPath 122 = .ok (.iload_n 3, 1) := by decide +kernel
theorem dX6_readsPath_123 : decode cX6_readsPath 123 = .ok (.ishl, 1) := by decide +kernel
theorem dX6_readsPath_124 : decode cX6_readsPath 124 = .ok (.ior, 1) := by decide +kernel
theorem dX6_readsPath_125 : decode cX6_readsPath 125 = .ok (.iastore, 1) := by decide +kernel
theorem dX6_readsPath_126 : decode cX6_readsPath 126 = .ok (.aload_n 0, 1) := by decide +kernel
theorem dX6_readsPath_127 : decode cX6_readsPath 127 = .ok (.getfield 42, 3) := by decide +kernel
theorem dX6_readsPath_130 : decode cX6_readsPath 130 = .ok (.iload_n 3, 1) := by decide +kernel
theorem dX6_readsPath_131 : decode cX6_readsPath 131 = .ok (.dup2, 1) := by decide +kernel
theorem dX6_readsPath_132 : decode cX6_readsPath 132 = .ok (.iaload, 1) := by decide +kernel
theorem dX6_readsPath_133 : decode cX6_readsPath 133 = .ok (.iconst 1, 1) := by decide +kernel
theorem dX6_readsPath_134 : decode cX6_readsPath 134 = .ok (.iload_n 2, 1) := by decide +kernel
theorem dX6_readsPath_135 : decode cX6_readsPath 135 = .ok (.ishl, 1) := by decide +kernel
theorem dX6_readsPath_136 : decode cX6_readsPath 136 = .ok (.ior, 1) := by decide +kernel
theorem dX6_readsPath_137 : decode cX6_readsPath 137 = .ok (.iastore, 1) := by decide +kernel
theorem dX6_readsPath_138 : decode cX6_readsPath 138 = .ok (.aload_n 0, 1) := by decide +kernel
theorem dX6_readsPath_139 : decode cX6_readsPath 139 = .ok (.dup, 1) := by decide +kernel
theorem dX6_readsPath_140 : decode cX6_readsPath 140 = .ok (.getfield 135, 3) := by decide +kernel
theorem dX6_readsPath_143 : decode cX6_readsPath 143 = .ok (.iconst 1, 1) := by decide +kernel
theorem dX6_readsPath_144 : decode cX6_readsPath 144 = .ok (.iadd, 1) := by decide +kernel
theorem dX6_readsPath_145 : decode cX6_readsPath 145 = .ok (.putfield 135, 3) := by decide +kernel
theorem dX6_readsPath_148 : decode cX6_readsPath 148 = .ok (.iconst 1, 1) := by decide +kernel
theorem dX6_readsPath_149 : decode cX6_readsPath 149 = .ok (.ireturn, 1) := by decide +kernel

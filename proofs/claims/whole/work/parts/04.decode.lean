theorem dX4_unseenAt_0 : decode cX4_unseenAt 0 = .ok (.aload_n 0, 1) := by decide +kernel
theorem dX4_unseenAt_1 : decode cX4_unseenAt 1 = .ok (.iload_n 1, 1) := by decide +kernel
theorem dX4_unseenAt_2 : decode cX4_unseenAt 2 = .ok (.invokevirtual 72, 3) := by decide +kernel
theorem dX4_unseenAt_5 : decode cX4_unseenAt 5 = .ok (.istore_n 2, 1) := by decide +kernel
theorem dX4_unseenAt_6 : decode cX4_unseenAt 6 = .ok (.iconst 0, 1) := by decide +kernel
theorem dX4_unseenAt_7 : decode cX4_unseenAt 7 = .ok (.istore_n 3, 1) := by decide +kernel
theorem dX4_unseenAt_8 : decode cX4_unseenAt 8 = .ok (.iconst 0, 1) := by decide +kernel
theorem dX4_unseenAt_9 : decode cX4_unseenAt 9 = .ok (.istore 4, 2) := by decide +kernel
theorem dX4_unseenAt_11 : decode cX4_unseenAt 11 = .ok (.iload 4, 2) := by decide +kernel
theorem dX4_unseenAt_13 : decode cX4_unseenAt 13 = .ok (.iconst 3, 1) := by decide +kernel
theorem dX4_unseenAt_14 : decode cX4_unseenAt 14 = .ok (.if_icmp .ge 30, 3) := by decide +kernel
theorem dX4_unseenAt_17 : decode cX4_unseenAt 17 = .ok (.iload_n 2, 1) := by decide +kernel
theorem dX4_unseenAt_18 : decode cX4_unseenAt 18 = .ok (.iload 4, 2) := by decide +kernel
theorem dX4_unseenAt_20 : decode cX4_unseenAt 20 = .ok (.ishr, 1) := by decide +kernel
theorem dX4_unseenAt_21 : decode cX4_unseenAt 21 = .ok (.iconst 1, 1) := by decide +kernel
theorem dX4_unseenAt_22 : decode cX4_unseenAt 22 = .ok (.iand, 1) := by decide +kernel
theorem dX4_unseenAt_23 : decode cX4_unseenAt 23 = .ok (.ifCond .ne 15, 3) := by decide +kernel
theorem dX4_unseenAt_26 : decode cX4_unseenAt 26 = .ok (.iload_n 3, 1) := by decide +kernel
theorem dX4_unseenAt_27 : decode cX4_unseenAt 27 = .ok (.aload_n 0, 1) := by decide +kernel
theorem dX4_unseenAt_28 : decode cX4_unseenAt 28 = .ok (.getfield 33, 3) := by decide +kernel
theorem dX4_unseenAt_31 : decode cX4_unseenAt 31 = .ok (.iload 4, 2) := by decide +kernel
theorem dX4_unseenAt_33 : decode cX4_unseenAt 33 = .ok (.aaload, 1) := by decide +kernel
theorem dX4_unseenAt_34 : decode cX4_unseenAt 34 = .ok (.iload_n 1, 1) := by decide +kernel
theorem dX4_unseenAt_35 : decode cX4_unseenAt 35 = .ok (.iaload, 1) := by decide +kernel
theorem dX4_unseenAt_36 : decode cX4_unseenAt 36 = .ok (.iadd, 1) := by decide +kernel
theorem dX4_unseenAt_37 : decode cX4_unseenAt 37 = .ok (.istore_n 3, 1) := by decide +kernel
theorem dX4_unseenAt_38 : decode cX4_unseenAt 38 = .ok (.iinc 4 1, 3) := by decide +kernel
theorem dX4_unseenAt_41 : decode cX4_unseenAt 41 = .ok (.goto (-30), 3) := by decide +kernel
theorem dX4_unseenAt_44 : decode cX4_unseenAt 44 = .ok (.iload_n 3, 1) := by decide +kernel
theorem dX4_unseenAt_45 : decode cX4_unseenAt 45 = .ok (.ireturn, 1) := by decide +kernel
theorem dX4_factOf_0 : decode cX4_factOf 0 = .ok (.iload_n 2, 1) := by decide +kernel
theorem dX4_factOf_1 : decode cX4_factOf 1 = .ok (.tableswitch 60 0 4 #[35, 42, 49, 49, 49], 35) := by decide +kernel
theorem dX4_factOf_36 : decode cX4_factOf 36 = .ok (.aload_n 0, 1) := by decide +kernel
theorem dX4_factOf_37 : decode cX4_factOf 37 = .ok (.getfield 21, 3) := by decide +kernel
theorem dX4_factOf_40 : decode cX4_factOf 40 = .ok (.iload_n 1, 1) := by decide +kernel
theorem dX4_factOf_41 : decode cX4_factOf 41 = .ok (.iaload, 1) := by decide +kernel
theorem dX4_factOf_42 : decode cX4_factOf 42 = .ok (.ireturn, 1) := by decide +kernel
theorem dX4_factOf_43 : decode cX4_factOf 43 = .ok (.aload_n 0, 1) := by decide +kernel
theorem dX4_factOf_44 : decode cX4_factOf 44 = .ok (.getfield 28, 3) := by decide +kernel
theorem dX4_factOf_47 : decode cX4_factOf 47 = .ok (.iload_n 1, 1) := by decide +kernel
theorem dX4_factOf_48 : decode cX4_factOf 48 = .ok (.iaload, 1) := by decide +kernel
theorem dX4_factOf_49 : decode cX4_factOf 49 = .ok (.ireturn, 1) := by decide +kernel
theorem dX4_factOf_50 : decode cX4_factOf 50 = .ok (.aload_n 0, 1) := by decide +kernel
theorem dX4_factOf_51 : decode cX4_factOf 51 = .ok (.getfield 33, 3) := by decide +kernel
theorem dX4_factOf_54 : decode cX4_factOf 54 = .ok (.iload_n 2, 1) := by decide +kernel
theorem dX4_factOf_55 : decode cX4_factOf 55 = .ok (.iconst 2, 1) := by decide +kernel
theorem dX4_factOf_56 : decode cX4_factOf 56 = .ok (.isub, 1) := by decide +kernel
theorem dX4_factOf_57 : decode cX4_factOf 57 = .ok (.aaload, 1) := by decide +kernel
theorem dX4_factOf_58 : decode cX4_factOf 58 = .ok (.iload_n 1, 1) := by decide +kernel
theorem dX4_factOf_59 : decode cX4_factOf 59 = .ok (.iaload, 1) := by decide +kernel
theorem dX4_factOf_60 : decode cX4_factOf 60 = .ok (.ireturn, 1) := by decide +kernel
theorem dX4_factOf_61 : decode cX4_factOf 61 = .ok (.aload_n 0, 1) := by decide +kernel
theorem dX4_factOf_62 : decode cX4_factOf 62 = .ok (.iload_n 1, 1) := by decide +kernel
theorem dX4_factOf_63 : decode cX4_factOf 63 = .ok (.invokevirtual 72, 3) := by decide +kernel
theorem dX4_factOf_66 : decode cX4_factOf 66 = .ok (.ireturn, 1) := by decide +kernel
theorem dX4_reachFrom_0 : decode cX4_reachFrom 0 = .ok (.iconst 1, 1) := by decide +kernel
theorem dX4_reachFrom_1 : decode cX4_reachFrom 1 = .ok (.iload_n 1, 1) := by decide +kernel
theorem dX4_reachFrom_2 : decode cX4_reachFrom 2 = .ok (.ishl, 1) := by decide +kernel
theorem dX4_reachFrom_3 : decode cX4_reachFrom 3 = .ok (.istore_n 2, 1) := by decide +kernel
theorem dX4_reachFrom_4 : decode cX4_reachFrom 4 = .ok (.aload_n 0, 1) := by decide +kernel
theorem dX4_reachFrom_5 : decode cX4_reachFrom 5 = .ok (.iload_n 1, 1) := by decide +kernel
theorem dX4_reachFrom_6 : decode cX4_reachFrom 6 = .ok (.iconst 1, 1) := by decide +kernel
theorem dX4_reachFrom_7 : decode cX4_reachFrom 7 = .ok (.invokevirtual 61, 3) := by decide +kernel
theorem dX4_reachFrom_10 : decode cX4_reachFrom 10 = .ok (.ifCond .eq 23, 3) := by decide +kernel
theorem dX4_reachFrom_13 : decode cX4_reachFrom 13 = .ok (.iload_n 2, 1) := by decide +kernel
theorem dX4_reachFrom_14 : decode cX4_reachFrom 14 = .ok (.aload_n 0, 1) := by decide +kernel
theorem dX4_reachFrom_15 : decode cX4_reachFrom 15 = .ok (.getfield 28, 3) := by decide +kernel
theorem dX4_reachFrom_18 : decode cX4_reachFrom 18 = .ok (.iload_n 1, 1) := by decide +kernel
theorem dX4_reachFrom_19 : decode cX4_reachFrom 19 = .ok (.iaload, 1) := by decide +kernel
theorem dX4_reachFrom_20 : decode cX4_reachFrom 20 = .ok (.aload_n 0, 1) := by decide +kernel
theorem dX4_reachFrom_21 : decode cX4_reachFrom 21 = .ok (.getfield 25, 3) := by decide +kernel
theorem dX4_reachFrom_24 : decode cX4_reachFrom 24 = .ok (.iconst 2, 1) := by decide +kernel
theorem dX4_reachFrom_25 : decode cX4_reachFrom 25 = .ok (.iaload, 1) := by decide +kernel
theorem dX4_reachFrom_26 : decode cX4_reachFrom 26 = .ok (.iconst (-1), 1) := by decide +kernel
theorem dX4_reachFrom_27 : decode cX4_reachFrom 27 = .ok (.ixor, 1) := by decide +kernel
theorem dX4_reachFrom_28 : decode cX4_reachFrom 28 = .ok (.iand, 1) := by decide +kernel
theorem dX4_reachFrom_29 : decode cX4_reachFrom 29 = .ok (.ior, 1) := by decide +kernel
theorem dX4_reachFrom_30 : decode cX4_reachFrom 30 = .ok (.goto 4, 3) := by decide +kernel
theorem dX4_reachFrom_33 : decode cX4_reachFrom 33 = .ok (.iload_n 2, 1) := by decide +kernel
theorem dX4_reachFrom_34 : decode cX4_reachFrom 34 = .ok (.ireturn, 1) := by decide +kernel
theorem dX4_crumbsOn_0 : decode cX4_crumbsOn 0 = .ok (.iconst 0, 1) := by decide +kernel
theorem dX4_crumbsOn_1 : decode cX4_crumbsOn 1 = .ok (.istore_n 2, 1) := by decide +kernel
theorem dX4_crumbsOn_2 : decode cX4_crumbsOn 2 = .ok (.iconst 0, 1) := by decide +kernel
theorem dX4_crumbsOn_3 : decode cX4_crumbsOn 3 = .ok (.istore_n 3, 1) := by decide +kernel
theorem dX4_crumbsOn_4 : decode cX4_crumbsOn 4 = .ok (.iload_n 3, 1) := by decide +kernel
theorem dX4_crumbsOn_5 : decode cX4_crumbsOn 5 = .ok (.aload_n 0, 1) := by decide +kernel
theorem dX4_crumbsOn_6 : decode cX4_crumbsOn 6 = .ok (.getfield 9, 3) := by decide +kernel
theorem dX4_crumbsOn_9 : decode cX4_crumbsOn 9 = .ok (.if_icmp .ge 29, 3) := by decide +kernel
theorem dX4_crumbsOn_12 : decode cX4_crumbsOn 12 = .ok (.iload_n 1, 1) := by decide +kernel
theorem dX4_crumbsOn_13 : decode cX4_crumbsOn 13 = .ok (.iload_n 3, 1) := by decide +kernel
theorem dX4_crumbsOn_14 : decode cX4_crumbsOn 14 = .ok (.ishr, 1) := by decide +kernel
theorem dX4_crumbsOn_15 : decode cX4_crumbsOn 15 = .ok (.iconst 1, 1) := by decide +kernel
theorem dX4_crumbsOn_16 : decode cX4_crumbsOn 16 = .ok (.iand, 1) := by decide +kernel
theorem dX4_crumbsOn_17 : decode cX4_crumbsOn 17 = .ok (.iconst 1, 1) := by decide +kernel
theorem dX4_crumbsOn_18 : decode cX4_crumbsOn 18 = .ok (.if_icmp .ne 14, 3) := by decide +kernel
theorem dX4_crumbsOn_21 : decode cX4_crumbsOn 21 = .ok (.iload_n 2, 1) := by decide +kernel
theorem dX4_crumbsOn_22 : decode cX4_crumbsOn 22 = .ok (.aload_n 0, 1) := by decide +kernel
theorem dX4_crumbsOn_23 : decode cX4_crumbsOn 23 = .ok (.getfield 33, 3) := by decide +kernel
theorem dX4_crumbsOn_26 : decode cX4_crumbsOn 26 = .ok (.iconst 0, 1) := by decide +kernel
theorem dX4_crumbsOn_27 : decode cX4_crumbsOn 27 = .ok (.aaload, 1) := by decide +kernel
theorem dX4_crumbsOn_28 : decode cX4_crumbsOn 28 = .ok (.iload_n 3, 1) := by decide +kernel
theorem dX4_crumbsOn_29 : decode cX4_crumbsOn 29 = .ok (.iaload, 1) := by decide +kernel
theorem dX4_crumbsOn_30 : decode cX4_crumbsOn 30 = .ok (.iadd, 1) := by decide +kernel
theorem dX4_crumbsOn_31 : decode cX4_crumbsOn 31 = .ok (.istore_n 2, 1) := by decide +kernel
theorem dX4_crumbsOn_32 : decode cX4_crumbsOn 32 = .ok (.iinc 3 1, 3) := by decide +kernel
theorem dX4_crumbsOn_35 : decode cX4_crumbsOn 35 = .ok (.goto (-31), 3) := by decide +kernel
theorem dX4_crumbsOn_38 : decode cX4_crumbsOn 38 = .ok (.iload_n 2, 1) := by decide +kernel
theorem dX4_crumbsOn_39 : decode cX4_crumbsOn 39 = .ok (.ireturn, 1) := by decide +kernel
theorem dX4_flightFrom_0 : decode cX4_flightFrom 0 = .ok (.aload_n 0, 1) := by decide +kernel
theorem dX4_flightFrom_1 : decode cX4_flightFrom 1 = .ok (.getfield 28, 3) := by decide +kernel
theorem dX4_flightFrom_4 : decode cX4_flightFrom 4 = .ok (.iload_n 1, 1) := by decide +kernel
theorem dX4_flightFrom_5 : decode cX4_flightFrom 5 = .ok (.iaload, 1) := by decide +kernel
theorem dX4_flightFrom_6 : decode cX4_flightFrom 6 = .ok (.ifCond .ne 5, 3) := by decide +kernel
theorem dX4_flightFrom_9 : decode cX4_flightFrom 9 = .ok (.iload_n 1, 1) := by decide +kernel
theorem dX4_flightFrom_10 : decode cX4_flightFrom 10 = .ok (.ireturn, 1) := by decide +kernel
theorem dX4_flightFrom_11 : decode cX4_flightFrom 11 = .ok (.aload_n 0, 1) := by decide +kernel
theorem dX4_flightFrom_12 : decode cX4_flightFrom 12 = .ok (.getfield 28, 3) := by decide +kernel
theorem dX4_flightFrom_15 : decode cX4_flightFrom 15 = .ok (.iload_n 1, 1) := by decide +kernel
theorem dX4_flightFrom_16 : decode cX4_flightFrom 16 = .ok (.iaload, 1) := by decide +kernel
theorem dX4_flightFrom_17 : decode cX4_flightFrom 17 = .ok (.iconst 2, 1) := by decide +kernel
theorem dX4_flightFrom_18 : decode cX4_flightFrom 18 = .ok (.iload_n 1, 1) := by decide +kernel
theorem dX4_flightFrom_19 : decode cX4_flightFrom 19 = .ok (.ishl, 1) := by decide +kernel
theorem dX4_flightFrom_20 : decode cX4_flightFrom 20 = .ok (.ineg, 1) := by decide +kernel
theorem dX4_flightFrom_21 : decode cX4_flightFrom 21 = .ok (.iand, 1) := by decide +kernel
theorem dX4_flightFrom_22 : decode cX4_flightFrom 22 = .ok (.istore_n 2, 1) := by decide +kernel
theorem dX4_flightFrom_23 : decode cX4_flightFrom 23 = .ok (.iload_n 2, 1) := by decide +kernel
theorem dX4_flightFrom_24 : decode cX4_flightFrom 24 = .ok (.ifCond .eq 7, 3) := by decide +kernel
theorem dX4_flightFrom_27 : decode cX4_flightFrom 27 = .ok (.iload_n 2, 1) := by decide +kernel
theorem dX4_flightFrom_28 : decode cX4_flightFrom 28 = .ok (.goto 9, 3) := by decide +kernel
theorem dX4_flightFrom_31 : decode cX4_flightFrom 31 = .ok (.aload_n 0, 1) := by decide +kernel
theorem dX4_flightFrom_32 : decode cX4_flightFrom 32 = .ok (.getfield 28, 3) := by decide +kernel
theorem dX4_flightFrom_35 : decode cX4_flightFrom 35 = .ok (.iload_n 1, 1) := by decide +kernel
theorem dX4_flightFrom_36 : decode cX4_flightFrom 36 = .ok (.iaload, 1) := by decide +kernel
theorem dX4_flightFrom_37 : decode cX4_flightFrom 37 = .ok (.invokestatic 76, 3) := by decide +kernel
theorem dX4_flightFrom_40 : decode cX4_flightFrom 40 = .ok (.ireturn, 1) := by decide +kernel
theorem dX4_flownFrom_0 : decode cX4_flownFrom 0 = .ok (.iconst 0, 1) := by decide +kernel
theorem dX4_flownFrom_1 : decode cX4_flownFrom 1 = .ok (.istore_n 2, 1) := by decide +kernel
theorem dX4_flownFrom_2 : decode cX4_flownFrom 2 = .ok (.iconst 0, 1) := by decide +kernel
theorem dX4_flownFrom_3 : decode cX4_flownFrom 3 = .ok (.istore_n 3, 1) := by decide +kernel
theorem dX4_flownFrom_4 : decode cX4_flownFrom 4 = .ok (.iload_n 3, 1) := by decide +kernel
theorem dX4_flownFrom_5 : decode cX4_flownFrom 5 = .ok (.aload_n 0, 1) := by decide +kernel
theorem dX4_flownFrom_6 : decode cX4_flownFrom 6 = .ok (.getfield 9, 3) := by decide +kernel
theorem dX4_flownFrom_9 : decode cX4_flownFrom 9 = .ok (.if_icmp .ge 28, 3) := by decide +kernel
theorem dX4_flownFrom_12 : decode cX4_flownFrom 12 = .ok (.iload_n 1, 1) := by decide +kernel
theorem dX4_flownFrom_13 : decode cX4_flownFrom 13 = .ok (.aload_n 0, 1) := by decide +kernel
theorem dX4_flownFrom_14 : decode cX4_flownFrom 14 = .ok (.iload_n 3, 1) := by decide +kernel
theorem dX4_flownFrom_15 : decode cX4_flownFrom 15 = .ok (.invokevirtual 79, 3) := by decide +kernel
theorem dX4_flownFrom_18 : decode cX4_flownFrom 18 = .ok (.ishr, 1) := by decide +kernel
theorem dX4_flownFrom_19 : decode cX4_flownFrom 19 = .ok (.iconst 1, 1) := by decide +kernel
theorem dX4_flownFrom_20 : decode cX4_flownFrom 20 = .ok (.iand, 1) := by decide +kernel
theorem dX4_flownFrom_21 : decode cX4_flownFrom 21 = .ok (.iconst 1, 1) := by decide +kernel
theorem dX4_flownFrom_22 : decode cX4_flownFrom 22 = .ok (.if_icmp .ne 9, 3) := by decide +kernel
theorem dX4_flownFrom_25 : decode cX4_flownFrom 25 = .ok (.iload_n 2, 1) := by decide +kernel
theorem dX4_flownFrom_26 : decode cX4_flownFrom 26 = .ok (.iconst 1, 1) := by decide +kernel
theorem dX4_flownFrom_27 : decode cX4_flownFrom 27 = .ok (.iload_n 3, 1) := by decide +kernel
theorem dX4_flownFrom_28 : decode cX4_flownFrom 28 = .ok (.ishl, 1) := by decide +kernel
theorem dX4_flownFrom_29 : decode cX4_flownFrom 29 = .ok (.ior, 1) := by decide +kernel
theorem dX4_flownFrom_30 : decode cX4_flownFrom 30 = .ok (.istore_n 2, 1) := by decide +kernel
theorem dX4_flownFrom_31 : decode cX4_flownFrom 31 = .ok (.iinc 3 1, 3) := by decide +kernel
theorem dX4_flownFrom_34 : decode cX4_flownFrom 34 = .ok (.goto (-30), 3) := by decide +kernel
theorem dX4_flownFrom_37 : decode cX4_flownFrom 37 = .ok (.iload_n 2, 1) := by decide +kernel
theorem dX4_flownFrom_38 : decode cX4_flownFrom 38 = .ok (.ireturn, 1) := by decide +kernel
theorem dX4_passHours_0 : decode cX4_passHours 0 = .ok (.iconst 0, 1) := by decide +kernel
theorem dX4_passHours_1 : decode cX4_passHours 1 = .ok (.istore_n 2, 1) := by decide +kernel
theorem dX4_passHours_2 : decode cX4_passHours 2 = .ok (.iconst 0, 1) := by decide +kernel
theorem dX4_passHours_3 : decode cX4_passHours 3 = .ok (.istore_n 3, 1) := by decide +kernel
theorem dX4_passHours_4 : decode cX4_passHours 4 = .ok (.iload_n 3, 1) := by decide +kernel
theorem dX4_passHours_5 : decode cX4_passHours 5 = .ok (.iload_n 1, 1) := by decide +kernel
theorem dX4_passHours_6 : decode cX4_passHours 6 = .ok (.if_icmp .ge 73, 3) := by decide +kernel
theorem dX4_passHours_9 : decode cX4_passHours 9 = .ok (.iconst 0, 1) := by decide +kernel
theorem dX4_passHours_10 : decode cX4_passHours 10 = .ok (.istore 4, 2) := by decide +kernel
theorem dX4_passHours_12 : decode cX4_passHours 12 = .ok (.iload 4, 2) := by decide +kernel
theorem dX4_passHours_14 : decode cX4_passHours 14 = .ok (.aload_n 0, 1) := by decide +kernel
theorem dX4_passHours_15 : decode cX4_passHours 15 = .ok (.getfield 15, 3) := by decide +kernel
theorem dX4_passHours_18 : decode cX4_passHours 18 = .ok (.if_icmp .ge 55, 3) := by decide +kernel
theorem dX4_passHours_21 : decode cX4_passHours 21 = .ok (.aload_n 0, 1) := by decide +kernel
theorem dX4_passHours_22 : decode cX4_passHours 22 = .ok (.aload_n 0, 1) := by decide +kernel
theorem dX4_passHours_23 : decode cX4_passHours 23 = .ok (.getfield 39, 3) := by decide +kernel
theorem dX4_passHours_26 : decode cX4_passHours 26 = .ok (.iload 4, 2) := by decide +kernel
theorem dX4_passHours_28 : decode cX4_passHours 28 = .ok (.iaload, 1) := by decide +kernel
theorem dX4_passHours_29 : decode cX4_passHours 29 = .ok (.invokevirtual 82, 3) := by decide +kernel
theorem dX4_passHours_32 : decode cX4_passHours 32 = .ok (.istore 5, 2) := by decide +kernel
theorem dX4_passHours_34 : decode cX4_passHours 34 = .ok (.iload_n 2, 1) := by decide +kernel
theorem dX4_passHours_35 : decode cX4_passHours 35 = .ok (.aload_n 0, 1) := by decide +kernel
theorem dX4_passHours_36 : decode cX4_passHours 36 = .ok (.iload 5, 2) := by decide +kernel
theorem dX4_passHours_38 : decode cX4_passHours 38 = .ok (.invokevirtual 85, 3) := by decide +kernel
theorem dX4_passHours_41 : decode cX4_passHours 41 = .ok (.iadd, 1) := by decide +kernel
theorem dX4_passHours_42 : decode cX4_passHours 42 = .ok (.istore_n 2, 1) := by decide +kernel
theorem dX4_passHours_43 : decode cX4_passHours 43 = .ok (.aload_n 0, 1) := by decide +kernel
theorem dX4_passHours_44 : decode cX4_passHours 44 = .ok (.iload 5, 2) := by decide +kernel
theorem dX4_passHours_46 : decode cX4_passHours 46 = .ok (.invokevirtual 88, 3) := by decide +kernel
theorem dX4_passHours_49 : decode cX4_passHours 49 = .ok (.aload_n 0, 1) := by decide +kernel
theorem dX4_passHours_50 : decode cX4_passHours 50 = .ok (.getfield 39, 3) := by decide +kernel
theorem dX4_passHours_53 : decode cX4_passHours 53 = .ok (.iload 4, 2) := by decide +kernel
theorem dX4_passHours_55 : decode cX4_passHours 55 = .ok (.aload_n 0, 1) := by decide +kernel
theorem dX4_passHours_56 : decode cX4_passHours 56 = .ok (.aload_n 0, 1) := by decide +kernel
theorem dX4_passHours_57 : decode cX4_passHours 57 = .ok (.getfield 39, 3) := by decide +kernel
theorem dX4_passHours_60 : decode cX4_passHours 60 = .ok (.iload 4, 2) := by decide +kernel
theorem dX4_passHours_62 : decode cX4_passHours 62 = .ok (.iaload, 1) := by decide +kernel
theorem dX4_passHours_63 : decode cX4_passHours 63 = .ok (.invokevirtual 79, 3) := by decide +kernel
theorem dX4_passHours_66 : decode cX4_passHours 66 = .ok (.iastore, 1) := by decide +kernel
theorem dX4_passHours_67 : decode cX4_passHours 67 = .ok (.iinc 4 1, 3) := by decide +kernel
theorem dX4_passHours_70 : decode cX4_passHours 70 = .ok (.goto (-58), 3) := by decide +kernel
theorem dX4_passHours_73 : decode cX4_passHours 73 = .ok (.iinc 3 1, 3) := by decide +kernel
theorem dX4_passHours_76 : decode cX4_passHours 76 = .ok (.goto (-72), 3) := by decide +kernel
theorem dX4_passHours_79 : decode cX4_passHours 79 = .ok (.iload_n 2, 1) := by decide +kernel
theorem dX4_passHours_80 : decode cX4_passHours 80 = .ok (.ireturn, 1) := by decide +kernel
theorem dX4_clearCrumbs_0 : decode cX4_clearCrumbs 0 = .ok (.iconst 0, 1) := by decide +kernel
theorem dX4_clearCrumbs_1 : decode cX4_clearCrumbs 1 = .ok (.istore_n 2, 1) := by decide +kernel
theorem dX4_clearCrumbs_2 : decode cX4_clearCrumbs 2 = .ok (.iload_n 2, 1) := by decide +kernel
theorem dX4_clearCrumbs_3 : decode cX4_clearCrumbs 3 = .ok (.aload_n 0, 1) := by decide +kernel
theorem dX4_clearCrumbs_4 : decode cX4_clearCrumbs 4 = .ok (.getfield 9, 3) := by decide +kernel
theorem dX4_clearCrumbs_7 : decode cX4_clearCrumbs 7 = .ok (.if_icmp .ge 27, 3) := by decide +kernel
theorem dX4_clearCrumbs_10 : decode cX4_clearCrumbs 10 = .ok (.iload_n 1, 1) := by decide +kernel
theorem dX4_clearCrumbs_11 : decode cX4_clearCrumbs 11 = .ok (.iload_n 2, 1) := by decide +kernel
theorem dX4_clearCrumbs_12 : decode cX4_clearCrumbs 12 = .ok (.ishr, 1) := by decide +kernel
theorem dX4_clearCrumbs_13 : decode cX4_clearCrumbs 13 = .ok (.iconst 1, 1) := by decide +kernel
theorem dX4_clearCrumbs_14 : decode cX4_clearCrumbs 14 = .ok (.iand, 1) := by decide +kernel
theorem dX4_clearCrumbs_15 : decode cX4_clearCrumbs 15 = .ok (.iconst 1, 1) := by decide +kernel
theorem dX4_clearCrumbs_16 : decode cX4_clearCrumbs 16 = .ok (.if_icmp .ne 12, 3) := by decide +kernel
theorem dX4_clearCrumbs_19 : decode cX4_clearCrumbs 19 = .ok (.aload_n 0, 1) := by decide +kernel
theorem dX4_clearCrumbs_20 : decode cX4_clearCrumbs 20 = .ok (.getfield 33, 3) := by decide +kernel
theorem dX4_clearCrumbs_23 : decode cX4_clearCrumbs 23 = .ok (.iconst 0, 1) := by decide +kernel
theorem dX4_clearCrumbs_24 : decode cX4_clearCrumbs 24 = .ok (.aaload, 1) := by decide +kernel
theorem dX4_clearCrumbs_25 : decode cX4_clearCrumbs 25 = .ok (.iload_n 2, 1) := by decide +kernel
theorem dX4_clearCrumbs_26 : decode cX4_clearCrumbs 26 = .ok (.iconst 0, 1) := by decide +kernel
theorem dX4_clearCrumbs_27 : decode cX4_clearCrumbs 27 = .ok (.iastore, 1) := by decide +kernel
theorem dX4_clearCrumbs_28 : decode cX4_clearCrumbs 28 = .ok (.iinc 2 1, 3) := by decide +kernel
theorem dX4_clearCrumbs_31 : decode cX4_clearCrumbs 31 = .ok (.goto (-29), 3) := by decide +kernel
theorem dX4_clearCrumbs_34 : decode cX4_clearCrumbs 34 = .ok (.return_, 1) := by decide +kernel
theorem dX4_totalOf_0 : decode cX4_totalOf 0 = .ok (.iconst 0, 1) := by decide +kernel
theorem dX4_totalOf_1 : decode cX4_totalOf 1 = .ok (.istore_n 2, 1) := by decide +kernel
theorem dX4_totalOf_2 : decode cX4_totalOf 2 = .ok (.iconst 0, 1) := by decide +kernel
theorem dX4_totalOf_3 : decode cX4_totalOf 3 = .ok (.istore_n 3, 1) := by decide +kernel
theorem dX4_totalOf_4 : decode cX4_totalOf 4 = .ok (.iload_n 3, 1) := by decide +kernel
theorem dX4_totalOf_5 : decode cX4_totalOf 5 = .ok (.aload_n 0, 1) := by decide +kernel
theorem dX4_totalOf_6 : decode cX4_totalOf 6 = .ok (.getfield 9, 3) := by decide +kernel
theorem dX4_totalOf_9 : decode cX4_totalOf 9 = .ok (.if_icmp .ge 20, 3) := by decide +kernel
theorem dX4_totalOf_12 : decode cX4_totalOf 12 = .ok (.iload_n 2, 1) := by decide +kernel
theorem dX4_totalOf_13 : decode cX4_totalOf 13 = .ok (.aload_n 0, 1) := by decide +kernel
theorem dX4_totalOf_14 : decode cX4_totalOf 14 = .ok (.getfield 33, 3) := by decide +kernel
theorem dX4_totalOf_17 : decode cX4_totalOf 17 = .ok (.iload_n 1, 1) := by decide +kernel
theorem dX4_totalOf_18 : decode cX4_totalOf 18 = .ok (.aaload, 1) := by decide +kernel
theorem dX4_totalOf_19 : decode cX4_totalOf 19 = .ok (.iload_n 3, 1) := by decide +kernel
theorem dX4_totalOf_20 : decode cX4_totalOf 20 = .ok (.iaload, 1) := by decide +kernel
theorem dX4_totalOf_21 : decode cX4_totalOf 21 = .ok (.iadd, 1) := by decide +kernel
theorem dX4_totalOf_22 : decode cX4_totalOf 22 = .ok (.istore_n 2, 1) := by decide +kernel
theorem dX4_totalOf_23 : decode cX4_totalOf 23 = .ok (.iinc 3 1, 3) := by decide +kernel
theorem dX4_totalOf_26 : decode cX4_totalOf 26 = .ok (.goto (-22), 3) := by decide +kernel
theorem dX4_totalOf_29 : decode cX4_totalOf 29 = .ok (.iload_n 2, 1) := by decide +kernel
theorem dX4_totalOf_30 : decode cX4_totalOf 30 = .ok (.ireturn, 1) := by decide +kernel
theorem dX4_marked_0 : decode cX4_marked 0 = .ok (.iconst 0, 1) := by decide +kernel
theorem dX4_marked_1 : decode cX4_marked 1 = .ok (.istore_n 1, 1) := by decide +kernel
theorem dX4_marked_2 : decode cX4_marked 2 = .ok (.iconst 0, 1) := by decide +kernel
theorem dX4_marked_3 : decode cX4_marked 3 = .ok (.istore_n 2, 1) := by decide +kernel
theorem dX4_marked_4 : decode cX4_marked 4 = .ok (.iload_n 2, 1) := by decide +kernel
theorem dX4_marked_5 : decode cX4_marked 5 = .ok (.aload_n 0, 1) := by decide +kernel
theorem dX4_marked_6 : decode cX4_marked 6 = .ok (.getfield 9, 3) := by decide +kernel
theorem dX4_marked_9 : decode cX4_marked 9 = .ok (.if_icmp .ge 44, 3) := by decide +kernel
theorem dX4_marked_12 : decode cX4_marked 12 = .ok (.aload_n 0, 1) := by decide +kernel
theorem dX4_marked_13 : decode cX4_marked 13 = .ok (.getfield 33, 3) := by decide +kernel
theorem dX4_marked_16 : decode cX4_marked 16 = .ok (.iconst 0, 1) := by decide +kernel
theorem dX4_marked_17 : decode cX4_marked 17 = .ok (.aaload, 1) := by decide +kernel
theorem dX4_marked_18 : decode cX4_marked 18 = .ok (.iload_n 2, 1) := by decide +kernel
theorem dX4_marked_19 : decode cX4_marked 19 = .ok (.iaload, 1) := by decide +kernel
theorem dX4_marked_20 : decode cX4_marked 20 = .ok (.aload_n 0, 1) := by decide +kernel
theorem dX4_marked_21 : decode cX4_marked 21 = .ok (.getfield 33, 3) := by decide +kernel
theorem dX4_marked_24 : decode cX4_marked 24 = .ok (.iconst 1, 1) := by decide +kernel
theorem dX4_marked_25 : decode cX4_marked 25 = .ok (.aaload, 1) := by decide +kernel
theorem dX4_marked_26 : decode cX4_marked 26 = .ok (.iload_n 2, 1) := by decide +kernel
theorem dX4_marked_27 : decode cX4_marked 27 = .ok (.iaload, 1) := by decide +kernel
theorem dX4_marked_28 : decode cX4_marked 28 = .ok (.iadd, 1) := by decide +kernel
theorem dX4_marked_29 : decode cX4_marked 29 = .ok (.aload_n 0, 1) := by decide +kernel
theorem dX4_marked_30 : decode cX4_marked 30 = .ok (.getfield 33, 3) := by decide +kernel
theorem dX4_marked_33 : decode cX4_marked 33 = .ok (.iconst 2, 1) := by decide +kernel
theorem dX4_marked_34 : decode cX4_marked 34 = .ok (.aaload, 1) := by decide +kernel
theorem dX4_marked_35 : decode cX4_marked 35 = .ok (.iload_n 2, 1) := by decide +kernel
theorem dX4_marked_36 : decode cX4_marked 36 = .ok (.iaload, 1) := by decide +kernel
theorem dX4_marked_37 : decode cX4_marked 37 = .ok (.iadd, 1) := by decide +kernel
theorem dX4_marked_38 : decode cX4_marked 38 = .ok (.ifCond .le 9, 3) := by decide +kernel
theorem dX4_marked_41 : decode cX4_marked 41 = .ok (.iload_n 1, 1) := by decide +kernel
theorem dX4_marked_42 : decode cX4_marked 42 = .ok (.iconst 1, 1) := by decide +kernel
theorem dX4_marked_43 : decode cX4_marked 43 = .ok (.iload_n 2, 1) := by decide +kernel
theorem dX4_marked_44 : decode cX4_marked 44 = .ok (.ishl, 1) := by decide +kernel
theorem dX4_marked_45 : decode cX4_marked 45 = .ok (.ior, 1) := by decide +kernel
theorem dX4_marked_46 : decode cX4_marked 46 = .ok (.istore_n 1, 1) := by decide +kernel
theorem dX4_marked_47 : decode cX4_marked 47 = .ok (.iinc 2 1, 3) := by decide +kernel
theorem dX4_marked_50 : decode cX4_marked 50 = .ok (.goto (-46), 3) := by decide +kernel
theorem dX4_marked_53 : decode cX4_marked 53 = .ok (.iload_n 1, 1) := by decide +kernel
theorem dX4_marked_54 : decode cX4_marked 54 = .ok (.ireturn, 1) := by decide +kernel
theorem dX4_pathNumber_0 : decode cX4_pathNumber 0 = .ok (.iconst 0, 1) := by decide +kernel
theorem dX4_pathNumber_1 : decode cX4_pathNumber 1 = .ok (.istore_n 1, 1) := by decide +kernel
theorem dX4_pathNumber_2 : decode cX4_pathNumber 2 = .ok (.iconst 0, 1) := by decide +kernel
theorem dX4_pathNumber_3 : decode cX4_pathNumber 3 = .ok (.istore_n 2, 1) := by decide +kernel
theorem dX4_pathNumber_4 : decode cX4_pathNumber 4 = .ok (.iload_n 2, 1) := by decide +kernel
theorem dX4_pathNumber_5 : decode cX4_pathNumber 5 = .ok (.aload_n 0, 1) := by decide +kernel
theorem dX4_pathNumber_6 : decode cX4_pathNumber 6 = .ok (.getfield 9, 3) := by decide +kernel
theorem dX4_pathNumber_9 : decode cX4_pathNumber 9 = .ok (.if_icmp .ge 21, 3) := by decide +kernel
theorem dX4_pathNumber_12 : decode cX4_pathNumber 12 = .ok (.iload_n 1, 1) := by decide +kernel
theorem dX4_pathNumber_13 : decode cX4_pathNumber 13 = .ok (.aload_n 0, 1) := by decide +kernel
theorem dX4_pathNumber_14 : decode cX4_pathNumber 14 = .ok (.getfield 28, 3) := by decide +kernel
theorem dX4_pathNumber_17 : decode cX4_pathNumber 17 = .ok (.iload_n 2, 1) := by decide +kernel
theorem dX4_pathNumber_18 : decode cX4_pathNumber 18 = .ok (.iaload, 1) := by decide +kernel
theorem dX4_pathNumber_19 : decode cX4_pathNumber 19 = .ok (.invokestatic 92, 3) := by decide +kernel
theorem dX4_pathNumber_22 : decode cX4_pathNumber 22 = .ok (.iadd, 1) := by decide +kernel
theorem dX4_pathNumber_23 : decode cX4_pathNumber 23 = .ok (.istore_n 1, 1) := by decide +kernel
theorem dX4_pathNumber_24 : decode cX4_pathNumber 24 = .ok (.iinc 2 1, 3) := by decide +kernel
theorem dX4_pathNumber_27 : decode cX4_pathNumber 27 = .ok (.goto (-23), 3) := by decide +kernel
theorem dX4_pathNumber_30 : decode cX4_pathNumber 30 = .ok (.iload_n 1, 1) := by decide +kernel
theorem dX4_pathNumber_31 : decode cX4_pathNumber 31 = .ok (.iconst 2, 1) := by decide +kernel
theorem dX4_pathNumber_32 : decode cX4_pathNumber 32 = .ok (.idiv, 1) := by decide +kernel
theorem dX4_pathNumber_33 : decode cX4_pathNumber 33 = .ok (.ireturn, 1) := by decide +kernel
theorem dX4_digestOn_0 : decode cX4_digestOn 0 = .ok (.lload_n 1, 1) := by decide +kernel
theorem dX4_digestOn_1 : decode cX4_digestOn 1 = .ok (.lstore_n 3, 1) := by decide +kernel
theorem dX4_digestOn_2 : decode cX4_digestOn 2 = .ok (.iconst 0, 1) := by decide +kernel
theorem dX4_digestOn_3 : decode cX4_digestOn 3 = .ok (.istore 5, 2) := by decide +kernel
theorem dX4_digestOn_5 : decode cX4_digestOn 5 = .ok (.iload 5, 2) := by decide +kernel
theorem dX4_digestOn_7 : decode cX4_digestOn 7 = .ok (.iconst 3, 1) := by decide +kernel
theorem dX4_digestOn_8 : decode cX4_digestOn 8 = .ok (.if_icmp .ge 24, 3) := by decide +kernel
theorem dX4_digestOn_11 : decode cX4_digestOn 11 = .ok (.ldc2_w 97, 3) := by decide +kernel
theorem dX4_digestOn_14 : decode cX4_digestOn 14 = .ok (.lload_n 3, 1) := by decide +kernel
theorem dX4_digestOn_15 : decode cX4_digestOn 15 = .ok (.lmul, 1) := by decide +kernel
theorem dX4_digestOn_16 : decode cX4_digestOn 16 = .ok (.aload_n 0, 1) := by decide +kernel
theorem dX4_digestOn_17 : decode cX4_digestOn 17 = .ok (.getfield 42, 3) := by decide +kernel
theorem dX4_digestOn_20 : decode cX4_digestOn 20 = .ok (.iload 5, 2) := by decide +kernel
theorem dX4_digestOn_22 : decode cX4_digestOn 22 = .ok (.iaload, 1) := by decide +kernel
theorem dX4_digestOn_23 : decode cX4_digestOn 23 = .ok (.i2l, 1) := by decide +kernel
theorem dX4_digestOn_24 : decode cX4_digestOn 24 = .ok (.ladd, 1) := by decide +kernel
theorem dX4_digestOn_25 : decode cX4_digestOn 25 = .ok (.lstore_n 3, 1) := by decide +kernel
theorem dX4_digestOn_26 : decode cX4_digestOn 26 = .ok (.iinc 5 1, 3) := by decide +kernel
theorem dX4_digestOn_29 : decode cX4_digestOn 29 = .ok (.goto (-24), 3) := by decide +kernel
theorem dX4_digestOn_32 : decode cX4_digestOn 32 = .ok (.iconst 0, 1) := by decide +kernel
theorem dX4_digestOn_33 : decode cX4_digestOn 33 = .ok (.istore 5, 2) := by decide +kernel
theorem dX4_digestOn_35 : decode cX4_digestOn 35 = .ok (.iload 5, 2) := by decide +kernel
theorem dX4_digestOn_37 : decode cX4_digestOn 37 = .ok (.aload_n 0, 1) := by decide +kernel
theorem dX4_digestOn_38 : decode cX4_digestOn 38 = .ok (.getfield 9, 3) := by decide +kernel
theorem dX4_digestOn_41 : decode cX4_digestOn 41 = .ok (.if_icmp .ge 41, 3) := by decide +kernel
theorem dX4_digestOn_44 : decode cX4_digestOn 44 = .ok (.iconst 0, 1) := by decide +kernel
theorem dX4_digestOn_45 : decode cX4_digestOn 45 = .ok (.istore 6, 2) := by decide +kernel
theorem dX4_digestOn_47 : decode cX4_digestOn 47 = .ok (.iload 6, 2) := by decide +kernel
theorem dX4_digestOn_49 : decode cX4_digestOn 49 = .ok (.bipush 6, 2) := by decide +kernel
theorem dX4_digestOn_51 : decode cX4_digestOn 51 = .ok (.if_icmp .ge 25, 3) := by decide +kernel
theorem dX4_digestOn_54 : decode cX4_digestOn 54 = .ok (.ldc2_w 97, 3) := by decide +kernel
theorem dX4_digestOn_57 : decode cX4_digestOn 57 = .ok (.lload_n 3, 1) := by decide +kernel
theorem dX4_digestOn_58 : decode cX4_digestOn 58 = .ok (.lmul, 1) := by decide +kernel
theorem dX4_digestOn_59 : decode cX4_digestOn 59 = .ok (.aload_n 0, 1) := by decide +kernel
theorem dX4_digestOn_60 : decode cX4_digestOn 60 = .ok (.iload 5, 2) := by decide +kernel
theorem dX4_digestOn_62 : decode cX4_digestOn 62 = .ok (.iload 6, 2) := by decide +kernel
theorem dX4_digestOn_64 : decode cX4_digestOn 64 = .ok (.invokevirtual 99, 3) := by decide +kernel
theorem dX4_digestOn_67 : decode cX4_digestOn 67 = .ok (.i2l, 1) := by decide +kernel
theorem dX4_digestOn_68 : decode cX4_digestOn 68 = .ok (.ladd, 1) := by decide +kernel
theorem dX4_digestOn_69 : decode cX4_digestOn 69 = .ok (.lstore_n 3, 1) := by decide +kernel
theorem dX4_digestOn_70 : decode cX4_digestOn 70 = .ok (.iinc 6 1, 3) := by decide +kernel
theorem dX4_digestOn_73 : decode cX4_digestOn 73 = .ok (.goto (-26), 3) := by decide +kernel
theorem dX4_digestOn_76 : decode cX4_digestOn 76 = .ok (.iinc 5 1, 3) := by decide +kernel
theorem dX4_digestOn_79 : decode cX4_digestOn 79 = .ok (.goto (-44), 3) := by decide +kernel
theorem dX4_digestOn_82 : decode cX4_digestOn 82 = .ok (.iconst 0, 1) := by decide +kernel
theorem dX4_digestOn_83 : decode cX4_digestOn 83 = .ok (.istore 5, 2) := by decide +kernel
theorem dX4_digestOn_85 : decode cX4_digestOn 85 = .ok (.iload 5, 2) := by decide +kernel
theorem dX4_digestOn_87 : decode cX4_digestOn 87 = .ok (.aload_n 0, 1) := by decide +kernel
theorem dX4_digestOn_88 : decode cX4_digestOn 88 = .ok (.getfield 15, 3) := by decide +kernel
theorem dX4_digestOn_91 : decode cX4_digestOn 91 = .ok (.if_icmp .ge 24, 3) := by decide +kernel
theorem dX4_digestOn_94 : decode cX4_digestOn 94 = .ok (.ldc2_w 97, 3) := by decide +kernel
theorem dX4_digestOn_97 : decode cX4_digestOn 97 = .ok (.lload_n 3, 1) := by decide +kernel
theorem dX4_digestOn_98 : decode cX4_digestOn 98 = .ok (.lmul, 1) := by decide +kernel
theorem dX4_digestOn_99 : decode cX4_digestOn 99 = .ok (.aload_n 0, 1) := by decide +kernel
theorem dX4_digestOn_100 : decode cX4_digestOn 100 = .ok (.getfield 39, 3) := by decide +kernel
theorem dX4_digestOn_103 : decode cX4_digestOn 103 = .ok (.iload 5, 2) := by decide +kernel
theorem dX4_digestOn_105 : decode cX4_digestOn 105 = .ok (.iaload, 1) := by decide +kernel
theorem dX4_digestOn_106 : decode cX4_digestOn 106 = .ok (.i2l, 1) := by decide +kernel
theorem dX4_digestOn_107 : decode cX4_digestOn 107 = .ok (.ladd, 1) := by decide +kernel
theorem dX4_digestOn_108 : decode cX4_digestOn 108 = .ok (.lstore_n 3, 1) := by decide +kernel
theorem dX4_digestOn_109 : decode cX4_digestOn 109 = .ok (.iinc 5 1, 3) := by decide +kernel
theorem dX4_digestOn_112 : decode cX4_digestOn 112 = .ok (.goto (-27), 3) := by decide +kernel
theorem dX4_digestOn_115 : decode cX4_digestOn 115 = .ok (.iconst 0, 1) := by decide +kernel
theorem dX4_digestOn_116 : decode cX4_digestOn 116 = .ok (.istore 5, 2) := by decide +kernel
theorem dX4_digestOn_118 : decode cX4_digestOn 118 = .ok (.iload 5, 2) := by decide +kernel
theorem dX4_digestOn_120 : decode cX4_digestOn 120 = .ok (.aload_n 0, 1) := by decide +kernel
theorem dX4_digestOn_121 : decode cX4_digestOn 121 = .ok (.getfield 18, 3) := by decide +kernel
theorem dX4_digestOn_124 : decode cX4_digestOn 124 = .ok (.if_icmp .gt 31, 3) := by decide +kernel
theorem dX4_digestOn_127 : decode cX4_digestOn 127 = .ok (.aload_n 0, 1) := by decide +kernel
theorem dX4_digestOn_128 : decode cX4_digestOn 128 = .ok (.invokevirtual 103, 3) := by decide +kernel
theorem dX4_digestOn_131 : decode cX4_digestOn 131 = .ok (.ifCond .ne 24, 3) := by decide +kernel
theorem dX4_digestOn_134 : decode cX4_digestOn 134 = .ok (.ldc2_w 97, 3) := by decide +kernel
theorem dX4_digestOn_137 : decode cX4_digestOn 137 = .ok (.lload_n 3, 1) := by decide +kernel
theorem dX4_digestOn_138 : decode cX4_digestOn 138 = .ok (.lmul, 1) := by decide +kernel
theorem dX4_digestOn_139 : decode cX4_digestOn 139 = .ok (.aload_n 0, 1) := by decide +kernel
theorem dX4_digestOn_140 : decode cX4_digestOn 140 = .ok (.getfield 45, 3) := by decide +kernel
theorem dX4_digestOn_143 : decode cX4_digestOn 143 = .ok (.iload 5, 2) := by decide +kernel
theorem dX4_digestOn_145 : decode cX4_digestOn 145 = .ok (.iaload, 1) := by decide +kernel
theorem dX4_digestOn_146 : decode cX4_digestOn 146 = .ok (.i2l, 1) := by decide +kernel
theorem dX4_digestOn_147 : decode cX4_digestOn 147 = .ok (.ladd, 1) := by decide +kernel
theorem dX4_digestOn_148 : decode cX4_digestOn 148 = .ok (.lstore_n 3, 1) := by decide +kernel
theorem dX4_digestOn_149 : decode cX4_digestOn 149 = .ok (.iinc 5 1, 3) := by decide +kernel
theorem dX4_digestOn_152 : decode cX4_digestOn 152 = .ok (.goto (-34), 3) := by decide +kernel
theorem dX4_digestOn_155 : decode cX4_digestOn 155 = .ok (.lload_n 3, 1) := by decide +kernel
theorem dX4_digestOn_156 : decode cX4_digestOn 156 = .ok (.lreturn, 1) := by decide +kernel
theorem dX5_init_0 : decode cX5_init 0 = .ok (.aload_n 0, 1) := by decide +kernel
theorem dX5_init_1 : decode cX5_init 1 = .ok (.invokespecial 1, 3) := by decide +kernel
theorem dX5_init_4 : decode cX5_init 4 = .ok (.aload_n 0, 1) := by decide +kernel
theorem dX5_init_5 : decode cX5_init 5 = .ok (.bipush 6, 2) := by decide +kernel
theorem dX5_init_7 : decode cX5_init 7 = .ok (.anewarray 9, 3) := by decide +kernel
theorem dX5_init_10 : decode cX5_init 10 = .ok (.putfield 11, 3) := by decide +kernel
theorem dX5_init_13 : decode cX5_init 13 = .ok (.aload_n 0, 1) := by decide +kernel
theorem dX5_init_14 : decode cX5_init 14 = .ok (.iconst 4, 1) := by decide +kernel
theorem dX5_init_15 : decode cX5_init 15 = .ok (.anewarray 9, 3) := by decide +kernel
theorem dX5_init_18 : decode cX5_init 18 = .ok (.putfield 15, 3) := by decide +kernel
theorem dX5_init_21 : decode cX5_init 21 = .ok (.aload_n 0, 1) := by decide +kernel
theorem dX5_init_22 : decode cX5_init 22 = .ok (.new 18, 3) := by decide +kernel
theorem dX5_init_25 : decode cX5_init 25 = .ok (.dup, 1) := by decide +kernel
theorem dX5_init_26 : decode cX5_init 26 = .ok (.invokespecial 20, 3) := by decide +kernel
theorem dX5_init_29 : decode cX5_init 29 = .ok (.putfield 21, 3) := by decide +kernel
theorem dX5_init_32 : decode cX5_init 32 = .ok (.aload_n 0, 1) := by decide +kernel
theorem dX5_init_33 : decode cX5_init 33 = .ok (.iconst 3, 1) := by decide +kernel
theorem dX5_init_34 : decode cX5_init 34 = .ok (.anewarray 18, 3) := by decide +kernel
theorem dX5_init_37 : decode cX5_init 37 = .ok (.putfield 25, 3) := by decide +kernel
theorem dX5_init_40 : decode cX5_init 40 = .ok (.aload_n 0, 1) := by decide +kernel
theorem dX5_init_41 : decode cX5_init 41 = .ok (.new 18, 3) := by decide +kernel
theorem dX5_init_44 : decode cX5_init 44 = .ok (.dup, 1) := by decide +kernel
theorem dX5_init_45 : decode cX5_init 45 = .ok (.invokespecial 20, 3) := by decide +kernel
theorem dX5_init_48 : decode cX5_init 48 = .ok (.putfield 29, 3) := by decide +kernel
theorem dX5_init_51 : decode cX5_init 51 = .ok (.aload_n 0, 1) := by decide +kernel
theorem dX5_init_52 : decode cX5_init 52 = .ok (.new 32, 3) := by decide +kernel
theorem dX5_init_55 : decode cX5_init 55 = .ok (.dup, 1) := by decide +kernel
theorem dX5_init_56 : decode cX5_init 56 = .ok (.invokespecial 34, 3) := by decide +kernel
theorem dX5_init_59 : decode cX5_init 59 = .ok (.putfield 35, 3) := by decide +kernel
theorem dX5_init_62 : decode cX5_init 62 = .ok (.aload_n 0, 1) := by decide +kernel
theorem dX5_init_63 : decode cX5_init 63 = .ok (.new 39, 3) := by decide +kernel
theorem dX5_init_66 : decode cX5_init 66 = .ok (.dup, 1) := by decide +kernel
theorem dX5_init_67 : decode cX5_init 67 = .ok (.invokespecial 41, 3) := by decide +kernel
theorem dX5_init_70 : decode cX5_init 70 = .ok (.putfield 42, 3) := by decide +kernel
theorem dX5_init_73 : decode cX5_init 73 = .ok (.aload_n 0, 1) := by decide +kernel
theorem dX5_init_74 : decode cX5_init 74 = .ok (.new 46, 3) := by decide +kernel
theorem dX5_init_77 : decode cX5_init 77 = .ok (.dup, 1) := by decide +kernel
theorem dX5_init_78 : decode cX5_init 78 = .ok (.invokespecial 48, 3) := by decide +kernel
theorem dX5_init_81 : decode cX5_init 81 = .ok (.putfield 49, 3) := by decide +kernel
theorem dX5_init_84 : decode cX5_init 84 = .ok (.aload_n 0, 1) := by decide +kernel
theorem dX5_init_85 : decode cX5_init 85 = .ok (.bipush 6, 2) := by decide +kernel
theorem dX5_init_87 : decode cX5_init 87 = .ok (.newarray .int, 2) := by decide +kernel
theorem dX5_init_89 : decode cX5_init 89 = .ok (.putfield 53, 3) := by decide +kernel
theorem dX5_init_92 : decode cX5_init 92 = .ok (.aload_n 0, 1) := by decide +kernel
theorem dX5_init_93 : decode cX5_init 93 = .ok (.iconst 0, 1) := by decide +kernel
theorem dX5_init_94 : decode cX5_init 94 = .ok (.putfield 57, 3) := by decide +kernel
theorem dX5_init_97 : decode cX5_init 97 = .ok (.aload_n 0, 1) := by decide +kernel
theorem dX5_init_98 : decode cX5_init 98 = .ok (.iconst 0, 1) := by decide +kernel
theorem dX5_init_99 : decode cX5_init 99 = .ok (.putfield 61, 3) := by decide +kernel
theorem dX5_init_102 : decode cX5_init 102 = .ok (.aload_n 0, 1) := by decide +kernel
theorem dX5_init_103 : decode cX5_init 103 = .ok (.lconst 0, 1) := by decide +kernel
theorem dX5_init_104 : decode cX5_init 104 = .ok (.putfield 64, 3) := by decide +kernel
theorem dX5_init_107 : decode cX5_init 107 = .ok (.aload_n 0, 1) := by decide +kernel
theorem dX5_init_108 : decode cX5_init 108 = .ok (.lconst 1, 1) := by decide +kernel
theorem dX5_init_109 : decode cX5_init 109 = .ok (.putfield 68, 3) := by decide +kernel
theorem dX5_init_112 : decode cX5_init 112 = .ok (.iconst 0, 1) := by decide +kernel
theorem dX5_init_113 : decode cX5_init 113 = .ok (.istore_n 1, 1) := by decide +kernel
theorem dX5_init_114 : decode cX5_init 114 = .ok (.iload_n 1, 1) := by decide +kernel
theorem dX5_init_115 : decode cX5_init 115 = .ok (.bipush 6, 2) := by decide +kernel
theorem dX5_init_117 : decode cX5_init 117 = .ok (.if_icmp .ge 24, 3) := by decide +kernel
theorem dX5_init_120 : decode cX5_init 120 = .ok (.aload_n 0, 1) := by decide +kernel
theorem dX5_init_121 : decode cX5_init 121 = .ok (.getfield 11, 3) := by decide +kernel
theorem dX5_init_124 : decode cX5_init 124 = .ok (.iload_n 1, 1) := by decide +kernel
theorem dX5_init_125 : decode cX5_init 125 = .ok (.new 9, 3) := by decide +kernel
theorem dX5_init_128 : decode cX5_init 128 = .ok (.dup, 1) := by decide +kernel
theorem dX5_init_129 : decode cX5_init 129 = .ok (.bipush 40, 2) := by decide +kernel
theorem dX5_init_131 : decode cX5_init 131 = .ok (.invokespecial 71, 3) := by decide +kernel
theorem dX5_init_134 : decode cX5_init 134 = .ok (.aastore, 1) := by decide +kernel
theorem dX5_init_135 : decode cX5_init 135 = .ok (.iinc 1 1, 3) := by decide +kernel
theorem dX5_init_138 : decode cX5_init 138 = .ok (.goto (-24), 3) := by decide +kernel
theorem dX5_init_141 : decode cX5_init 141 = .ok (.iconst 0, 1) := by decide +kernel
theorem dX5_init_142 : decode cX5_init 142 = .ok (.istore_n 1, 1) := by decide +kernel
theorem dX5_init_143 : decode cX5_init 143 = .ok (.iload_n 1, 1) := by decide +kernel
theorem dX5_init_144 : decode cX5_init 144 = .ok (.iconst 4, 1) := by decide +kernel
theorem dX5_init_145 : decode cX5_init 145 = .ok (.if_icmp .ge 24, 3) := by decide +kernel
theorem dX5_init_148 : decode cX5_init 148 = .ok (.aload_n 0, 1) := by decide +kernel
theorem dX5_init_149 : decode cX5_init 149 = .ok (.getfield 15, 3) := by decide +kernel
theorem dX5_init_152 : decode cX5_init 152 = .ok (.iload_n 1, 1) := by decide +kernel
theorem dX5_init_153 : decode cX5_init 153 = .ok (.new 9, 3) := by decide +kernel
theorem dX5_init_156 : decode cX5_init 156 = .ok (.dup, 1) := by decide +kernel
theorem dX5_init_157 : decode cX5_init 157 = .ok (.bipush 80, 2) := by decide +kernel
theorem dX5_init_159 : decode cX5_init 159 = .ok (.invokespecial 71, 3) := by decide +kernel
theorem dX5_init_162 : decode cX5_init 162 = .ok (.aastore, 1) := by decide +kernel
theorem dX5_init_163 : decode cX5_init 163 = .ok (.iinc 1 1, 3) := by decide +kernel
theorem dX5_init_166 : decode cX5_init 166 = .ok (.goto (-23), 3) := by decide +kernel
theorem dX5_init_169 : decode cX5_init 169 = .ok (.iconst 0, 1) := by decide +kernel
theorem dX5_init_170 : decode cX5_init 170 = .ok (.istore_n 1, 1) := by decide +kernel
theorem dX5_init_171 : decode cX5_init 171 = .ok (.iload_n 1, 1) := by decide +kernel
theorem dX5_init_172 : decode cX5_init 172 = .ok (.iconst 3, 1) := by decide +kernel
theorem dX5_init_173 : decode cX5_init 173 = .ok (.if_icmp .ge 22, 3) := by decide +kernel
theorem dX5_init_176 : decode cX5_init 176 = .ok (.aload_n 0, 1) := by decide +kernel
theorem dX5_init_177 : decode cX5_init 177 = .ok (.getfield 25, 3) := by decide +kernel
theorem dX5_init_180 : decode cX5_init 180 = .ok (.iload_n 1, 1) := by decide +kernel
theorem dX5_init_181 : decode cX5_init 181 = .ok (.new 18, 3) := by decide +kernel
theorem dX5_init_184 : decode cX5_init 184 = .ok (.dup, 1) := by decide +kernel
theorem dX5_init_185 : decode cX5_init 185 = .ok (.invokespecial 20, 3) := by decide +kernel
theorem dX5_init_188 : decode cX5_init 188 = .ok (.aastore, 1) := by decide +kernel
theorem dX5_init_189 : decode cX5_init 189 = .ok (.iinc 1 1, 3) := by decide +kernel
theorem dX5_init_192 : decode cX5_init 192 = .ok (.goto (-21), 3) := by decide +kernel
theorem dX5_init_195 : decode cX5_init 195 = .ok (.return_, 1) := by decide +kernel
theorem dX5_row_0 : decode cX5_row 0 = .ok (.iload_n 1, 1) := by decide +kernel
theorem dX5_row_1 : decode cX5_row 1 = .ok (.bipush 6, 2) := by decide +kernel
theorem dX5_row_3 : decode cX5_row 3 = .ok (.invokestatic 74, 3) := by decide +kernel
theorem dX5_row_6 : decode cX5_row 6 = .ok (.ifCond .eq 9, 3) := by decide +kernel
theorem dX5_row_9 : decode cX5_row 9 = .ok (.iload_n 2, 1) := by decide +kernel
theorem dX5_row_10 : decode cX5_row 10 = .ok (.bipush 40, 2) := by decide +kernel
theorem dX5_row_12 : decode cX5_row 12 = .ok (.if_icmp .le 5, 3) := by decide +kernel
theorem dX5_row_15 : decode cX5_row 15 = .ok (.iconst (-1), 1) := by decide +kernel
theorem dX5_row_16 : decode cX5_row 16 = .ok (.ireturn, 1) := by decide +kernel
theorem dX5_row_17 : decode cX5_row 17 = .ok (.iload_n 2, 1) := by decide +kernel
theorem dX5_row_18 : decode cX5_row 18 = .ok (.ifCond .ge 9, 3) := by decide +kernel
theorem dX5_row_21 : decode cX5_row 21 = .ok (.aload_n 0, 1) := by decide +kernel
theorem dX5_row_22 : decode cX5_row 22 = .ok (.iconst 5, 1) := by decide +kernel
theorem dX5_row_23 : decode cX5_row 23 = .ok (.invokevirtual 78, 3) := by decide +kernel
theorem dX5_row_26 : decode cX5_row 26 = .ok (.ireturn, 1) := by decide +kernel
theorem dX5_row_27 : decode cX5_row 27 = .ok (.aload_n 0, 1) := by decide +kernel
theorem dX5_row_28 : decode cX5_row 28 = .ok (.getfield 11, 3) := by decide +kernel
theorem dX5_row_31 : decode cX5_row 31 = .ok (.iload_n 1, 1) := by decide +kernel
theorem dX5_row_32 : decode cX5_row 32 = .ok (.aaload, 1) := by decide +kernel
theorem dX5_row_33 : decode cX5_row 33 = .ok (.iload_n 2, 1) := by decide +kernel
theorem dX5_row_34 : decode cX5_row 34 = .ok (.iconst 0, 1) := by decide +kernel
theorem dX5_row_35 : decode cX5_row 35 = .ok (.invokevirtual 82, 3) := by decide +kernel
theorem dX5_row_38 : decode cX5_row 38 = .ok (.iload_n 2, 1) := by decide +kernel
theorem dX5_row_39 : decode cX5_row 39 = .ok (.ireturn, 1) := by decide +kernel
theorem dX5_lay_0 : decode cX5_lay 0 = .ok (.iload_n 1, 1) := by decide +kernel
theorem dX5_lay_1 : decode cX5_lay 1 = .ok (.bipush 6, 2) := by decide +kernel
theorem dX5_lay_3 : decode cX5_lay 3 = .ok (.invokestatic 74, 3) := by decide +kernel
theorem dX5_lay_6 : decode cX5_lay 6 = .ok (.ifCond .ne 5, 3) := by decide +kernel
theorem dX5_lay_9 : decode cX5_lay 9 = .ok (.iconst (-1), 1) := by decide +kernel
theorem dX5_lay_10 : decode cX5_lay 10 = .ok (.ireturn, 1) := by decide +kernel
theorem dX5_lay_11 : decode cX5_lay 11 = .ok (.aload_n 0, 1) := by decide +kernel
theorem dX5_lay_12 : decode cX5_lay 12 = .ok (.getfield 11, 3) := by decide +kernel
theorem dX5_lay_15 : decode cX5_lay 15 = .ok (.iload_n 1, 1) := by decide +kernel
theorem dX5_lay_16 : decode cX5_lay 16 = .ok (.aaload, 1) := by decide +kernel
theorem dX5_lay_17 : decode cX5_lay 17 = .ok (.iload_n 2, 1) := by decide +kernel
theorem dX5_lay_18 : decode cX5_lay 18 = .ok (.invokevirtual 86, 3) := by decide +kernel
theorem dX5_lay_21 : decode cX5_lay 21 = .ok (.istore 4, 2) := by decide +kernel
theorem dX5_lay_23 : decode cX5_lay 23 = .ok (.iload 4, 2) := by decide +kernel
theorem dX5_lay_25 : decode cX5_lay 25 = .ok (.ifCond .eq 10, 3) := by decide +kernel
theorem dX5_lay_28 : decode cX5_lay 28 = .ok (.aload_n 0, 1) := by decide +kernel
theorem dX5_lay_29 : decode cX5_lay 29 = .ok (.iload 4, 2) := by decide +kernel
theorem dX5_lay_31 : decode cX5_lay 31 = .ok (.invokevirtual 78, 3) := by decide +kernel
theorem dX5_lay_34 : decode cX5_lay 34 = .ok (.ireturn, 1) := by decide +kernel
theorem dX5_lay_35 : decode cX5_lay 35 = .ok (.aload_n 0, 1) := by decide +kernel
theorem dX5_lay_36 : decode cX5_lay 36 = .ok (.aload_n 0, 1) := by decide +kernel
theorem dX5_lay_37 : decode cX5_lay 37 = .ok (.getfield 11, 3) := by decide +kernel
theorem dX5_lay_40 : decode cX5_lay 40 = .ok (.iload_n 1, 1) := by decide +kernel
theorem dX5_lay_41 : decode cX5_lay 41 = .ok (.aaload, 1) := by decide +kernel
theorem dX5_lay_42 : decode cX5_lay 42 = .ok (.getfield 89, 3) := by decide +kernel
theorem dX5_lay_45 : decode cX5_lay 45 = .ok (.iload_n 2, 1) := by decide +kernel
theorem dX5_lay_46 : decode cX5_lay 46 = .ok (.iaload, 1) := by decide +kernel
theorem dX5_lay_47 : decode cX5_lay 47 = .ok (.putfield 61, 3) := by decide +kernel
theorem dX5_lay_50 : decode cX5_lay 50 = .ok (.aload_n 0, 1) := by decide +kernel
theorem dX5_lay_51 : decode cX5_lay 51 = .ok (.getfield 11, 3) := by decide +kernel
theorem dX5_lay_54 : decode cX5_lay 54 = .ok (.iload_n 1, 1) := by decide +kernel
theorem dX5_lay_55 : decode cX5_lay 55 = .ok (.aaload, 1) := by decide +kernel
theorem dX5_lay_56 : decode cX5_lay 56 = .ok (.getfield 89, 3) := by decide +kernel
theorem dX5_lay_59 : decode cX5_lay 59 = .ok (.iload_n 2, 1) := by decide +kernel
theorem dX5_lay_60 : decode cX5_lay 60 = .ok (.iload_n 3, 1) := by decide +kernel
theorem dX5_lay_61 : decode cX5_lay 61 = .ok (.iastore, 1) := by decide +kernel
theorem dX5_lay_62 : decode cX5_lay 62 = .ok (.iconst 1, 1) := by decide +kernel
theorem dX5_lay_63 : decode cX5_lay 63 = .ok (.ireturn, 1) := by decide +kernel
theorem dX5_at_0 : decode cX5_at 0 = .ok (.iload_n 1, 1) := by decide +kernel
theorem dX5_at_1 : decode cX5_at 1 = .ok (.bipush 6, 2) := by decide +kernel
theorem dX5_at_3 : decode cX5_at 3 = .ok (.invokestatic 74, 3) := by decide +kernel
theorem dX5_at_6 : decode cX5_at 6 = .ok (.ifCond .ne 5, 3) := by decide +kernel
theorem dX5_at_9 : decode cX5_at 9 = .ok (.iconst (-1), 1) := by decide +kernel
theorem dX5_at_10 : decode cX5_at 10 = .ok (.ireturn, 1) := by decide +kernel
theorem dX5_at_11 : decode cX5_at 11 = .ok (.aload_n 0, 1) := by decide +kernel
theorem dX5_at_12 : decode cX5_at 12 = .ok (.getfield 11, 3) := by decide +kernel
theorem dX5_at_15 : decode cX5_at 15 = .ok (.iload_n 1, 1) := by decide +kernel
theorem dX5_at_16 : decode cX5_at 16 = .ok (.aaload, 1) := by decide +kernel
theorem dX5_at_17 : decode cX5_at 17 = .ok (.iload_n 2, 1) := by decide +kernel
theorem dX5_at_18 : decode cX5_at 18 = .ok (.invokevirtual 86, 3) := by decide +kernel
theorem dX5_at_21 : decode cX5_at 21 = .ok (.istore_n 3, 1) := by decide +kernel
theorem dX5_at_22 : decode cX5_at 22 = .ok (.iload_n 3, 1) := by decide +kernel
theorem dX5_at_23 : decode cX5_at 23 = .ok (.ifCond .eq 9, 3) := by decide +kernel
theorem dX5_at_26 : decode cX5_at 26 = .ok (.aload_n 0, 1) := by decide +kernel
theorem dX5_at_27 : decode cX5_at 27 = .ok (.iload_n 3, 1) := by decide +kernel
theorem dX5_at_28 : decode cX5_at 28 = .ok (.invokevirtual 78, 3) := by decide +kernel
theorem dX5_at_31 : decode cX5_at 31 = .ok (.ireturn, 1) := by decide +kernel
theorem dX5_at_32 : decode cX5_at 32 = .ok (.aload_n 0, 1) := by decide +kernel
theorem dX5_at_33 : decode cX5_at 33 = .ok (.aload_n 0, 1) := by decide +kernel
theorem dX5_at_34 : decode cX5_at 34 = .ok (.getfield 11, 3) := by decide +kernel
theorem dX5_at_37 : decode cX5_at 37 = .ok (.iload_n 1, 1) := by decide +kernel
theorem dX5_at_38 : decode cX5_at 38 = .ok (.aaload, 1) := by decide +kernel
theorem dX5_at_39 : decode cX5_at 39 = .ok (.getfield 89, 3) := by decide +kernel
theorem dX5_at_42 : decode cX5_at 42 = .ok (.iload_n 2, 1) := by decide +kernel
theorem dX5_at_43 : decode cX5_at 43 = .ok (.iaload, 1) := by decide +kernel
theorem dX5_at_44 : decode cX5_at 44 = .ok (.putfield 61, 3) := by decide +kernel
theorem dX5_at_47 : decode cX5_at 47 = .ok (.iconst 1, 1) := by decide +kernel
theorem dX5_at_48 : decode cX5_at 48 = .ok (.ireturn, 1) := by decide +kernel
theorem dX5_tear_0 : decode cX5_tear 0 = .ok (.iload_n 1, 1) := by decide +kernel
theorem dX5_tear_1 : decode cX5_tear 1 = .ok (.bipush 6, 2) := by decide +kernel
theorem dX5_tear_3 : decode cX5_tear 3 = .ok (.invokestatic 74, 3) := by decide +kernel
theorem dX5_tear_6 : decode cX5_tear 6 = .ok (.ifCond .ne 5, 3) := by decide +kernel
theorem dX5_tear_9 : decode cX5_tear 9 = .ok (.iconst (-1), 1) := by decide +kernel
theorem dX5_tear_10 : decode cX5_tear 10 = .ok (.ireturn, 1) := by decide +kernel
theorem dX5_tear_11 : decode cX5_tear 11 = .ok (.aload_n 0, 1) := by decide +kernel
theorem dX5_tear_12 : decode cX5_tear 12 = .ok (.getfield 11, 3) := by decide +kernel
theorem dX5_tear_15 : decode cX5_tear 15 = .ok (.iload_n 1, 1) := by decide +kernel
theorem dX5_tear_16 : decode cX5_tear 16 = .ok (.aaload, 1) := by decide +kernel
theorem dX5_tear_17 : decode cX5_tear 17 = .ok (.invokevirtual 92, 3) := by decide +kernel
theorem dX5_tear_20 : decode cX5_tear 20 = .ok (.ifCond .eq 9, 3) := by decide +kernel
theorem dX5_tear_23 : decode cX5_tear 23 = .ok (.aload_n 0, 1) := by decide +kernel
theorem dX5_tear_24 : decode cX5_tear 24 = .ok (.iconst 1, 1) := by decide +kernel
theorem dX5_tear_25 : decode cX5_tear 25 = .ok (.invokevirtual 78, 3) := by decide +kernel
theorem dX5_tear_28 : decode cX5_tear 28 = .ok (.ireturn, 1) := by decide +kernel
theorem dX5_tear_29 : decode cX5_tear 29 = .ok (.aload_n 0, 1) := by decide +kernel
theorem dX5_tear_30 : decode cX5_tear 30 = .ok (.getfield 11, 3) := by decide +kernel
theorem dX5_tear_33 : decode cX5_tear 33 = .ok (.iload_n 1, 1) := by decide +kernel
theorem dX5_tear_34 : decode cX5_tear 34 = .ok (.aaload, 1) := by decide +kernel
theorem dX5_tear_35 : decode cX5_tear 35 = .ok (.iconst (-1), 1) := by decide +kernel
theorem dX5_tear_36 : decode cX5_tear 36 = .ok (.putfield 96, 3) := by decide +kernel
theorem dX5_tear_39 : decode cX5_tear 39 = .ok (.iconst 1, 1) := by decide +kernel
theorem dX5_tear_40 : decode cX5_tear 40 = .ok (.ireturn, 1) := by decide +kernel
theorem dX5_copy_0 : decode cX5_copy 0 = .ok (.iload_n 1, 1) := by decide +kernel
theorem dX5_copy_1 : decode cX5_copy 1 = .ok (.bipush 6, 2) := by decide +kernel
theorem dX5_copy_3 : decode cX5_copy 3 = .ok (.invokestatic 74, 3) := by decide +kernel
theorem dX5_copy_6 : decode cX5_copy 6 = .ok (.ifCond .eq 12, 3) := by decide +kernel
theorem dX5_copy_9 : decode cX5_copy 9 = .ok (.iload_n 3, 1) := by decide +kernel
theorem dX5_copy_10 : decode cX5_copy 10 = .ok (.bipush 6, 2) := by decide +kernel
theorem dX5_copy_12 : decode cX5_copy 12 = .ok (.invokestatic 74, 3) := by decide +kernel
theorem dX5_copy_15 : decode cX5_copy 15 = .ok (.ifCond .ne 5, 3) := by decide +kernel
theorem dX5_copy_18 : decode cX5_copy 18 = .ok (.iconst (-1), 1) := by decide +kernel
theorem dX5_copy_19 : decode cX5_copy 19 = .ok (.ireturn, 1) := by decide +kernel
theorem dX5_copy_20 : decode cX5_copy 20 = .ok (.iload 5, 2) := by decide +kernel
theorem dX5_copy_22 : decode cX5_copy 22 = .ok (.ifCond .ge 9, 3) := by decide +kernel
theorem dX5_copy_25 : decode cX5_copy 25 = .ok (.aload_n 0, 1) := by decide +kernel
theorem dX5_copy_26 : decode cX5_copy 26 = .ok (.iconst 5, 1) := by decide +kernel
theorem dX5_copy_27 : decode cX5_copy 27 = .ok (.invokevirtual 78, 3) := by decide +kernel
theorem dX5_copy_30 : decode cX5_copy 30 = .ok (.ireturn, 1) := by decide +kernel
theorem dX5_copy_31 : decode cX5_copy 31 = .ok (.aload_n 0, 1) := by decide +kernel
theorem dX5_copy_32 : decode cX5_copy 32 = .ok (.getfield 11, 3) := by decide +kernel
theorem dX5_copy_35 : decode cX5_copy 35 = .ok (.iload_n 1, 1) := by decide +kernel
theorem dX5_copy_36 : decode cX5_copy 36 = .ok (.aaload, 1) := by decide +kernel
theorem dX5_copy_37 : decode cX5_copy 37 = .ok (.invokevirtual 92, 3) := by decide +kernel
theorem dX5_copy_40 : decode cX5_copy 40 = .ok (.ifCond .ne 15, 3) := by decide +kernel
theorem dX5_copy_43 : decode cX5_copy 43 = .ok (.aload_n 0, 1) := by decide +kernel
theorem dX5_copy_44 : decode cX5_copy 44 = .ok (.getfield 11, 3) := by decide +kernel
theorem dX5_copy_47 : decode cX5_copy 47 = .ok (.iload_n 3, 1) := by decide +kernel
theorem dX5_copy_48 : decode cX5_copy 48 = .ok (.aaload, 1) := by decide +kernel
theorem dX5_copy_49 : decode cX5_copy 49 = .ok (.invokevirtual 92, 3) := by decide +kernel
theorem dX5_copy_52 : decode cX5_copy 52 = .ok (.ifCond .eq 9, 3) := by decide +kernel
theorem dX5_copy_55 : decode cX5_copy 55 = .ok (.aload_n 0, 1) := by decide +kernel
theorem dX5_copy_56 : decode cX5_copy 56 = .ok (.iconst 1, 1) := by decide +kernel
theorem dX5_copy_57 : decode cX5_copy 57 = .ok (.invokevirtual 78, 3) := by decide +kernel
theorem dX5_copy_60 : decode cX5_copy 60 = .ok (.ireturn, 1) := by decide +kernel
theorem dX5_copy_61 : decode cX5_copy 61 = .ok (.aload_n 0, 1) := by decide +kernel
theorem dX5_copy_62 : decode cX5_copy 62 = .ok (.getfield 11, 3) := by decide +kernel
theorem dX5_copy_65 : decode cX5_copy 65 = .ok (.iload_n 1, 1) := by decide +kernel
theorem dX5_copy_66 : decode cX5_copy 66 = .ok (.aaload, 1) := by decide +kernel
theorem dX5_copy_67 : decode cX5_copy 67 = .ok (.iload_n 2, 1) := by decide +kernel
theorem dX5_copy_68 : decode cX5_copy 68 = .ok (.iload 5, 2) := by decide +kernel
theorem dX5_copy_70 : decode cX5_copy 70 = .ok (.invokevirtual 99, 3) := by decide +kernel
theorem dX5_copy_73 : decode cX5_copy 73 = .ok (.ifCond .eq 19, 3) := by decide +kernel
theorem dX5_copy_76 : decode cX5_copy 76 = .ok (.aload_n 0, 1) := by decide +kernel
theorem dX5_copy_77 : decode cX5_copy 77 = .ok (.getfield 11, 3) := by decide +kernel
theorem dX5_copy_80 : decode cX5_copy 80 = .ok (.iload_n 3, 1) := by decide +kernel
theorem dX5_copy_81 : decode cX5_copy 81 = .ok (.aaload, 1) := by decide +kernel
theorem dX5_copy_82 : decode cX5_copy 82 = .ok (.iload 4, 2) := by decide +kernel
theorem dX5_copy_84 : decode cX5_copy 84 = .ok (.iload 5, 2) := by decide +kernel
theorem dX5_copy_86 : decode cX5_copy 86 = .ok (.invokevirtual 99, 3) := by decide +kernel
theorem dX5_copy_89 : decode cX5_copy 89 = .ok (.ifCond .ne 9, 3) := by decide +kernel
theorem dX5_copy_92 : decode cX5_copy 92 = .ok (.aload_n 0, 1) := by decide +kernel
theorem dX5_copy_93 : decode cX5_copy 93 = .ok (.iconst 2, 1) := by decide +kernel
theorem dX5_copy_94 : decode cX5_copy 94 = .ok (.invokevirtual 78, 3) := by decide +kernel
theorem dX5_copy_97 : decode cX5_copy 97 = .ok (.ireturn, 1) := by decide +kernel
theorem dX5_copy_98 : decode cX5_copy 98 = .ok (.aload_n 0, 1) := by decide +kernel
theorem dX5_copy_99 : decode cX5_copy 99 = .ok (.getfield 11, 3) := by decide +kernel
theorem dX5_copy_102 : decode cX5_copy 102 = .ok (.iload_n 1, 1) := by decide +kernel
theorem dX5_copy_103 : decode cX5_copy 103 = .ok (.aaload, 1) := by decide +kernel
theorem dX5_copy_104 : decode cX5_copy 104 = .ok (.getfield 89, 3) := by decide +kernel
theorem dX5_copy_107 : decode cX5_copy 107 = .ok (.iload_n 2, 1) := by decide +kernel
theorem dX5_copy_108 : decode cX5_copy 108 = .ok (.aload_n 0, 1) := by decide +kernel
theorem dX5_copy_109 : decode cX5_copy 109 = .ok (.getfield 11, 3) := by decide +kernel
theorem dX5_copy_112 : decode cX5_copy 112 = .ok (.iload_n 3, 1) := by decide +kernel
theorem dX5_copy_113 : decode cX5_copy 113 = .ok (.aaload, 1) := by decide +kernel
theorem dX5_copy_114 : decode cX5_copy 114 = .ok (.getfield 89, 3) := by decide +kernel
theorem dX5_copy_117 : decode cX5_copy 117 = .ok (.iload 4, 2) := by decide +kernel
theorem dX5_copy_119 : decode cX5_copy 119 = .ok (.iload 5, 2) := by decide +kernel
theorem dX5_copy_121 : decode cX5_copy 121 = .ok (.invokestatic 102, 3) := by decide +kernel
theorem dX5_copy_124 : decode cX5_copy 124 = .ok (.iconst 1, 1) := by decide +kernel
theorem dX5_copy_125 : decode cX5_copy 125 = .ok (.ireturn, 1) := by decide +kernel
theorem dX5_mean_0 : decode cX5_mean 0 = .ok (.iload_n 1, 1) := by decide +kernel
theorem dX5_mean_1 : decode cX5_mean 1 = .ok (.bipush 6, 2) := by decide +kernel
theorem dX5_mean_3 : decode cX5_mean 3 = .ok (.invokestatic 74, 3) := by decide +kernel
theorem dX5_mean_6 : decode cX5_mean 6 = .ok (.ifCond .ne 5, 3) := by decide +kernel
theorem dX5_mean_9 : decode cX5_mean 9 = .ok (.iconst (-1), 1) := by decide +kernel
theorem dX5_mean_10 : decode cX5_mean 10 = .ok (.ireturn, 1) := by decide +kernel
theorem dX5_mean_11 : decode cX5_mean 11 = .ok (.aload_n 0, 1) := by decide +kernel
theorem dX5_mean_12 : decode cX5_mean 12 = .ok (.getfield 11, 3) := by decide +kernel
theorem dX5_mean_15 : decode cX5_mean 15 = .ok (.iload_n 1, 1) := by decide +kernel
theorem dX5_mean_16 : decode cX5_mean 16 = .ok (.aaload, 1) := by decide +kernel
theorem dX5_mean_17 : decode cX5_mean 17 = .ok (.invokevirtual 92, 3) := by decide +kernel
theorem dX5_mean_20 : decode cX5_mean 20 = .ok (.ifCond .eq 9, 3) := by decide +kernel
theorem dX5_mean_23 : decode cX5_mean 23 = .ok (.aload_n 0, 1) := by decide +kernel
theorem dX5_mean_24 : decode cX5_mean 24 = .ok (.iconst 1, 1) := by decide +kernel
theorem dX5_mean_25 : decode cX5_mean 25 = .ok (.invokevirtual 78, 3) := by decide +kernel
theorem dX5_mean_28 : decode cX5_mean 28 = .ok (.ireturn, 1) := by decide +kernel
theorem dX5_mean_29 : decode cX5_mean 29 = .ok (.aload_n 0, 1) := by decide +kernel
theorem dX5_mean_30 : decode cX5_mean 30 = .ok (.getfield 11, 3) := by decide +kernel
theorem dX5_mean_33 : decode cX5_mean 33 = .ok (.iload_n 1, 1) := by decide +kernel
theorem dX5_mean_34 : decode cX5_mean 34 = .ok (.aaload, 1) := by decide +kernel
theorem dX5_mean_35 : decode cX5_mean 35 = .ok (.getfield 96, 3) := by decide +kernel
theorem dX5_mean_38 : decode cX5_mean 38 = .ok (.ifCond .ne 9, 3) := by decide +kernel
theorem dX5_mean_41 : decode cX5_mean 41 = .ok (.aload_n 0, 1) := by decide +kernel
theorem dX5_mean_42 : decode cX5_mean 42 = .ok (.iconst 4, 1) := by decide +kernel
theorem dX5_mean_43 : decode cX5_mean 43 = .ok (.invokevirtual 78, 3) := by decide +kernel
theorem dX5_mean_46 : decode cX5_mean 46 = .ok (.ireturn, 1) := by decide +kernel
theorem dX5_mean_47 : decode cX5_mean 47 = .ok (.aload_n 0, 1) := by decide +kernel
theorem dX5_mean_48 : decode cX5_mean 48 = .ok (.aload_n 0, 1) := by decide +kernel
theorem dX5_mean_49 : decode cX5_mean 49 = .ok (.getfield 11, 3) := by decide +kernel
theorem dX5_mean_52 : decode cX5_mean 52 = .ok (.iload_n 1, 1) := by decide +kernel
theorem dX5_mean_53 : decode cX5_mean 53 = .ok (.aaload, 1) := by decide +kernel
theorem dX5_mean_54 : decode cX5_mean 54 = .ok (.invokevirtual 108, 3) := by decide +kernel
theorem dX5_mean_57 : decode cX5_mean 57 = .ok (.aload_n 0, 1) := by decide +kernel
theorem dX5_mean_58 : decode cX5_mean 58 = .ok (.getfield 11, 3) := by decide +kernel
theorem dX5_mean_61 : decode cX5_mean 61 = .ok (.iload_n 1, 1) := by decide +kernel
theorem dX5_mean_62 : decode cX5_mean 62 = .ok (.aaload, 1) := by decide +kernel
theorem dX5_mean_63 : decode cX5_mean 63 = .ok (.getfield 96, 3) := by decide +kernel
theorem dX5_mean_66 : decode cX5_mean 66 = .ok (.i2l, 1) := by decide +kernel
theorem dX5_mean_67 : decode cX5_mean 67 = .ok (.ldiv, 1) := by decide +kernel
theorem dX5_mean_68 : decode cX5_mean 68 = .ok (.l2i, 1) := by decide +kernel
theorem dX5_mean_69 : decode cX5_mean 69 = .ok (.putfield 61, 3) := by decide +kernel
theorem dX5_mean_72 : decode cX5_mean 72 = .ok (.iconst 1, 1) := by decide +kernel
theorem dX5_mean_73 : decode cX5_mean 73 = .ok (.ireturn, 1) := by decide +kernel
theorem dX5_text_0 : decode cX5_text 0 = .ok (.iload_n 1, 1) := by decide +kernel
theorem dX5_text_1 : decode cX5_text 1 = .ok (.iconst 4, 1) := by decide +kernel
theorem dX5_text_2 : decode cX5_text 2 = .ok (.invokestatic 74, 3) := by decide +kernel
theorem dX5_text_5 : decode cX5_text 5 = .ok (.ifCond .eq 9, 3) := by decide +kernel
theorem dX5_text_8 : decode cX5_text 8 = .ok (.iload_n 2, 1) := by decide +kernel
theorem dX5_text_9 : decode cX5_text 9 = .ok (.bipush 80, 2) := by decide +kernel
theorem dX5_text_11 : decode cX5_text 11 = .ok (.if_icmp .le 5, 3) := by decide +kernel
theorem dX5_text_14 : decode cX5_text 14 = .ok (.iconst (-1), 1) := by decide +kernel
theorem dX5_text_15 : decode cX5_text 15 = .ok (.ireturn, 1) := by decide +kernel
theorem dX5_text_16 : decode cX5_text 16 = .ok (.iload_n 2, 1) := by decide +kernel
theorem dX5_text_17 : decode cX5_text 17 = .ok (.ifCond .ge 9, 3) := by decide +kernel
theorem dX5_text_20 : decode cX5_text 20 = .ok (.aload_n 0, 1) := by decide +kernel
theorem dX5_text_21 : decode cX5_text 21 = .ok (.iconst 5, 1) := by decide +kernel
theorem dX5_text_22 : decode cX5_text 22 = .ok (.invokevirtual 78, 3) := by decide +kernel
theorem dX5_text_25 : decode cX5_text 25 = .ok (.ireturn, 1) := by decide +kernel
theorem dX5_text_26 : decode cX5_text 26 = .ok (.aload_n 0, 1) := by decide +kernel
theorem dX5_text_27 : decode cX5_text 27 = .ok (.getfield 15, 3) := by decide +kernel
theorem dX5_text_30 : decode cX5_text 30 = .ok (.iload_n 1, 1) := by decide +kernel
theorem dX5_text_31 : decode cX5_text 31 = .ok (.aaload, 1) := by decide +kernel
theorem dX5_text_32 : decode cX5_text 32 = .ok (.iload_n 2, 1) := by decide +kernel
theorem dX5_text_33 : decode cX5_text 33 = .ok (.bipush 32, 2) := by decide +kernel
theorem dX5_text_35 : decode cX5_text 35 = .ok (.invokevirtual 82, 3) := by decide +kernel
theorem dX5_text_38 : decode cX5_text 38 = .ok (.iload_n 2, 1) := by decide +kernel
theorem dX5_text_39 : decode cX5_text 39 = .ok (.ireturn, 1) := by decide +kernel
theorem dX5_put_0 : decode cX5_put 0 = .ok (.iload_n 1, 1) := by decide +kernel
theorem dX5_put_1 : decode cX5_put 1 = .ok (.iconst 4, 1) := by decide +kernel
theorem dX5_put_2 : decode cX5_put 2 = .ok (.invokestatic 74, 3) := by decide +kernel
theorem dX5_put_5 : decode cX5_put 5 = .ok (.ifCond .ne 5, 3) := by decide +kernel
theorem dX5_put_8 : decode cX5_put 8 = .ok (.iconst (-1), 1) := by decide +kernel
theorem dX5_put_9 : decode cX5_put 9 = .ok (.ireturn, 1) := by decide +kernel
theorem dX5_put_10 : decode cX5_put 10 = .ok (.aload_n 0, 1) := by decide +kernel
theorem dX5_put_11 : decode cX5_put 11 = .ok (.getfield 15, 3) := by decide +kernel
theorem dX5_put_14 : decode cX5_put 14 = .ok (.iload_n 1, 1) := by decide +kernel
theorem dX5_put_15 : decode cX5_put 15 = .ok (.aaload, 1) := by decide +kernel
theorem dX5_put_16 : decode cX5_put 16 = .ok (.iload_n 2, 1) := by decide +kernel
theorem dX5_put_17 : decode cX5_put 17 = .ok (.invokevirtual 86, 3) := by decide +kernel
theorem dX5_put_20 : decode cX5_put 20 = .ok (.istore 4, 2) := by decide +kernel
theorem dX5_put_22 : decode cX5_put 22 = .ok (.iload 4, 2) := by decide +kernel
theorem dX5_put_24 : decode cX5_put 24 = .ok (.ifCond .eq 10, 3) := by decide +kernel
theorem dX5_put_27 : decode cX5_put 27 = .ok (.aload_n 0, 1) := by decide +kernel
theorem dX5_put_28 : decode cX5_put 28 = .ok (.iload 4, 2) := by decide +kernel
theorem dX5_put_30 : decode cX5_put 30 = .ok (.invokevirtual 78, 3) := by decide +kernel
theorem dX5_put_33 : decode cX5_put 33 = .ok (.ireturn, 1) := by decide +kernel
theorem dX5_put_34 : decode cX5_put 34 = .ok (.aload_n 0, 1) := by decide +kernel
theorem dX5_put_35 : decode cX5_put 35 = .ok (.getfield 15, 3) := by decide +kernel
theorem dX5_put_38 : decode cX5_put 38 = .ok (.iload_n 1, 1) := by decide +kernel
theorem dX5_put_39 : decode cX5_put 39 = .ok (.aaload, 1) := by decide +kernel
theorem dX5_put_40 : decode cX5_put 40 = .ok (.getfield 89, 3) := by decide +kernel
theorem dX5_put_43 : decode cX5_put 43 = .ok (.iload_n 2, 1) := by decide +kernel
theorem dX5_put_44 : decode cX5_put 44 = .ok (.iaload, 1) := by decide +kernel
theorem dX5_put_45 : decode cX5_put 45 = .ok (.istore 5, 2) := by decide +kernel
theorem dX5_put_47 : decode cX5_put 47 = .ok (.aload_n 0, 1) := by decide +kernel
theorem dX5_put_48 : decode cX5_put 48 = .ok (.getfield 15, 3) := by decide +kernel
theorem dX5_put_51 : decode cX5_put 51 = .ok (.iload_n 1, 1) := by decide +kernel
theorem dX5_put_52 : decode cX5_put 52 = .ok (.aaload, 1) := by decide +kernel
theorem dX5_put_53 : decode cX5_put 53 = .ok (.getfield 89, 3) := by decide +kernel
theorem dX5_put_56 : decode cX5_put 56 = .ok (.iload_n 2, 1) := by decide +kernel
theorem dX5_put_57 : decode cX5_put 57 = .ok (.iload_n 3, 1) := by decide +kernel
theorem dX5_put_58 : decode cX5_put 58 = .ok (.i2b, 1) := by decide +kernel
theorem dX5_put_59 : decode cX5_put 59 = .ok (.iastore, 1) := by decide +kernel
theorem dX5_put_60 : decode cX5_put 60 = .ok (.iload 5, 2) := by decide +kernel
theorem dX5_put_62 : decode cX5_put 62 = .ok (.sipush 1000, 3) := by decide +kernel
theorem dX5_put_65 : decode cX5_put 65 = .ok (.iadd, 1) := by decide +kernel
theorem dX5_put_66 : decode cX5_put 66 = .ok (.ireturn, 1) := by decide +kernel
theorem dX5_fault_0 : decode cX5_fault 0 = .ok (.iload_n 1, 1) := by decide +kernel
theorem dX5_fault_1 : decode cX5_fault 1 = .ok (.iconst 4, 1) := by decide +kernel
theorem dX5_fault_2 : decode cX5_fault 2 = .ok (.invokestatic 74, 3) := by decide +kernel
theorem dX5_fault_5 : decode cX5_fault 5 = .ok (.ifCond .ne 5, 3) := by decide +kernel
theorem dX5_fault_8 : decode cX5_fault 8 = .ok (.iconst (-1), 1) := by decide +kernel
theorem dX5_fault_9 : decode cX5_fault 9 = .ok (.ireturn, 1) := by decide +kernel
theorem dX5_fault_10 : decode cX5_fault 10 = .ok (.aload_n 0, 1) := by decide +kernel
theorem dX5_fault_11 : decode cX5_fault 11 = .ok (.getfield 15, 3) := by decide +kernel
theorem dX5_fault_14 : decode cX5_fault 14 = .ok (.iload_n 1, 1) := by decide +kernel
theorem dX5_fault_15 : decode cX5_fault 15 = .ok (.aaload, 1) := by decide +kernel
theorem dX5_fault_16 : decode cX5_fault 16 = .ok (.invokevirtual 92, 3) := by decide +kernel
theorem dX5_fault_19 : decode cX5_fault 19 = .ok (.ifCond .eq 9, 3) := by decide +kernel
theorem dX5_fault_22 : decode cX5_fault 22 = .ok (.aload_n 0, 1) := by decide +kernel
theorem dX5_fault_23 : decode cX5_fault 23 = .ok (.iconst 1, 1) := by decide +kernel
theorem dX5_fault_24 : decode cX5_fault 24 = .ok (.invokevirtual 78, 3) := by decide +kernel
theorem dX5_fault_27 : decode cX5_fault 27 = .ok (.ireturn, 1) := by decide +kernel
theorem dX5_fault_28 : decode cX5_fault 28 = .ok (.aload_n 0, 1) := by decide +kernel
theorem dX5_fault_29 : decode cX5_fault 29 = .ok (.getfield 35, 3) := by decide +kernel
theorem dX5_fault_32 : decode cX5_fault 32 = .ok (.aload_n 0, 1) := by decide +kernel
theorem dX5_fault_33 : decode cX5_fault 33 = .ok (.getfield 15, 3) := by decide +kernel
theorem dX5_fault_36 : decode cX5_fault 36 = .ok (.iload_n 1, 1) := by decide +kernel
theorem dX5_fault_37 : decode cX5_fault 37 = .ok (.aaload, 1) := by decide +kernel
theorem dX5_fault_38 : decode cX5_fault 38 = .ok (.aload_n 0, 1) := by decide +kernel
theorem dX5_fault_39 : decode cX5_fault 39 = .ok (.getfield 29, 3) := by decide +kernel
theorem dX5_fault_42 : decode cX5_fault 42 = .ok (.invokevirtual 112, 3) := by decide +kernel
theorem dX5_fault_45 : decode cX5_fault 45 = .ok (.ireturn, 1) := by decide +kernel
theorem dX5_wood_0 : decode cX5_wood 0 = .ok (.iload_n 1, 1) := by decide +kernel
theorem dX5_wood_1 : decode cX5_wood 1 = .ok (.iconst 4, 1) := by decide +kernel
theorem dX5_wood_2 : decode cX5_wood 2 = .ok (.invokestatic 74, 3) := by decide +kernel
theorem dX5_wood_5 : decode cX5_wood 5 = .ok (.ifCond .ne 5, 3) := by decide +kernel
theorem dX5_wood_8 : decode cX5_wood 8 = .ok (.iconst (-1), 1) := by decide +kernel
theorem dX5_wood_9 : decode cX5_wood 9 = .ok (.ireturn, 1) := by decide +kernel
theorem dX5_wood_10 : decode cX5_wood 10 = .ok (.aload_n 0, 1) := by decide +kernel
theorem dX5_wood_11 : decode cX5_wood 11 = .ok (.getfield 15, 3) := by decide +kernel
theorem dX5_wood_14 : decode cX5_wood 14 = .ok (.iload_n 1, 1) := by decide +kernel
theorem dX5_wood_15 : decode cX5_wood 15 = .ok (.aaload, 1) := by decide +kernel
theorem dX5_wood_16 : decode cX5_wood 16 = .ok (.invokevirtual 92, 3) := by decide +kernel
theorem dX5_wood_19 : decode cX5_wood 19 = .ok (.ifCond .eq 9, 3) := by decide +kernel
theorem dX5_wood_22 : decode cX5_wood 22 = .ok (.aload_n 0, 1) := by decide +kernel
theorem dX5_wood_23 : decode cX5_wood 23 = .ok (.iconst 1, 1) := by decide +kernel
theorem dX5_wood_24 : decode cX5_wood 24 = .ok (.invokevirtual 78, 3) := by decide +kernel
theorem dX5_wood_27 : decode cX5_wood 27 = .ok (.ireturn, 1) := by decide +kernel
theorem dX5_wood_28 : decode cX5_wood 28 = .ok (.aload_n 0, 1) := by decide +kernel
theorem dX5_wood_29 : decode cX5_wood 29 = .ok (.getfield 35, 3) := by decide +kernel
theorem dX5_wood_32 : decode cX5_wood 32 = .ok (.aload_n 0, 1) := by decide +kernel
theorem dX5_wood_33 : decode cX5_wood 33 = .ok (.getfield 15, 3) := by decide +kernel
theorem dX5_wood_36 : decode cX5_wood 36 = .ok (.iload_n 1, 1) := by decide +kernel
theorem dX5_wood_37 : decode cX5_wood 37 = .ok (.aaload, 1) := by decide +kernel
theorem dX5_wood_38 : decode cX5_wood 38 = .ok (.aload_n 0, 1) := by decide +kernel
theorem dX5_wood_39 : decode cX5_wood 39 = .ok (.getfield 29, 3) := by decide +kernel
theorem dX5_wood_42 : decode cX5_wood 42 = .ok (.invokevirtual 112, 3) := by decide +kernel
theorem dX5_wood_45 : decode cX5_wood 45 = .ok (.bipush (-9), 2) := by decide +kernel
theorem dX5_wood_47 : decode cX5_wood 47 = .ok (.if_icmp .eq 6, 3) := by decide +kernel
theorem dX5_wood_50 : decode cX5_wood 50 = .ok (.bipush (-4), 2) := by decide +kernel
theorem dX5_wood_52 : decode cX5_wood 52 = .ok (.ireturn, 1) := by decide +kernel
theorem dX5_wood_53 : decode cX5_wood 53 = .ok (.aload_n 0, 1) := by decide +kernel
theorem dX5_wood_54 : decode cX5_wood 54 = .ok (.getfield 21, 3) := by decide +kernel
theorem dX5_wood_57 : decode cX5_wood 57 = .ok (.aload_n 0, 1) := by decide +kernel
theorem dX5_wood_58 : decode cX5_wood 58 = .ok (.getfield 29, 3) := by decide +kernel
theorem dX5_wood_61 : decode cX5_wood 61 = .ok (.invokevirtual 116, 3) := by decide +kernel
theorem dX5_wood_64 : decode cX5_wood 64 = .ok (.iconst 0, 1) := by decide +kernel
theorem dX5_wood_65 : decode cX5_wood 65 = .ok (.istore_n 2, 1) := by decide +kernel
theorem dX5_wood_66 : decode cX5_wood 66 = .ok (.iload_n 2, 1) := by decide +kernel
theorem dX5_wood_67 : decode cX5_wood 67 = .ok (.iconst 3, 1) := by decide +kernel
theorem dX5_wood_68 : decode cX5_wood 68 = .ok (.if_icmp .ge 19, 3) := by decide +kernel
theorem dX5_wood_71 : decode cX5_wood 71 = .ok (.aload_n 0, 1) := by decide +kernel
theorem dX5_wood_72 : decode cX5_wood 72 = .ok (.getfield 25, 3) := by decide +kernel
theorem dX5_wood_75 : decode cX5_wood 75 = .ok (.iload_n 2, 1) := by decide +kernel
theorem dX5_wood_76 : decode cX5_wood 76 = .ok (.aaload, 1) := by decide +kernel
theorem dX5_wood_77 : decode cX5_wood 77 = .ok (.iconst 0, 1) := by decide +kernel
theorem dX5_wood_78 : decode cX5_wood 78 = .ok (.putfield 120, 3) := by decide +kernel
theorem dX5_wood_81 : decode cX5_wood 81 = .ok (.iinc 2 1, 3) := by decide +kernel
theorem dX5_wood_84 : decode cX5_wood 84 = .ok (.goto (-18), 3) := by decide +kernel
theorem dX5_wood_87 : decode cX5_wood 87 = .ok (.aload_n 0, 1) := by decide +kernel
theorem dX5_wood_88 : decode cX5_wood 88 = .ok (.getfield 21, 3) := by decide +kernel
theorem dX5_wood_91 : decode cX5_wood 91 = .ok (.getfield 120, 3) := by decide +kernel
theorem dX5_wood_94 : decode cX5_wood 94 = .ok (.ireturn, 1) := by decide +kernel
theorem dX5_place_0 : decode cX5_place 0 = .ok (.aload_n 0, 1) := by decide +kernel
theorem dX5_place_1 : decode cX5_place 1 = .ok (.getfield 21, 3) := by decide +kernel
theorem dX5_place_4 : decode cX5_place 4 = .ok (.iload_n 1, 1) := by decide +kernel
theorem dX5_place_5 : decode cX5_place 5 = .ok (.invokevirtual 123, 3) := by decide +kernel
theorem dX5_place_8 : decode cX5_place 8 = .ok (.ifCond .eq 12, 3) := by decide +kernel
theorem dX5_place_11 : decode cX5_place 11 = .ok (.iload_n 2, 1) := by decide +kernel
theorem dX5_place_12 : decode cX5_place 12 = .ok (.bipush 6, 2) := by decide +kernel
theorem dX5_place_14 : decode cX5_place 14 = .ok (.invokestatic 74, 3) := by decide +kernel
theorem dX5_place_17 : decode cX5_place 17 = .ok (.ifCond .ne 5, 3) := by decide +kernel
theorem dX5_place_20 : decode cX5_place 20 = .ok (.iconst (-1), 1) := by decide +kernel
theorem dX5_place_21 : decode cX5_place 21 = .ok (.ireturn, 1) := by decide +kernel
theorem dX5_place_22 : decode cX5_place 22 = .ok (.aload_n 0, 1) := by decide +kernel
theorem dX5_place_23 : decode cX5_place 23 = .ok (.aload_n 0, 1) := by decide +kernel
theorem dX5_place_24 : decode cX5_place 24 = .ok (.getfield 21, 3) := by decide +kernel
theorem dX5_place_27 : decode cX5_place 27 = .ok (.iload_n 1, 1) := by decide +kernel
theorem dX5_place_28 : decode cX5_place 28 = .ok (.iload_n 2, 1) := by decide +kernel
theorem dX5_place_29 : decode cX5_place 29 = .ok (.invokevirtual 127, 3) := by decide +kernel
theorem dX5_place_32 : decode cX5_place 32 = .ok (.putfield 61, 3) := by decide +kernel
theorem dX5_place_35 : decode cX5_place 35 = .ok (.iconst 1, 1) := by decide +kernel
theorem dX5_place_36 : decode cX5_place 36 = .ok (.ireturn, 1) := by decide +kernel
theorem dX5_mark_0 : decode cX5_mark 0 = .ok (.aload_n 0, 1) := by decide +kernel
theorem dX5_mark_1 : decode cX5_mark 1 = .ok (.getfield 21, 3) := by decide +kernel
theorem dX5_mark_4 : decode cX5_mark 4 = .ok (.iload_n 1, 1) := by decide +kernel
theorem dX5_mark_5 : decode cX5_mark 5 = .ok (.invokevirtual 123, 3) := by decide +kernel
theorem dX5_mark_8 : decode cX5_mark 8 = .ok (.ifCond .eq 14, 3) := by decide +kernel
theorem dX5_mark_11 : decode cX5_mark 11 = .ok (.iload_n 2, 1) := by decide +kernel
theorem dX5_mark_12 : decode cX5_mark 12 = .ok (.iconst 1, 1) := by decide +kernel
theorem dX5_mark_13 : decode cX5_mark 13 = .ok (.if_icmp .lt 9, 3) := by decide +kernel
theorem dX5_mark_16 : decode cX5_mark 16 = .ok (.iload_n 2, 1) := by decide +kernel
theorem dX5_mark_17 : decode cX5_mark 17 = .ok (.bipush 6, 2) := by decide +kernel
theorem dX5_mark_19 : decode cX5_mark 19 = .ok (.if_icmp .lt 5, 3) := by decide +kernel
theorem dX5_mark_22 : decode cX5_mark 22 = .ok (.iconst (-1), 1) := by decide +kernel
theorem dX5_mark_23 : decode cX5_mark 23 = .ok (.ireturn, 1) := by decide +kernel
theorem dX5_mark_24 : decode cX5_mark 24 = .ok (.aload_n 0, 1) := by decide +kernel
theorem dX5_mark_25 : decode cX5_mark 25 = .ok (.getfield 21, 3) := by decide +kernel
theorem dX5_mark_28 : decode cX5_mark 28 = .ok (.iload_n 1, 1) := by decide +kernel
theorem dX5_mark_29 : decode cX5_mark 29 = .ok (.iload_n 2, 1) := by decide +kernel
theorem dX5_mark_30 : decode cX5_mark 30 = .ok (.invokevirtual 131, 3) := by decide +kernel
theorem dX5_mark_33 : decode cX5_mark 33 = .ok (.ifCond .ne 9, 3) := by decide +kernel
theorem dX5_mark_36 : decode cX5_mark 36 = .ok (.aload_n 0, 1) := by decide +kernel
theorem dX5_mark_37 : decode cX5_mark 37 = .ok (.iconst 3, 1) := by decide +kernel
theorem dX5_mark_38 : decode cX5_mark 38 = .ok (.invokevirtual 78, 3) := by decide +kernel
theorem dX5_mark_41 : decode cX5_mark 41 = .ok (.ireturn, 1) := by decide +kernel
theorem dX5_mark_42 : decode cX5_mark 42 = .ok (.iload_n 2, 1) := by decide +kernel
theorem dX5_mark_43 : decode cX5_mark 43 = .ok (.tableswitch 76 1 4 #[29, 45, 54, 64], 29) := by decide +kernel
theorem dX5_mark_72 : decode cX5_mark 72 = .ok (.aload_n 0, 1) := by decide +kernel
theorem dX5_mark_73 : decode cX5_mark 73 = .ok (.getfield 21, 3) := by decide +kernel
theorem dX5_mark_76 : decode cX5_mark 76 = .ok (.aload_n 0, 1) := by decide +kernel
theorem dX5_mark_77 : decode cX5_mark 77 = .ok (.getfield 21, 3) := by decide +kernel
theorem dX5_mark_80 : decode cX5_mark 80 = .ok (.iload_n 1, 1) := by decide +kernel
theorem dX5_mark_81 : decode cX5_mark 81 = .ok (.invokevirtual 134, 3) := by decide +kernel
theorem dX5_mark_84 : decode cX5_mark 84 = .ok (.invokevirtual 137, 3) := by decide +kernel
theorem dX5_mark_87 : decode cX5_mark 87 = .ok (.ireturn, 1) := by decide +kernel
theorem dX5_mark_88 : decode cX5_mark 88 = .ok (.aload_n 0, 1) := by decide +kernel
theorem dX5_mark_89 : decode cX5_mark 89 = .ok (.getfield 21, 3) := by decide +kernel
theorem dX5_mark_92 : decode cX5_mark 92 = .ok (.iload_n 1, 1) := by decide +kernel
theorem dX5_mark_93 : decode cX5_mark 93 = .ok (.invokevirtual 140, 3) := by decide +kernel
theorem dX5_mark_96 : decode cX5_mark 96 = .ok (.ireturn, 1) := by decide +kernel
theorem dX5_mark_97 : decode cX5_mark 97 = .ok (.aload_n 0, 1) := by decide +kernel
theorem dX5_mark_98 : decode cX5_mark 98 = .ok (.getfield 21, 3) := by decide +kernel
theorem dX5_mark_101 : decode cX5_mark 101 = .ok (.getfield 143, 3) := by decide +kernel
theorem dX5_mark_104 : decode cX5_mark 104 = .ok (.iload_n 1, 1) := by decide +kernel
theorem dX5_mark_105 : decode cX5_mark 105 = .ok (.iaload, 1) := by decide +kernel
theorem dX5_mark_106 : decode cX5_mark 106 = .ok (.ireturn, 1) := by decide +kernel
theorem dX5_mark_107 : decode cX5_mark 107 = .ok (.aload_n 0, 1) := by decide +kernel
theorem dX5_mark_108 : decode cX5_mark 108 = .ok (.getfield 21, 3) := by decide +kernel
theorem dX5_mark_111 : decode cX5_mark 111 = .ok (.getfield 146, 3) := by decide +kernel
theorem dX5_mark_114 : decode cX5_mark 114 = .ok (.iconst 2, 1) := by decide +kernel
theorem dX5_mark_115 : decode cX5_mark 115 = .ok (.aaload, 1) := by decide +kernel
theorem dX5_mark_116 : decode cX5_mark 116 = .ok (.iload_n 1, 1) := by decide +kernel
theorem dX5_mark_117 : decode cX5_mark 117 = .ok (.iaload, 1) := by decide +kernel
theorem dX5_mark_118 : decode cX5_mark 118 = .ok (.ireturn, 1) := by decide +kernel
theorem dX5_mark_119 : decode cX5_mark 119 = .ok (.aload_n 0, 1) := by decide +kernel
theorem dX5_mark_120 : decode cX5_mark 120 = .ok (.getfield 21, 3) := by decide +kernel
theorem dX5_mark_123 : decode cX5_mark 123 = .ok (.getfield 150, 3) := by decide +kernel
theorem dX5_mark_126 : decode cX5_mark 126 = .ok (.iload_n 1, 1) := by decide +kernel
theorem dX5_mark_127 : decode cX5_mark 127 = .ok (.iaload, 1) := by decide +kernel
theorem dX5_mark_128 : decode cX5_mark 128 = .ok (.aload_n 0, 1) := by decide +kernel
theorem dX5_mark_129 : decode cX5_mark 129 = .ok (.getfield 21, 3) := by decide +kernel
theorem dX5_mark_132 : decode cX5_mark 132 = .ok (.getfield 153, 3) := by decide +kernel
theorem dX5_mark_135 : decode cX5_mark 135 = .ok (.iconst 2, 1) := by decide +kernel
theorem dX5_mark_136 : decode cX5_mark 136 = .ok (.iaload, 1) := by decide +kernel
theorem dX5_mark_137 : decode cX5_mark 137 = .ok (.iand, 1) := by decide +kernel
theorem dX5_mark_138 : decode cX5_mark 138 = .ok (.invokestatic 156, 3) := by decide +kernel
theorem dX5_mark_141 : decode cX5_mark 141 = .ok (.ireturn, 1) := by decide +kernel
theorem dX5_path_0 : decode cX5_path 0 = .ok (.aload_n 0, 1) := by decide +kernel
theorem dX5_path_1 : decode cX5_path 1 = .ok (.getfield 21, 3) := by decide +kernel
theorem dX5_path_4 : decode cX5_path 4 = .ok (.iload_n 1, 1) := by decide +kernel
theorem dX5_path_5 : decode cX5_path 5 = .ok (.invokevirtual 123, 3) := by decide +kernel
theorem dX5_path_8 : decode cX5_path 8 = .ok (.ifCond .eq 27, 3) := by decide +kernel
theorem dX5_path_11 : decode cX5_path 11 = .ok (.aload_n 0, 1) := by decide +kernel
theorem dX5_path_12 : decode cX5_path 12 = .ok (.getfield 21, 3) := by decide +kernel
theorem dX5_path_15 : decode cX5_path 15 = .ok (.iload_n 2, 1) := by decide +kernel
theorem dX5_path_16 : decode cX5_path 16 = .ok (.invokevirtual 123, 3) := by decide +kernel
theorem dX5_path_19 : decode cX5_path 19 = .ok (.ifCond .eq 16, 3) := by decide +kernel
theorem dX5_path_22 : decode cX5_path 22 = .ok (.iload_n 1, 1) := by decide +kernel
theorem dX5_path_23 : decode cX5_path 23 = .ok (.iload_n 2, 1) := by decide +kernel
theorem dX5_path_24 : decode cX5_path 24 = .ok (.if_icmp .eq 11, 3) := by decide +kernel
theorem dX5_path_27 : decode cX5_path 27 = .ok (.iload_n 3, 1) := by decide +kernel
theorem dX5_path_28 : decode cX5_path 28 = .ok (.iconst 2, 1) := by decide +kernel
theorem dX5_path_29 : decode cX5_path 29 = .ok (.invokestatic 74, 3) := by decide +kernel
theorem dX5_path_32 : decode cX5_path 32 = .ok (.ifCond .ne 5, 3) := by decide +kernel
theorem dX5_path_35 : decode cX5_path 35 = .ok (.iconst (-1), 1) := by decide +kernel
theorem dX5_path_36 : decode cX5_path 36 = .ok (.ireturn, 1) := by decide +kernel
theorem dX5_path_37 : decode cX5_path 37 = .ok (.aload_n 0, 1) := by decide +kernel
theorem dX5_path_38 : decode cX5_path 38 = .ok (.getfield 21, 3) := by decide +kernel
theorem dX5_path_41 : decode cX5_path 41 = .ok (.iload_n 1, 1) := by decide +kernel
theorem dX5_path_42 : decode cX5_path 42 = .ok (.iload_n 2, 1) := by decide +kernel
theorem dX5_path_43 : decode cX5_path 43 = .ok (.invokevirtual 161, 3) := by decide +kernel
theorem dX5_path_46 : decode cX5_path 46 = .ok (.ifCond .eq 7, 3) := by decide +kernel
theorem dX5_path_49 : decode cX5_path 49 = .ok (.iconst 1, 1) := by decide +kernel
theorem dX5_path_50 : decode cX5_path 50 = .ok (.goto 4, 3) := by decide +kernel
theorem dX5_path_53 : decode cX5_path 53 = .ok (.iconst 0, 1) := by decide +kernel
theorem dX5_path_54 : decode cX5_path 54 = .ok (.istore 4, 2) := by decide +kernel
theorem dX5_path_56 : decode cX5_path 56 = .ok (.aload_n 0, 1) := by decide +kernel
theorem dX5_path_57 : decode cX5_path 57 = .ok (.getfield 21, 3) := by decide +kernel
theorem dX5_path_60 : decode cX5_path 60 = .ok (.iload_n 1, 1) := by decide +kernel
theorem dX5_path_61 : decode cX5_path 61 = .ok (.iload_n 2, 1) := by decide +kernel
theorem dX5_path_62 : decode cX5_path 62 = .ok (.iload_n 3, 1) := by decide +kernel
theorem dX5_path_63 : decode cX5_path 63 = .ok (.iconst 1, 1) := by decide +kernel
theorem dX5_path_64 : decode cX5_path 64 = .ok (.if_icmp .ne 7, 3) := by decide +kernel
theorem dX5_path_67 : decode cX5_path 67 = .ok (.iconst 1, 1) := by decide +kernel
theorem dX5_path_68 : decode cX5_path 68 = .ok (.goto 4, 3) := by decide +kernel
theorem dX5_path_71 : decode cX5_path 71 = .ok (.iconst 0, 1) := by decide +kernel
theorem dX5_path_72 : decode cX5_path 72 = .ok (.invokevirtual 164, 3) := by decide +kernel
theorem dX5_path_75 : decode cX5_path 75 = .ok (.iload 4, 2) := by decide +kernel
theorem dX5_path_77 : decode cX5_path 77 = .ok (.ireturn, 1) := by decide +kernel
theorem dX5_bird_0 : decode cX5_bird 0 = .ok (.iload_n 1, 1) := by decide +kernel
theorem dX5_bird_1 : decode cX5_bird 1 = .ok (.aload_n 0, 1) := by decide +kernel
theorem dX5_bird_2 : decode cX5_bird 2 = .ok (.getfield 21, 3) := by decide +kernel
theorem dX5_bird_5 : decode cX5_bird 5 = .ok (.getfield 168, 3) := by decide +kernel
theorem dX5_bird_8 : decode cX5_bird 8 = .ok (.invokestatic 74, 3) := by decide +kernel
theorem dX5_bird_11 : decode cX5_bird 11 = .ok (.ifCond .ne 5, 3) := by decide +kernel
theorem dX5_bird_14 : decode cX5_bird 14 = .ok (.iconst (-1), 1) := by decide +kernel
theorem dX5_bird_15 : decode cX5_bird 15 = .ok (.ireturn, 1) := by decide +kernel
theorem dX5_bird_16 : decode cX5_bird 16 = .ok (.aload_n 0, 1) := by decide +kernel
theorem dX5_bird_17 : decode cX5_bird 17 = .ok (.aload_n 0, 1) := by decide +kernel
theorem dX5_bird_18 : decode cX5_bird 18 = .ok (.getfield 21, 3) := by decide +kernel
theorem dX5_bird_21 : decode cX5_bird 21 = .ok (.aload_n 0, 1) := by decide +kernel
theorem dX5_bird_22 : decode cX5_bird 22 = .ok (.getfield 21, 3) := by decide +kernel
theorem dX5_bird_25 : decode cX5_bird 25 = .ok (.getfield 171, 3) := by decide +kernel
theorem dX5_bird_28 : decode cX5_bird 28 = .ok (.iload_n 1, 1) := by decide +kernel
theorem dX5_bird_29 : decode cX5_bird 29 = .ok (.iaload, 1) := by decide +kernel
theorem dX5_bird_30 : decode cX5_bird 30 = .ok (.invokevirtual 174, 3) := by decide +kernel
theorem dX5_bird_33 : decode cX5_bird 33 = .ok (.putfield 61, 3) := by decide +kernel
theorem dX5_bird_36 : decode cX5_bird 36 = .ok (.aload_n 0, 1) := by decide +kernel
theorem dX5_bird_37 : decode cX5_bird 37 = .ok (.getfield 21, 3) := by decide +kernel
theorem dX5_bird_40 : decode cX5_bird 40 = .ok (.getfield 171, 3) := by decide +kernel
theorem dX5_bird_43 : decode cX5_bird 43 = .ok (.iload_n 1, 1) := by decide +kernel
theorem dX5_bird_44 : decode cX5_bird 44 = .ok (.iaload, 1) := by decide +kernel
theorem dX5_bird_45 : decode cX5_bird 45 = .ok (.ireturn, 1) := by decide +kernel
theorem dX5_pocket_0 : decode cX5_pocket 0 = .ok (.iload_n 1, 1) := by decide +kernel
theorem dX5_pocket_1 : decode cX5_pocket 1 = .ok (.iconst 3, 1) := by decide +kernel
theorem dX5_pocket_2 : decode cX5_pocket 2 = .ok (.invokestatic 74, 3) := by decide +kernel
theorem dX5_pocket_5 : decode cX5_pocket 5 = .ok (.ifCond .ne 5, 3) := by decide +kernel
theorem dX5_pocket_8 : decode cX5_pocket 8 = .ok (.iconst (-1), 1) := by decide +kernel
theorem dX5_pocket_9 : decode cX5_pocket 9 = .ok (.ireturn, 1) := by decide +kernel
theorem dX5_pocket_10 : decode cX5_pocket 10 = .ok (.aload_n 0, 1) := by decide +kernel
theorem dX5_pocket_11 : decode cX5_pocket 11 = .ok (.getfield 21, 3) := by decide +kernel
theorem dX5_pocket_14 : decode cX5_pocket 14 = .ok (.getfield 177, 3) := by decide +kernel
theorem dX5_pocket_17 : decode cX5_pocket 17 = .ok (.iload_n 1, 1) := by decide +kernel
theorem dX5_pocket_18 : decode cX5_pocket 18 = .ok (.iaload, 1) := by decide +kernel
theorem dX5_pocket_19 : decode cX5_pocket 19 = .ok (.ireturn, 1) := by decide +kernel
theorem dX5_lead_0 : decode cX5_lead 0 = .ok (.aload_n 0, 1) := by decide +kernel
theorem dX5_lead_1 : decode cX5_lead 1 = .ok (.getfield 21, 3) := by decide +kernel
theorem dX5_lead_4 : decode cX5_lead 4 = .ok (.iload_n 1, 1) := by decide +kernel
theorem dX5_lead_5 : decode cX5_lead 5 = .ok (.invokevirtual 123, 3) := by decide +kernel
theorem dX5_lead_8 : decode cX5_lead 8 = .ok (.ifCond .ne 5, 3) := by decide +kernel
theorem dX5_lead_11 : decode cX5_lead 11 = .ok (.iconst (-1), 1) := by decide +kernel
theorem dX5_lead_12 : decode cX5_lead 12 = .ok (.ireturn, 1) := by decide +kernel
theorem dX5_lead_13 : decode cX5_lead 13 = .ok (.aload_n 0, 1) := by decide +kernel
theorem dX5_lead_14 : decode cX5_lead 14 = .ok (.getfield 21, 3) := by decide +kernel
theorem dX5_lead_17 : decode cX5_lead 17 = .ok (.aload_n 0, 1) := by decide +kernel
theorem dX5_lead_18 : decode cX5_lead 18 = .ok (.getfield 21, 3) := by decide +kernel
theorem dX5_lead_21 : decode cX5_lead 21 = .ok (.invokevirtual 180, 3) := by decide +kernel
theorem dX5_lead_24 : decode cX5_lead 24 = .ok (.iload_n 1, 1) := by decide +kernel
theorem dX5_lead_25 : decode cX5_lead 25 = .ok (.invokevirtual 161, 3) := by decide +kernel
theorem dX5_lead_28 : decode cX5_lead 28 = .ok (.ifCond .ne 6, 3) := by decide +kernel
theorem dX5_lead_31 : decode cX5_lead 31 = .ok (.bipush (-4), 2) := by decide +kernel
theorem dX5_lead_33 : decode cX5_lead 33 = .ok (.ireturn, 1) := by decide +kernel
theorem dX5_lead_34 : decode cX5_lead 34 = .ok (.aload_n 0, 1) := by decide +kernel
theorem dX5_lead_35 : decode cX5_lead 35 = .ok (.getfield 21, 3) := by decide +kernel
theorem dX5_lead_38 : decode cX5_lead 38 = .ok (.getfield 184, 3) := by decide +kernel
theorem dX5_lead_41 : decode cX5_lead 41 = .ok (.bipush 30, 2) := by decide +kernel
theorem dX5_lead_43 : decode cX5_lead 43 = .ok (.if_icmp .lt 6, 3) := by decide +kernel
theorem dX5_lead_46 : decode cX5_lead 46 = .ok (.bipush (-2), 2) := by decide +kernel
theorem dX5_lead_48 : decode cX5_lead 48 = .ok (.ireturn, 1) := by decide +kernel
theorem dX5_lead_49 : decode cX5_lead 49 = .ok (.aload_n 0, 1) := by decide +kernel
theorem dX5_lead_50 : decode cX5_lead 50 = .ok (.getfield 21, 3) := by decide +kernel
theorem dX5_lead_53 : decode cX5_lead 53 = .ok (.iload_n 1, 1) := by decide +kernel
theorem dX5_lead_54 : decode cX5_lead 54 = .ok (.invokevirtual 187, 3) := by decide +kernel
theorem dX5_lead_57 : decode cX5_lead 57 = .ok (.aload_n 0, 1) := by decide +kernel
theorem dX5_lead_58 : decode cX5_lead 58 = .ok (.getfield 21, 3) := by decide +kernel
theorem dX5_lead_61 : decode cX5_lead 61 = .ok (.getfield 184, 3) := by decide +kernel
theorem dX5_lead_64 : decode cX5_lead 64 = .ok (.ireturn, 1) := by decide +kernel
theorem dX5_drop_0 : decode cX5_drop 0 = .ok (.iload_n 1, 1) := by decide +kernel
theorem dX5_drop_1 : decode cX5_drop 1 = .ok (.iconst 3, 1) := by decide +kernel
theorem dX5_drop_2 : decode cX5_drop 2 = .ok (.invokestatic 74, 3) := by decide +kernel
theorem dX5_drop_5 : decode cX5_drop 5 = .ok (.ifCond .ne 5, 3) := by decide +kernel
theorem dX5_drop_8 : decode cX5_drop 8 = .ok (.iconst (-1), 1) := by decide +kernel
theorem dX5_drop_9 : decode cX5_drop 9 = .ok (.ireturn, 1) := by decide +kernel
theorem dX5_drop_10 : decode cX5_drop 10 = .ok (.aload_n 0, 1) := by decide +kernel
theorem dX5_drop_11 : decode cX5_drop 11 = .ok (.getfield 21, 3) := by decide +kernel
theorem dX5_drop_14 : decode cX5_drop 14 = .ok (.getfield 177, 3) := by decide +kernel
theorem dX5_drop_17 : decode cX5_drop 17 = .ok (.iload_n 1, 1) := by decide +kernel
theorem dX5_drop_18 : decode cX5_drop 18 = .ok (.iaload, 1) := by decide +kernel
theorem dX5_drop_19 : decode cX5_drop 19 = .ok (.ifCond .ne 6, 3) := by decide +kernel
theorem dX5_drop_22 : decode cX5_drop 22 = .ok (.bipush (-4), 2) := by decide +kernel
theorem dX5_drop_24 : decode cX5_drop 24 = .ok (.ireturn, 1) := by decide +kernel
theorem dX5_drop_25 : decode cX5_drop 25 = .ok (.aload_n 0, 1) := by decide +kernel
theorem dX5_drop_26 : decode cX5_drop 26 = .ok (.getfield 21, 3) := by decide +kernel
theorem dX5_drop_29 : decode cX5_drop 29 = .ok (.iload_n 1, 1) := by decide +kernel
theorem dX5_drop_30 : decode cX5_drop 30 = .ok (.invokevirtual 190, 3) := by decide +kernel
theorem dX5_drop_33 : decode cX5_drop 33 = .ok (.aload_n 0, 1) := by decide +kernel
theorem dX5_drop_34 : decode cX5_drop 34 = .ok (.getfield 21, 3) := by decide +kernel
theorem dX5_drop_37 : decode cX5_drop 37 = .ok (.getfield 177, 3) := by decide +kernel
theorem dX5_drop_40 : decode cX5_drop 40 = .ok (.iload_n 1, 1) := by decide +kernel
theorem dX5_drop_41 : decode cX5_drop 41 = .ok (.iaload, 1) := by decide +kernel
theorem dX5_drop_42 : decode cX5_drop 42 = .ok (.ireturn, 1) := by decide +kernel
theorem dX5_fool_0 : decode cX5_fool 0 = .ok (.aload_n 0, 1) := by decide +kernel
theorem dX5_fool_1 : decode cX5_fool 1 = .ok (.getfield 21, 3) := by decide +kernel
theorem dX5_fool_4 : decode cX5_fool 4 = .ok (.iload_n 1, 1) := by decide +kernel
theorem dX5_fool_5 : decode cX5_fool 5 = .ok (.invokevirtual 123, 3) := by decide +kernel
theorem dX5_fool_8 : decode cX5_fool 8 = .ok (.ifCond .eq 11, 3) := by decide +kernel
theorem dX5_fool_11 : decode cX5_fool 11 = .ok (.iload_n 2, 1) := by decide +kernel
theorem dX5_fool_12 : decode cX5_fool 12 = .ok (.iconst 3, 1) := by decide +kernel
theorem dX5_fool_13 : decode cX5_fool 13 = .ok (.invokestatic 74, 3) := by decide +kernel
theorem dX5_fool_16 : decode cX5_fool 16 = .ok (.ifCond .ne 5, 3) := by decide +kernel
theorem dX5_fool_19 : decode cX5_fool 19 = .ok (.iconst (-1), 1) := by decide +kernel
theorem dX5_fool_20 : decode cX5_fool 20 = .ok (.ireturn, 1) := by decide +kernel
theorem dX5_fool_21 : decode cX5_fool 21 = .ok (.aload_n 0, 1) := by decide +kernel
theorem dX5_fool_22 : decode cX5_fool 22 = .ok (.getfield 21, 3) := by decide +kernel
theorem dX5_fool_25 : decode cX5_fool 25 = .ok (.getfield 146, 3) := by decide +kernel
theorem dX5_fool_28 : decode cX5_fool 28 = .ok (.iload_n 2, 1) := by decide +kernel
theorem dX5_fool_29 : decode cX5_fool 29 = .ok (.aaload, 1) := by decide +kernel
theorem dX5_fool_30 : decode cX5_fool 30 = .ok (.iload_n 1, 1) := by decide +kernel
theorem dX5_fool_31 : decode cX5_fool 31 = .ok (.iaload, 1) := by decide +kernel
theorem dX5_fool_32 : decode cX5_fool 32 = .ok (.bipush 20, 2) := by decide +kernel
theorem dX5_fool_34 : decode cX5_fool 34 = .ok (.if_icmp .lt 6, 3) := by decide +kernel
theorem dX5_fool_37 : decode cX5_fool 37 = .ok (.bipush (-2), 2) := by decide +kernel
theorem dX5_fool_39 : decode cX5_fool 39 = .ok (.ireturn, 1) := by decide +kernel
theorem dX5_fool_40 : decode cX5_fool 40 = .ok (.aload_n 0, 1) := by decide +kernel
theorem dX5_fool_41 : decode cX5_fool 41 = .ok (.getfield 21, 3) := by decide +kernel
theorem dX5_fool_44 : decode cX5_fool 44 = .ok (.iload_n 1, 1) := by decide +kernel
theorem dX5_fool_45 : decode cX5_fool 45 = .ok (.iload_n 2, 1) := by decide +kernel
theorem dX5_fool_46 : decode cX5_fool 46 = .ok (.invokevirtual 193, 3) := by decide +kernel
theorem dX5_fool_49 : decode cX5_fool 49 = .ok (.aload_n 0, 1) := by decide +kernel
theorem dX5_fool_50 : decode cX5_fool 50 = .ok (.getfield 21, 3) := by decide +kernel
theorem dX5_fool_53 : decode cX5_fool 53 = .ok (.getfield 146, 3) := by decide +kernel
theorem dX5_fool_56 : decode cX5_fool 56 = .ok (.iload_n 2, 1) := by decide +kernel
theorem dX5_fool_57 : decode cX5_fool 57 = .ok (.aaload, 1) := by decide +kernel
theorem dX5_fool_58 : decode cX5_fool 58 = .ok (.iload_n 1, 1) := by decide +kernel
theorem dX5_fool_59 : decode cX5_fool 59 = .ok (.iaload, 1) := by decide +kernel
theorem dX5_fool_60 : decode cX5_fool 60 = .ok (.ireturn, 1) := by decide +kernel
theorem dX5_take_0 : decode cX5_take 0 = .ok (.aload_n 0, 1) := by decide +kernel
theorem dX5_take_1 : decode cX5_take 1 = .ok (.getfield 21, 3) := by decide +kernel
theorem dX5_take_4 : decode cX5_take 4 = .ok (.iload_n 1, 1) := by decide +kernel
theorem dX5_take_5 : decode cX5_take 5 = .ok (.invokevirtual 123, 3) := by decide +kernel
theorem dX5_take_8 : decode cX5_take 8 = .ok (.ifCond .eq 11, 3) := by decide +kernel
theorem dX5_take_11 : decode cX5_take 11 = .ok (.iload_n 2, 1) := by decide +kernel
theorem dX5_take_12 : decode cX5_take 12 = .ok (.iconst 3, 1) := by decide +kernel
theorem dX5_take_13 : decode cX5_take 13 = .ok (.invokestatic 74, 3) := by decide +kernel
theorem dX5_take_16 : decode cX5_take 16 = .ok (.ifCond .ne 5, 3) := by decide +kernel
theorem dX5_take_19 : decode cX5_take 19 = .ok (.iconst (-1), 1) := by decide +kernel
theorem dX5_take_20 : decode cX5_take 20 = .ok (.ireturn, 1) := by decide +kernel
theorem dX5_take_21 : decode cX5_take 21 = .ok (.aload_n 0, 1) := by decide +kernel
theorem dX5_take_22 : decode cX5_take 22 = .ok (.getfield 21, 3) := by decide +kernel
theorem dX5_take_25 : decode cX5_take 25 = .ok (.getfield 146, 3) := by decide +kernel
theorem dX5_take_28 : decode cX5_take 28 = .ok (.iload_n 2, 1) := by decide +kernel
theorem dX5_take_29 : decode cX5_take 29 = .ok (.aaload, 1) := by decide +kernel
theorem dX5_take_30 : decode cX5_take 30 = .ok (.iload_n 1, 1) := by decide +kernel
theorem dX5_take_31 : decode cX5_take 31 = .ok (.iaload, 1) := by decide +kernel
theorem dX5_take_32 : decode cX5_take 32 = .ok (.istore_n 3, 1) := by decide +kernel
theorem dX5_take_33 : decode cX5_take 33 = .ok (.aload_n 0, 1) := by decide +kernel
theorem dX5_take_34 : decode cX5_take 34 = .ok (.getfield 21, 3) := by decide +kernel
theorem dX5_take_37 : decode cX5_take 37 = .ok (.getfield 146, 3) := by decide +kernel
theorem dX5_take_40 : decode cX5_take 40 = .ok (.iload_n 2, 1) := by decide +kernel
theorem dX5_take_41 : decode cX5_take 41 = .ok (.aaload, 1) := by decide +kernel
theorem dX5_take_42 : decode cX5_take 42 = .ok (.iload_n 1, 1) := by decide +kernel
theorem dX5_take_43 : decode cX5_take 43 = .ok (.iconst 0, 1) := by decide +kernel
theorem dX5_take_44 : decode cX5_take 44 = .ok (.iastore, 1) := by decide +kernel
theorem dX5_take_45 : decode cX5_take 45 = .ok (.iload_n 3, 1) := by decide +kernel
theorem dX5_take_46 : decode cX5_take 46 = .ok (.ireturn, 1) := by decide +kernel
theorem dX5_hours_0 : decode cX5_hours 0 = .ok (.iload_n 1, 1) := by decide +kernel
theorem dX5_hours_1 : decode cX5_hours 1 = .ok (.bipush 40, 2) := by decide +kernel
theorem dX5_hours_3 : decode cX5_hours 3 = .ok (.invokestatic 196, 3) := by decide +kernel
theorem dX5_hours_6 : decode cX5_hours 6 = .ok (.ifCond .ne 5, 3) := by decide +kernel
theorem dX5_hours_9 : decode cX5_hours 9 = .ok (.iconst (-1), 1) := by decide +kernel
theorem dX5_hours_10 : decode cX5_hours 10 = .ok (.ireturn, 1) := by decide +kernel
theorem dX5_hours_11 : decode cX5_hours 11 = .ok (.aload_n 0, 1) := by decide +kernel
theorem dX5_hours_12 : decode cX5_hours 12 = .ok (.getfield 21, 3) := by decide +kernel
theorem dX5_hours_15 : decode cX5_hours 15 = .ok (.invokevirtual 199, 3) := by decide +kernel
theorem dX5_hours_18 : decode cX5_hours 18 = .ok (.ifCond .eq 6, 3) := by decide +kernel
theorem dX5_hours_21 : decode cX5_hours 21 = .ok (.bipush (-4), 2) := by decide +kernel
theorem dX5_hours_23 : decode cX5_hours 23 = .ok (.ireturn, 1) := by decide +kernel
theorem dX5_hours_24 : decode cX5_hours 24 = .ok (.aload_n 0, 1) := by decide +kernel
theorem dX5_hours_25 : decode cX5_hours 25 = .ok (.getfield 21, 3) := by decide +kernel
theorem dX5_hours_28 : decode cX5_hours 28 = .ok (.iload_n 1, 1) := by decide +kernel
theorem dX5_hours_29 : decode cX5_hours 29 = .ok (.invokevirtual 202, 3) := by decide +kernel
theorem dX5_hours_32 : decode cX5_hours 32 = .ok (.ireturn, 1) := by decide +kernel
theorem dX5_here_0 : decode cX5_here 0 = .ok (.aload_n 0, 1) := by decide +kernel
theorem dX5_here_1 : decode cX5_here 1 = .ok (.getfield 21, 3) := by decide +kernel
theorem dX5_here_4 : decode cX5_here 4 = .ok (.invokevirtual 199, 3) := by decide +kernel
theorem dX5_here_7 : decode cX5_here 7 = .ok (.ifCond .eq 6, 3) := by decide +kernel
theorem dX5_here_10 : decode cX5_here 10 = .ok (.bipush (-4), 2) := by decide +kernel
theorem dX5_here_12 : decode cX5_here 12 = .ok (.ireturn, 1) := by decide +kernel
theorem dX5_here_13 : decode cX5_here 13 = .ok (.aload_n 0, 1) := by decide +kernel
theorem dX5_here_14 : decode cX5_here 14 = .ok (.aload_n 0, 1) := by decide +kernel
theorem dX5_here_15 : decode cX5_here 15 = .ok (.getfield 21, 3) := by decide +kernel
theorem dX5_here_18 : decode cX5_here 18 = .ok (.getfield 184, 3) := by decide +kernel
theorem dX5_here_21 : decode cX5_here 21 = .ok (.putfield 61, 3) := by decide +kernel
theorem dX5_here_24 : decode cX5_here 24 = .ok (.aload_n 0, 1) := by decide +kernel
theorem dX5_here_25 : decode cX5_here 25 = .ok (.getfield 21, 3) := by decide +kernel
theorem dX5_here_28 : decode cX5_here 28 = .ok (.invokevirtual 180, 3) := by decide +kernel
theorem dX5_here_31 : decode cX5_here 31 = .ok (.ireturn, 1) := by decide +kernel
theorem dX5_led_0 : decode cX5_led 0 = .ok (.iload_n 1, 1) := by decide +kernel
theorem dX5_led_1 : decode cX5_led 1 = .ok (.bipush 6, 2) := by decide +kernel
theorem dX5_led_3 : decode cX5_led 3 = .ok (.invokestatic 74, 3) := by decide +kernel
theorem dX5_led_6 : decode cX5_led 6 = .ok (.ifCond .ne 5, 3) := by decide +kernel
theorem dX5_led_9 : decode cX5_led 9 = .ok (.iconst (-1), 1) := by decide +kernel
theorem dX5_led_10 : decode cX5_led 10 = .ok (.ireturn, 1) := by decide +kernel
theorem dX5_led_11 : decode cX5_led 11 = .ok (.aload_n 0, 1) := by decide +kernel
theorem dX5_led_12 : decode cX5_led 12 = .ok (.getfield 21, 3) := by decide +kernel
theorem dX5_led_15 : decode cX5_led 15 = .ok (.invokevirtual 199, 3) := by decide +kernel
theorem dX5_led_18 : decode cX5_led 18 = .ok (.ifCond .eq 6, 3) := by decide +kernel
theorem dX5_led_21 : decode cX5_led 21 = .ok (.bipush (-4), 2) := by decide +kernel
theorem dX5_led_23 : decode cX5_led 23 = .ok (.ireturn, 1) := by decide +kernel
theorem dX5_led_24 : decode cX5_led 24 = .ok (.aload_n 0, 1) := by decide +kernel
theorem dX5_led_25 : decode cX5_led 25 = .ok (.getfield 11, 3) := by decide +kernel
theorem dX5_led_28 : decode cX5_led 28 = .ok (.iload_n 1, 1) := by decide +kernel
theorem dX5_led_29 : decode cX5_led 29 = .ok (.aaload, 1) := by decide +kernel
theorem dX5_led_30 : decode cX5_led 30 = .ok (.aload_n 0, 1) := by decide +kernel
theorem dX5_led_31 : decode cX5_led 31 = .ok (.getfield 21, 3) := by decide +kernel
theorem dX5_led_34 : decode cX5_led 34 = .ok (.getfield 205, 3) := by decide +kernel
theorem dX5_led_37 : decode cX5_led 37 = .ok (.aload_n 0, 1) := by decide +kernel
theorem dX5_led_38 : decode cX5_led 38 = .ok (.getfield 21, 3) := by decide +kernel
theorem dX5_led_41 : decode cX5_led 41 = .ok (.getfield 184, 3) := by decide +kernel
theorem dX5_led_44 : decode cX5_led 44 = .ok (.iconst 1, 1) := by decide +kernel
theorem dX5_led_45 : decode cX5_led 45 = .ok (.iadd, 1) := by decide +kernel
theorem dX5_led_46 : decode cX5_led 46 = .ok (.invokevirtual 208, 3) := by decide +kernel
theorem dX5_led_49 : decode cX5_led 49 = .ok (.ireturn, 1) := by decide +kernel
theorem dX5_keep_0 : decode cX5_keep 0 = .ok (.iload_n 1, 1) := by decide +kernel
theorem dX5_keep_1 : decode cX5_keep 1 = .ok (.iconst 3, 1) := by decide +kernel
theorem dX5_keep_2 : decode cX5_keep 2 = .ok (.invokestatic 74, 3) := by decide +kernel
theorem dX5_keep_5 : decode cX5_keep 5 = .ok (.ifCond .ne 5, 3) := by decide +kernel
theorem dX5_keep_8 : decode cX5_keep 8 = .ok (.iconst (-1), 1) := by decide +kernel
theorem dX5_keep_9 : decode cX5_keep 9 = .ok (.ireturn, 1) := by decide +kernel
theorem dX5_keep_10 : decode cX5_keep 10 = .ok (.aload_n 0, 1) := by decide +kernel
theorem dX5_keep_11 : decode cX5_keep 11 = .ok (.getfield 21, 3) := by decide +kernel
theorem dX5_keep_14 : decode cX5_keep 14 = .ok (.invokevirtual 199, 3) := by decide +kernel
theorem dX5_keep_17 : decode cX5_keep 17 = .ok (.ifCond .eq 6, 3) := by decide +kernel
theorem dX5_keep_20 : decode cX5_keep 20 = .ok (.bipush (-4), 2) := by decide +kernel
theorem dX5_keep_22 : decode cX5_keep 22 = .ok (.ireturn, 1) := by decide +kernel
theorem dX5_keep_23 : decode cX5_keep 23 = .ok (.aload_n 0, 1) := by decide +kernel
theorem dX5_keep_24 : decode cX5_keep 24 = .ok (.getfield 25, 3) := by decide +kernel
theorem dX5_keep_27 : decode cX5_keep 27 = .ok (.iload_n 1, 1) := by decide +kernel
theorem dX5_keep_28 : decode cX5_keep 28 = .ok (.aaload, 1) := by decide +kernel
theorem dX5_keep_29 : decode cX5_keep 29 = .ok (.aload_n 0, 1) := by decide +kernel
theorem dX5_keep_30 : decode cX5_keep 30 = .ok (.getfield 21, 3) := by decide +kernel
theorem dX5_keep_33 : decode cX5_keep 33 = .ok (.invokevirtual 116, 3) := by decide +kernel
theorem dX5_keep_36 : decode cX5_keep 36 = .ok (.aload_n 0, 1) := by decide +kernel
theorem dX5_keep_37 : decode cX5_keep 37 = .ok (.getfield 21, 3) := by decide +kernel
theorem dX5_keep_40 : decode cX5_keep 40 = .ok (.getfield 184, 3) := by decide +kernel
theorem dX5_keep_43 : decode cX5_keep 43 = .ok (.ireturn, 1) := by decide +kernel
theorem dX5_on_0 : decode cX5_on 0 = .ok (.iload_n 1, 1) := by decide +kernel
theorem dX5_on_1 : decode cX5_on 1 = .ok (.iconst 3, 1) := by decide +kernel
theorem dX5_on_2 : decode cX5_on 2 = .ok (.invokestatic 74, 3) := by decide +kernel
theorem dX5_on_5 : decode cX5_on 5 = .ok (.ifCond .ne 5, 3) := by decide +kernel
theorem dX5_on_8 : decode cX5_on 8 = .ok (.iconst (-1), 1) := by decide +kernel
theorem dX5_on_9 : decode cX5_on 9 = .ok (.ireturn, 1) := by decide +kernel
theorem dX5_on_10 : decode cX5_on 10 = .ok (.aload_n 0, 1) := by decide +kernel
theorem dX5_on_11 : decode cX5_on 11 = .ok (.getfield 25, 3) := by decide +kernel
theorem dX5_on_14 : decode cX5_on 14 = .ok (.iload_n 1, 1) := by decide +kernel
theorem dX5_on_15 : decode cX5_on 15 = .ok (.aaload, 1) := by decide +kernel
theorem dX5_on_16 : decode cX5_on 16 = .ok (.invokevirtual 199, 3) := by decide +kernel
theorem dX5_on_19 : decode cX5_on 19 = .ok (.ifCond .eq 9, 3) := by decide +kernel
theorem dX5_on_22 : decode cX5_on 22 = .ok (.aload_n 0, 1) := by decide +kernel
theorem dX5_on_23 : decode cX5_on 23 = .ok (.iconst 1, 1) := by decide +kernel
theorem dX5_on_24 : decode cX5_on 24 = .ok (.invokevirtual 78, 3) := by decide +kernel
theorem dX5_on_27 : decode cX5_on 27 = .ok (.ireturn, 1) := by decide +kernel
theorem dX5_on_28 : decode cX5_on 28 = .ok (.aload_n 0, 1) := by decide +kernel
theorem dX5_on_29 : decode cX5_on 29 = .ok (.getfield 21, 3) := by decide +kernel
theorem dX5_on_32 : decode cX5_on 32 = .ok (.aload_n 0, 1) := by decide +kernel
theorem dX5_on_33 : decode cX5_on 33 = .ok (.getfield 25, 3) := by decide +kernel
theorem dX5_on_36 : decode cX5_on 36 = .ok (.iload_n 1, 1) := by decide +kernel
theorem dX5_on_37 : decode cX5_on 37 = .ok (.aaload, 1) := by decide +kernel
theorem dX5_on_38 : decode cX5_on 38 = .ok (.invokevirtual 116, 3) := by decide +kernel
theorem dX5_on_41 : decode cX5_on 41 = .ok (.aload_n 0, 1) := by decide +kernel
theorem dX5_on_42 : decode cX5_on 42 = .ok (.getfield 21, 3) := by decide +kernel
theorem dX5_on_45 : decode cX5_on 45 = .ok (.getfield 184, 3) := by decide +kernel
theorem dX5_on_48 : decode cX5_on 48 = .ok (.ireturn, 1) := by decide +kernel
theorem dX5_home_0 : decode cX5_home 0 = .ok (.aload_n 0, 1) := by decide +kernel
theorem dX5_home_1 : decode cX5_home 1 = .ok (.getfield 21, 3) := by decide +kernel
theorem dX5_home_4 : decode cX5_home 4 = .ok (.invokevirtual 199, 3) := by decide +kernel
theorem dX5_home_7 : decode cX5_home 7 = .ok (.ifCond .eq 6, 3) := by decide +kernel
theorem dX5_home_10 : decode cX5_home 10 = .ok (.bipush (-4), 2) := by decide +kernel
theorem dX5_home_12 : decode cX5_home 12 = .ok (.ireturn, 1) := by decide +kernel
theorem dX5_home_13 : decode cX5_home 13 = .ok (.aload_n 0, 1) := by decide +kernel
theorem dX5_home_14 : decode cX5_home 14 = .ok (.getfield 42, 3) := by decide +kernel
theorem dX5_home_17 : decode cX5_home 17 = .ok (.aload_n 0, 1) := by decide +kernel
theorem dX5_home_18 : decode cX5_home 18 = .ok (.getfield 21, 3) := by decide +kernel
theorem dX5_home_21 : decode cX5_home 21 = .ok (.invokevirtual 212, 3) := by decide +kernel
theorem dX5_home_24 : decode cX5_home 24 = .ok (.istore_n 1, 1) := by decide +kernel
theorem dX5_home_25 : decode cX5_home 25 = .ok (.aload_n 0, 1) := by decide +kernel
theorem dX5_home_26 : decode cX5_home 26 = .ok (.aload_n 0, 1) := by decide +kernel
theorem dX5_home_27 : decode cX5_home 27 = .ok (.getfield 42, 3) := by decide +kernel
theorem dX5_home_30 : decode cX5_home 30 = .ok (.getfield 216, 3) := by decide +kernel
theorem dX5_home_33 : decode cX5_home 33 = .ok (.putfield 61, 3) := by decide +kernel
theorem dX5_home_36 : decode cX5_home 36 = .ok (.iload_n 1, 1) := by decide +kernel
theorem dX5_home_37 : decode cX5_home 37 = .ok (.ifCond .eq 7, 3) := by decide +kernel
theorem dX5_home_40 : decode cX5_home 40 = .ok (.iconst 1, 1) := by decide +kernel
theorem dX5_home_41 : decode cX5_home 41 = .ok (.goto 4, 3) := by decide +kernel
theorem dX5_home_44 : decode cX5_home 44 = .ok (.iconst 0, 1) := by decide +kernel
theorem dX5_home_45 : decode cX5_home 45 = .ok (.ireturn, 1) := by decide +kernel
theorem dX5_back_0 : decode cX5_back 0 = .ok (.iload_n 1, 1) := by decide +kernel
theorem dX5_back_1 : decode cX5_back 1 = .ok (.bipush 6, 2) := by decide +kernel
theorem dX5_back_3 : decode cX5_back 3 = .ok (.invokestatic 74, 3) := by decide +kernel
theorem dX5_back_6 : decode cX5_back 6 = .ok (.ifCond .ne 5, 3) := by decide +kernel
theorem dX5_back_9 : decode cX5_back 9 = .ok (.iconst (-1), 1) := by decide +kernel
theorem dX5_back_10 : decode cX5_back 10 = .ok (.ireturn, 1) := by decide +kernel
theorem dX5_back_11 : decode cX5_back 11 = .ok (.aload_n 0, 1) := by decide +kernel
theorem dX5_back_12 : decode cX5_back 12 = .ok (.getfield 21, 3) := by decide +kernel
theorem dX5_back_15 : decode cX5_back 15 = .ok (.invokevirtual 199, 3) := by decide +kernel
theorem dX5_back_18 : decode cX5_back 18 = .ok (.ifCond .eq 6, 3) := by decide +kernel
theorem dX5_back_21 : decode cX5_back 21 = .ok (.bipush (-4), 2) := by decide +kernel
theorem dX5_back_23 : decode cX5_back 23 = .ok (.ireturn, 1) := by decide +kernel
theorem dX5_back_24 : decode cX5_back 24 = .ok (.aload_n 0, 1) := by decide +kernel
theorem dX5_back_25 : decode cX5_back 25 = .ok (.getfield 42, 3) := by decide +kernel
theorem dX5_back_28 : decode cX5_back 28 = .ok (.aload_n 0, 1) := by decide +kernel
theorem dX5_back_29 : decode cX5_back 29 = .ok (.getfield 21, 3) := by decide +kernel
theorem dX5_back_32 : decode cX5_back 32 = .ok (.invokevirtual 212, 3) := by decide +kernel
theorem dX5_back_35 : decode cX5_back 35 = .ok (.pop, 1) := by decide +kernel
theorem dX5_back_36 : decode cX5_back 36 = .ok (.aload_n 0, 1) := by decide +kernel
theorem dX5_back_37 : decode cX5_back 37 = .ok (.getfield 11, 3) := by decide +kernel
theorem dX5_back_40 : decode cX5_back 40 = .ok (.iload_n 1, 1) := by decide +kernel
theorem dX5_back_41 : decode cX5_back 41 = .ok (.aaload, 1) := by decide +kernel
theorem dX5_back_42 : decode cX5_back 42 = .ok (.aload_n 0, 1) := by decide +kernel
theorem dX5_back_43 : decode cX5_back 43 = .ok (.getfield 42, 3) := by decide +kernel
theorem dX5_back_46 : decode cX5_back 46 = .ok (.getfield 217, 3) := by decide +kernel
theorem dX5_back_49 : decode cX5_back 49 = .ok (.aload_n 0, 1) := by decide +kernel
theorem dX5_back_50 : decode cX5_back 50 = .ok (.getfield 42, 3) := by decide +kernel
theorem dX5_back_53 : decode cX5_back 53 = .ok (.getfield 216, 3) := by decide +kernel
theorem dX5_back_56 : decode cX5_back 56 = .ok (.iconst 1, 1) := by decide +kernel
theorem dX5_back_57 : decode cX5_back 57 = .ok (.iadd, 1) := by decide +kernel
theorem dX5_back_58 : decode cX5_back 58 = .ok (.invokevirtual 208, 3) := by decide +kernel
theorem dX5_back_61 : decode cX5_back 61 = .ok (.ireturn, 1) := by decide +kernel
theorem dX5_wrong_0 : decode cX5_wrong 0 = .ok (.aload_n 0, 1) := by decide +kernel
theorem dX5_wrong_1 : decode cX5_wrong 1 = .ok (.getfield 21, 3) := by decide +kernel
theorem dX5_wrong_4 : decode cX5_wrong 4 = .ok (.invokevirtual 199, 3) := by decide +kernel
theorem dX5_wrong_7 : decode cX5_wrong 7 = .ok (.ifCond .eq 6, 3) := by decide +kernel
theorem dX5_wrong_10 : decode cX5_wrong 10 = .ok (.bipush (-4), 2) := by decide +kernel
theorem dX5_wrong_12 : decode cX5_wrong 12 = .ok (.ireturn, 1) := by decide +kernel
theorem dX5_wrong_13 : decode cX5_wrong 13 = .ok (.aload_n 0, 1) := by decide +kernel
theorem dX5_wrong_14 : decode cX5_wrong 14 = .ok (.getfield 42, 3) := by decide +kernel
theorem dX5_wrong_17 : decode cX5_wrong 17 = .ok (.aload_n 0, 1) := by decide +kernel
theorem dX5_wrong_18 : decode cX5_wrong 18 = .ok (.getfield 21, 3) := by decide +kernel
theorem dX5_wrong_21 : decode cX5_wrong 21 = .ok (.invokevirtual 212, 3) := by decide +kernel
theorem dX5_wrong_24 : decode cX5_wrong 24 = .ok (.pop, 1) := by decide +kernel
theorem dX5_wrong_25 : decode cX5_wrong 25 = .ok (.aload_n 0, 1) := by decide +kernel
theorem dX5_wrong_26 : decode cX5_wrong 26 = .ok (.getfield 42, 3) := by decide +kernel
theorem dX5_wrong_29 : decode cX5_wrong 29 = .ok (.getfield 216, 3) := by decide +kernel
theorem dX5_wrong_32 : decode cX5_wrong 32 = .ok (.aload_n 0, 1) := by decide +kernel
theorem dX5_wrong_33 : decode cX5_wrong 33 = .ok (.getfield 21, 3) := by decide +kernel
theorem dX5_wrong_36 : decode cX5_wrong 36 = .ok (.getfield 184, 3) := by decide +kernel
theorem dX5_wrong_39 : decode cX5_wrong 39 = .ok (.invokestatic 220, 3) := by decide +kernel
theorem dX5_wrong_42 : decode cX5_wrong 42 = .ok (.istore_n 1, 1) := by decide +kernel
theorem dX5_wrong_43 : decode cX5_wrong 43 = .ok (.iconst 0, 1) := by decide +kernel
theorem dX5_wrong_44 : decode cX5_wrong 44 = .ok (.istore_n 2, 1) := by decide +kernel
theorem dX5_wrong_45 : decode cX5_wrong 45 = .ok (.iload_n 2, 1) := by decide +kernel
theorem dX5_wrong_46 : decode cX5_wrong 46 = .ok (.iload_n 1, 1) := by decide +kernel
theorem dX5_wrong_47 : decode cX5_wrong 47 = .ok (.if_icmp .ge 44, 3) := by decide +kernel
theorem dX5_wrong_50 : decode cX5_wrong 50 = .ok (.aload_n 0, 1) := by decide +kernel
theorem dX5_wrong_51 : decode cX5_wrong 51 = .ok (.getfield 42, 3) := by decide +kernel
theorem dX5_wrong_54 : decode cX5_wrong 54 = .ok (.getfield 217, 3) := by decide +kernel
theorem dX5_wrong_57 : decode cX5_wrong 57 = .ok (.iload_n 2, 1) := by decide +kernel
theorem dX5_wrong_58 : decode cX5_wrong 58 = .ok (.iconst 1, 1) := by decide +kernel
theorem dX5_wrong_59 : decode cX5_wrong 59 = .ok (.iadd, 1) := by decide +kernel
theorem dX5_wrong_60 : decode cX5_wrong 60 = .ok (.iaload, 1) := by decide +kernel
theorem dX5_wrong_61 : decode cX5_wrong 61 = .ok (.aload_n 0, 1) := by decide +kernel
theorem dX5_wrong_62 : decode cX5_wrong 62 = .ok (.getfield 21, 3) := by decide +kernel
theorem dX5_wrong_65 : decode cX5_wrong 65 = .ok (.getfield 205, 3) := by decide +kernel
theorem dX5_wrong_68 : decode cX5_wrong 68 = .ok (.aload_n 0, 1) := by decide +kernel
theorem dX5_wrong_69 : decode cX5_wrong 69 = .ok (.getfield 21, 3) := by decide +kernel
theorem dX5_wrong_72 : decode cX5_wrong 72 = .ok (.getfield 184, 3) := by decide +kernel
theorem dX5_wrong_75 : decode cX5_wrong 75 = .ok (.iload_n 2, 1) := by decide +kernel
theorem dX5_wrong_76 : decode cX5_wrong 76 = .ok (.isub, 1) := by decide +kernel
theorem dX5_wrong_77 : decode cX5_wrong 77 = .ok (.iconst 1, 1) := by decide +kernel
theorem dX5_wrong_78 : decode cX5_wrong 78 = .ok (.isub, 1) := by decide +kernel
theorem dX5_wrong_79 : decode cX5_wrong 79 = .ok (.iaload, 1) := by decide +kernel
theorem dX5_wrong_80 : decode cX5_wrong 80 = .ok (.if_icmp .eq 5, 3) := by decide +kernel
theorem dX5_wrong_83 : decode cX5_wrong 83 = .ok (.iload_n 2, 1) := by decide +kernel
theorem dX5_wrong_84 : decode cX5_wrong 84 = .ok (.ireturn, 1) := by decide +kernel
theorem dX5_wrong_85 : decode cX5_wrong 85 = .ok (.iinc 2 1, 3) := by decide +kernel
theorem dX5_wrong_88 : decode cX5_wrong 88 = .ok (.goto (-43), 3) := by decide +kernel
theorem dX5_wrong_91 : decode cX5_wrong 91 = .ok (.bipush (-9), 2) := by decide +kernel
theorem dX5_wrong_93 : decode cX5_wrong 93 = .ok (.ireturn, 1) := by decide +kernel
theorem dX5_waits_0 : decode cX5_waits 0 = .ok (.aload_n 0, 1) := by decide +kernel
theorem dX5_waits_1 : decode cX5_waits 1 = .ok (.getfield 21, 3) := by decide +kernel
theorem dX5_waits_4 : decode cX5_waits 4 = .ok (.invokevirtual 199, 3) := by decide +kernel
theorem dX5_waits_7 : decode cX5_waits 7 = .ok (.ifCond .eq 6, 3) := by decide +kernel
theorem dX5_waits_10 : decode cX5_waits 10 = .ok (.bipush (-4), 2) := by decide +kernel
theorem dX5_waits_12 : decode cX5_waits 12 = .ok (.ireturn, 1) := by decide +kernel
theorem dX5_waits_13 : decode cX5_waits 13 = .ok (.aload_n 0, 1) := by decide +kernel
theorem dX5_waits_14 : decode cX5_waits 14 = .ok (.getfield 29, 3) := by decide +kernel
theorem dX5_waits_17 : decode cX5_waits 17 = .ok (.aload_n 0, 1) := by decide +kernel
theorem dX5_waits_18 : decode cX5_waits 18 = .ok (.getfield 21, 3) := by decide +kernel
theorem dX5_waits_21 : decode cX5_waits 21 = .ok (.invokevirtual 116, 3) := by decide +kernel
theorem dX5_waits_24 : decode cX5_waits 24 = .ok (.iconst 0, 1) := by decide +kernel
theorem dX5_waits_25 : decode cX5_waits 25 = .ok (.istore_n 1, 1) := by decide +kernel
theorem dX5_waits_26 : decode cX5_waits 26 = .ok (.iload_n 1, 1) := by decide +kernel
theorem dX5_waits_27 : decode cX5_waits 27 = .ok (.bipush 60, 2) := by decide +kernel
theorem dX5_waits_29 : decode cX5_waits 29 = .ok (.if_icmp .gt 34, 3) := by decide +kernel
theorem dX5_waits_32 : decode cX5_waits 32 = .ok (.aload_n 0, 1) := by decide +kernel
theorem dX5_waits_33 : decode cX5_waits 33 = .ok (.getfield 42, 3) := by decide +kernel
theorem dX5_waits_36 : decode cX5_waits 36 = .ok (.aload_n 0, 1) := by decide +kernel
theorem dX5_waits_37 : decode cX5_waits 37 = .ok (.getfield 29, 3) := by decide +kernel
theorem dX5_waits_40 : decode cX5_waits 40 = .ok (.invokevirtual 212, 3) := by decide +kernel
theorem dX5_waits_43 : decode cX5_waits 43 = .ok (.ifCond .ne 5, 3) := by decide +kernel
theorem dX5_waits_46 : decode cX5_waits 46 = .ok (.iload_n 1, 1) := by decide +kernel
theorem dX5_waits_47 : decode cX5_waits 47 = .ok (.ireturn, 1) := by decide +kernel
theorem dX5_waits_48 : decode cX5_waits 48 = .ok (.aload_n 0, 1) := by decide +kernel
theorem dX5_waits_49 : decode cX5_waits 49 = .ok (.getfield 29, 3) := by decide +kernel
theorem dX5_waits_52 : decode cX5_waits 52 = .ok (.iconst 1, 1) := by decide +kernel
theorem dX5_waits_53 : decode cX5_waits 53 = .ok (.invokevirtual 202, 3) := by decide +kernel
theorem dX5_waits_56 : decode cX5_waits 56 = .ok (.pop, 1) := by decide +kernel
theorem dX5_waits_57 : decode cX5_waits 57 = .ok (.iinc 1 1, 3) := by decide +kernel
theorem dX5_waits_60 : decode cX5_waits 60 = .ok (.goto (-34), 3) := by decide +kernel
theorem dX5_waits_63 : decode cX5_waits 63 = .ok (.bipush (-9), 2) := by decide +kernel
theorem dX5_waits_65 : decode cX5_waits 65 = .ok (.ireturn, 1) := by decide +kernel
theorem dX5_nearest_0 : decode cX5_nearest 0 = .ok (.aload_n 0, 1) := by decide +kernel
theorem dX5_nearest_1 : decode cX5_nearest 1 = .ok (.getfield 21, 3) := by decide +kernel
theorem dX5_nearest_4 : decode cX5_nearest 4 = .ok (.invokevirtual 199, 3) := by decide +kernel
theorem dX5_nearest_7 : decode cX5_nearest 7 = .ok (.ifCond .eq 6, 3) := by decide +kernel
theorem dX5_nearest_10 : decode cX5_nearest 10 = .ok (.bipush (-4), 2) := by decide +kernel
theorem dX5_nearest_12 : decode cX5_nearest 12 = .ok (.ireturn, 1) := by decide +kernel
theorem dX5_nearest_13 : decode cX5_nearest 13 = .ok (.iconst 0, 1) := by decide +kernel
theorem dX5_nearest_14 : decode cX5_nearest 14 = .ok (.istore_n 1, 1) := by decide +kernel
theorem dX5_nearest_15 : decode cX5_nearest 15 = .ok (.iload_n 1, 1) := by decide +kernel
theorem dX5_nearest_16 : decode cX5_nearest 16 = .ok (.aload_n 0, 1) := by decide +kernel
theorem dX5_nearest_17 : decode cX5_nearest 17 = .ok (.getfield 21, 3) := by decide +kernel
theorem dX5_nearest_20 : decode cX5_nearest 20 = .ok (.getfield 120, 3) := by decide +kernel
theorem dX5_nearest_23 : decode cX5_nearest 23 = .ok (.if_icmp .ge 40, 3) := by decide +kernel
theorem dX5_nearest_26 : decode cX5_nearest 26 = .ok (.aload_n 0, 1) := by decide +kernel
theorem dX5_nearest_27 : decode cX5_nearest 27 = .ok (.getfield 49, 3) := by decide +kernel
theorem dX5_nearest_30 : decode cX5_nearest 30 = .ok (.aload_n 0, 1) := by decide +kernel
theorem dX5_nearest_31 : decode cX5_nearest 31 = .ok (.getfield 21, 3) := by decide +kernel
theorem dX5_nearest_34 : decode cX5_nearest 34 = .ok (.iload_n 1, 1) := by decide +kernel
theorem dX5_nearest_35 : decode cX5_nearest 35 = .ok (.aload_n 0, 1) := by decide +kernel
theorem dX5_nearest_36 : decode cX5_nearest 36 = .ok (.getfield 21, 3) := by decide +kernel
theorem dX5_nearest_39 : decode cX5_nearest 39 = .ok (.invokevirtual 225, 3) := by decide +kernel
theorem dX5_nearest_42 : decode cX5_nearest 42 = .ok (.invokevirtual 228, 3) := by decide +kernel
theorem dX5_nearest_45 : decode cX5_nearest 45 = .ok (.istore_n 2, 1) := by decide +kernel
theorem dX5_nearest_46 : decode cX5_nearest 46 = .ok (.iload_n 2, 1) := by decide +kernel
theorem dX5_nearest_47 : decode cX5_nearest 47 = .ok (.ifCond .le 10, 3) := by decide +kernel
theorem dX5_nearest_50 : decode cX5_nearest 50 = .ok (.aload_n 0, 1) := by decide +kernel
theorem dX5_nearest_51 : decode cX5_nearest 51 = .ok (.iload_n 2, 1) := by decide +kernel
theorem dX5_nearest_52 : decode cX5_nearest 52 = .ok (.putfield 61, 3) := by decide +kernel
theorem dX5_nearest_55 : decode cX5_nearest 55 = .ok (.iload_n 1, 1) := by decide +kernel
theorem dX5_nearest_56 : decode cX5_nearest 56 = .ok (.ireturn, 1) := by decide +kernel
theorem dX5_nearest_57 : decode cX5_nearest 57 = .ok (.iinc 1 1, 3) := by decide +kernel
theorem dX5_nearest_60 : decode cX5_nearest 60 = .ok (.goto (-45), 3) := by decide +kernel
theorem dX5_nearest_63 : decode cX5_nearest 63 = .ok (.bipush (-9), 2) := by decide +kernel
theorem dX5_nearest_65 : decode cX5_nearest 65 = .ok (.ireturn, 1) := by decide +kernel
theorem dX5_fewest_0 : decode cX5_fewest 0 = .ok (.aload_n 0, 1) := by decide +kernel
theorem dX5_fewest_1 : decode cX5_fewest 1 = .ok (.iload_n 1, 1) := by decide +kernel
theorem dX5_fewest_2 : decode cX5_fewest 2 = .ok (.iload_n 2, 1) := by decide +kernel
theorem dX5_fewest_3 : decode cX5_fewest 3 = .ok (.iconst 0, 1) := by decide +kernel
theorem dX5_fewest_4 : decode cX5_fewest 4 = .ok (.invokevirtual 232, 3) := by decide +kernel
theorem dX5_fewest_7 : decode cX5_fewest 7 = .ok (.ireturn, 1) := by decide +kernel
theorem dX5_surest_0 : decode cX5_surest 0 = .ok (.aload_n 0, 1) := by decide +kernel
theorem dX5_surest_1 : decode cX5_surest 1 = .ok (.iload_n 1, 1) := by decide +kernel
theorem dX5_surest_2 : decode cX5_surest 2 = .ok (.iload_n 2, 1) := by decide +kernel
theorem dX5_surest_3 : decode cX5_surest 3 = .ok (.iconst 1, 1) := by decide +kernel
theorem dX5_surest_4 : decode cX5_surest 4 = .ok (.invokevirtual 232, 3) := by decide +kernel
theorem dX5_surest_7 : decode cX5_surest 7 = .ok (.ireturn, 1) := by decide +kernel
theorem dX5_astray_0 : decode cX5_astray 0 = .ok (.aload_n 0, 1) := by decide +kernel
theorem dX5_astray_1 : decode cX5_astray 1 = .ok (.getfield 21, 3) := by decide +kernel
theorem dX5_astray_4 : decode cX5_astray 4 = .ok (.invokevirtual 199, 3) := by decide +kernel
theorem dX5_astray_7 : decode cX5_astray 7 = .ok (.ifCond .eq 6, 3) := by decide +kernel
theorem dX5_astray_10 : decode cX5_astray 10 = .ok (.bipush (-4), 2) := by decide +kernel
theorem dX5_astray_12 : decode cX5_astray 12 = .ok (.ireturn, 1) := by decide +kernel
theorem dX5_astray_13 : decode cX5_astray 13 = .ok (.aload_n 0, 1) := by decide +kernel
theorem dX5_astray_14 : decode cX5_astray 14 = .ok (.getfield 42, 3) := by decide +kernel
theorem dX5_astray_17 : decode cX5_astray 17 = .ok (.aload_n 0, 1) := by decide +kernel
theorem dX5_astray_18 : decode cX5_astray 18 = .ok (.getfield 21, 3) := by decide +kernel
theorem dX5_astray_21 : decode cX5_astray 21 = .ok (.invokevirtual 212, 3) := by decide +kernel
theorem dX5_astray_24 : decode cX5_astray 24 = .ok (.ifCond .eq 27, 3) := by decide +kernel
theorem dX5_astray_27 : decode cX5_astray 27 = .ok (.aload_n 0, 1) := by decide +kernel
theorem dX5_astray_28 : decode cX5_astray 28 = .ok (.getfield 21, 3) := by decide +kernel
theorem dX5_astray_31 : decode cX5_astray 31 = .ok (.invokevirtual 225, 3) := by decide +kernel
theorem dX5_astray_34 : decode cX5_astray 34 = .ok (.aload_n 0, 1) := by decide +kernel
theorem dX5_astray_35 : decode cX5_astray 35 = .ok (.getfield 42, 3) := by decide +kernel
theorem dX5_astray_38 : decode cX5_astray 38 = .ok (.aload_n 0, 1) := by decide +kernel
theorem dX5_astray_39 : decode cX5_astray 39 = .ok (.getfield 21, 3) := by decide +kernel
theorem dX5_astray_42 : decode cX5_astray 42 = .ok (.invokevirtual 236, 3) := by decide +kernel
theorem dX5_astray_45 : decode cX5_astray 45 = .ok (.iconst (-1), 1) := by decide +kernel
theorem dX5_astray_46 : decode cX5_astray 46 = .ok (.ixor, 1) := by decide +kernel
theorem dX5_astray_47 : decode cX5_astray 47 = .ok (.iand, 1) := by decide +kernel
theorem dX5_astray_48 : decode cX5_astray 48 = .ok (.goto 4, 3) := by decide +kernel
theorem dX5_astray_51 : decode cX5_astray 51 = .ok (.iconst 0, 1) := by decide +kernel
theorem dX5_astray_52 : decode cX5_astray 52 = .ok (.ireturn, 1) := by decide +kernel
theorem dX5_helps_0 : decode cX5_helps 0 = .ok (.aload_n 0, 1) := by decide +kernel
theorem dX5_helps_1 : decode cX5_helps 1 = .ok (.getfield 21, 3) := by decide +kernel
theorem dX5_helps_4 : decode cX5_helps 4 = .ok (.invokevirtual 199, 3) := by decide +kernel
theorem dX5_helps_7 : decode cX5_helps 7 = .ok (.ifCond .eq 6, 3) := by decide +kernel
theorem dX5_helps_10 : decode cX5_helps 10 = .ok (.bipush (-4), 2) := by decide +kernel
theorem dX5_helps_12 : decode cX5_helps 12 = .ok (.ireturn, 1) := by decide +kernel
theorem dX5_helps_13 : decode cX5_helps 13 = .ok (.aload_n 0, 1) := by decide +kernel
theorem dX5_helps_14 : decode cX5_helps 14 = .ok (.getfield 42, 3) := by decide +kernel
theorem dX5_helps_17 : decode cX5_helps 17 = .ok (.aload_n 0, 1) := by decide +kernel
theorem dX5_helps_18 : decode cX5_helps 18 = .ok (.getfield 21, 3) := by decide +kernel
theorem dX5_helps_21 : decode cX5_helps 21 = .ok (.invokevirtual 212, 3) := by decide +kernel
theorem dX5_helps_24 : decode cX5_helps 24 = .ok (.ifCond .eq 7, 3) := by decide +kernel
theorem dX5_helps_27 : decode cX5_helps 27 = .ok (.iconst 0, 1) := by decide +kernel
theorem dX5_helps_28 : decode cX5_helps 28 = .ok (.goto 14, 3) := by decide +kernel
theorem dX5_helps_31 : decode cX5_helps 31 = .ok (.aload_n 0, 1) := by decide +kernel
theorem dX5_helps_32 : decode cX5_helps 32 = .ok (.getfield 42, 3) := by decide +kernel
theorem dX5_helps_35 : decode cX5_helps 35 = .ok (.aload_n 0, 1) := by decide +kernel
theorem dX5_helps_36 : decode cX5_helps 36 = .ok (.getfield 21, 3) := by decide +kernel
theorem dX5_helps_39 : decode cX5_helps 39 = .ok (.invokevirtual 236, 3) := by decide +kernel
theorem dX5_helps_42 : decode cX5_helps 42 = .ok (.ireturn, 1) := by decide +kernel
theorem dX5_odds_0 : decode cX5_odds 0 = .ok (.aload_n 0, 1) := by decide +kernel
theorem dX5_odds_1 : decode cX5_odds 1 = .ok (.getfield 21, 3) := by decide +kernel
theorem dX5_odds_4 : decode cX5_odds 4 = .ok (.invokevirtual 199, 3) := by decide +kernel
theorem dX5_odds_7 : decode cX5_odds 7 = .ok (.ifCond .eq 6, 3) := by decide +kernel
theorem dX5_odds_10 : decode cX5_odds 10 = .ok (.bipush (-4), 2) := by decide +kernel
theorem dX5_odds_12 : decode cX5_odds 12 = .ok (.ireturn, 1) := by decide +kernel
theorem dX5_odds_13 : decode cX5_odds 13 = .ok (.aload_n 0, 1) := by decide +kernel
theorem dX5_odds_14 : decode cX5_odds 14 = .ok (.getfield 42, 3) := by decide +kernel
theorem dX5_odds_17 : decode cX5_odds 17 = .ok (.aload_n 0, 1) := by decide +kernel
theorem dX5_odds_18 : decode cX5_odds 18 = .ok (.getfield 21, 3) := by decide +kernel
theorem dX5_odds_21 : decode cX5_odds 21 = .ok (.invokevirtual 240, 3) := by decide +kernel
theorem dX5_odds_24 : decode cX5_odds 24 = .ok (.aload_n 0, 1) := by decide +kernel
theorem dX5_odds_25 : decode cX5_odds 25 = .ok (.aload_n 0, 1) := by decide +kernel
theorem dX5_odds_26 : decode cX5_odds 26 = .ok (.getfield 42, 3) := by decide +kernel
theorem dX5_odds_29 : decode cX5_odds 29 = .ok (.aload_n 0, 1) := by decide +kernel
theorem dX5_odds_30 : decode cX5_odds 30 = .ok (.getfield 21, 3) := by decide +kernel
theorem dX5_odds_33 : decode cX5_odds 33 = .ok (.invokevirtual 180, 3) := by decide +kernel
theorem dX5_odds_36 : decode cX5_odds 36 = .ok (.iconst 0, 1) := by decide +kernel
theorem dX5_odds_37 : decode cX5_odds 37 = .ok (.invokevirtual 243, 3) := by decide +kernel
theorem dX5_odds_40 : decode cX5_odds 40 = .ok (.aload_n 0, 1) := by decide +kernel
theorem dX5_odds_41 : decode cX5_odds 41 = .ok (.getfield 42, 3) := by decide +kernel
theorem dX5_odds_44 : decode cX5_odds 44 = .ok (.invokevirtual 246, 3) := by decide +kernel
theorem dX5_odds_47 : decode cX5_odds 47 = .ok (.invokevirtual 249, 3) := by decide +kernel
theorem dX5_odds_50 : decode cX5_odds 50 = .ok (.iconst 1, 1) := by decide +kernel
theorem dX5_odds_51 : decode cX5_odds 51 = .ok (.ireturn, 1) := by decide +kernel

theorem dX6_readsBird_0 : decode cX6_readsBird 0 = .ok (.aload_n 0, 1) := by decide +kernel
theorem dX6_readsBird_1 : decode cX6_readsBird 1 = .ok (.getfield 132, 3) := by decide +kernel
theorem dX6_readsBird_4 : decode cX6_readsBird 4 = .ok (.iconst 2, 1) := by decide +kernel
theorem dX6_readsBird_5 : decode cX6_readsBird 5 = .ok (.if_icmp .lt 11, 3) := by decide +kernel
theorem dX6_readsBird_8 : decode cX6_readsBird 8 = .ok (.aload_n 0, 1) := by decide +kernel
theorem dX6_readsBird_9 : decode cX6_readsBird 9 = .ok (.getfield 138, 3) := by decide +kernel
theorem dX6_readsBird_12 : decode cX6_readsBird 12 = .ok (.iconst 4, 1) := by decide +kernel
theorem dX6_readsBird_13 : decode cX6_readsBird 13 = .ok (.if_icmp .ne 5, 3) := by decide +kernel
theorem dX6_readsBird_16 : decode cX6_readsBird 16 = .ok (.iconst 0, 1) := by decide +kernel
theorem dX6_readsBird_17 : decode cX6_readsBird 17 = .ok (.ireturn, 1) := by decide +kernel
theorem dX6_readsBird_18 : decode cX6_readsBird 18 = .ok (.aload_n 0, 1) := by decide +kernel
theorem dX6_readsBird_19 : decode cX6_readsBird 19 = .ok (.dup, 1) := by decide +kernel
theorem dX6_readsBird_20 : decode cX6_readsBird 20 = .ok (.getfield 120, 3) := by decide +kernel
theorem dX6_readsBird_23 : decode cX6_readsBird 23 = .ok (.iconst 1, 1) := by decide +kernel
theorem dX6_readsBird_24 : decode cX6_readsBird 24 = .ok (.iadd, 1) := by decide +kernel
theorem dX6_readsBird_25 : decode cX6_readsBird 25 = .ok (.putfield 120, 3) := by decide +kernel
theorem dX6_readsBird_28 : decode cX6_readsBird 28 = .ok (.aload_n 0, 1) := by decide +kernel
theorem dX6_readsBird_29 : decode cX6_readsBird 29 = .ok (.iload_n 1, 1) := by decide +kernel
theorem dX6_readsBird_30 : decode cX6_readsBird 30 = .ok (.aload_n 0, 1) := by decide +kernel
theorem dX6_readsBird_31 : decode cX6_readsBird 31 = .ok (.getfield 132, 3) := by decide +kernel
theorem dX6_readsBird_34 : decode cX6_readsBird 34 = .ok (.iconst 1, 1) := by decide +kernel
theorem dX6_readsBird_35 : decode cX6_readsBird 35 = .ok (.isub, 1) := by decide +kernel
theorem dX6_readsBird_36 : decode cX6_readsBird 36 = .ok (.invokevirtual 141, 3) := by decide +kernel
theorem dX6_readsBird_39 : decode cX6_readsBird 39 = .ok (.ifCond .ne 5, 3) := by decide +kernel
theorem dX6_readsBird_42 : decode cX6_readsBird 42 = .ok (.iconst 0, 1) := by decide +kernel
theorem dX6_readsBird_43 : decode cX6_readsBird 43 = .ok (.ireturn, 1) := by decide +kernel
theorem dX6_readsBird_44 : decode cX6_readsBird 44 = .ok (.aload_n 0, 1) := by decide +kernel
theorem dX6_readsBird_45 : decode cX6_readsBird 45 = .ok (.getfield 45, 3) := by decide +kernel
theorem dX6_readsBird_48 : decode cX6_readsBird 48 = .ok (.aload_n 0, 1) := by decide +kernel
theorem dX6_readsBird_49 : decode cX6_readsBird 49 = .ok (.getfield 138, 3) := by decide +kernel
theorem dX6_readsBird_52 : decode cX6_readsBird 52 = .ok (.aload_n 0, 1) := by decide +kernel
theorem dX6_readsBird_53 : decode cX6_readsBird 53 = .ok (.getfield 126, 3) := by decide +kernel
theorem dX6_readsBird_56 : decode cX6_readsBird 56 = .ok (.iastore, 1) := by decide +kernel
theorem dX6_readsBird_57 : decode cX6_readsBird 57 = .ok (.aload_n 0, 1) := by decide +kernel
theorem dX6_readsBird_58 : decode cX6_readsBird 58 = .ok (.dup, 1) := by decide +kernel
theorem dX6_readsBird_59 : decode cX6_readsBird 59 = .ok (.getfield 138, 3) := by decide +kernel
theorem dX6_readsBird_62 : decode cX6_readsBird 62 = .ok (.iconst 1, 1) := by decide +kernel
theorem dX6_readsBird_63 : decode cX6_readsBird 63 = .ok (.iadd, 1) := by decide +kernel
theorem dX6_readsBird_64 : decode cX6_readsBird 64 = .ok (.putfield 138, 3) := by decide +kernel
theorem dX6_readsBird_67 : decode cX6_readsBird 67 = .ok (.iconst 1, 1) := by decide +kernel
theorem dX6_readsBird_68 : decode cX6_readsBird 68 = .ok (.ireturn, 1) := by decide +kernel
theorem dX6_readsPockets_0 : decode cX6_readsPockets 0 = .ok (.aload_n 0, 1) := by decide +kernel
theorem dX6_readsPockets_1 : decode cX6_readsPockets 1 = .ok (.getfield 132, 3) := by decide +kernel
theorem dX6_readsPockets_4 : decode cX6_readsPockets 4 = .ok (.iconst 2, 1) := by decide +kernel
theorem dX6_readsPockets_5 : decode cX6_readsPockets 5 = .ok (.if_icmp .ge 5, 3) := by decide +kernel
theorem dX6_readsPockets_8 : decode cX6_readsPockets 8 = .ok (.iconst 0, 1) := by decide +kernel
theorem dX6_readsPockets_9 : decode cX6_readsPockets 9 = .ok (.ireturn, 1) := by decide +kernel
theorem dX6_readsPockets_10 : decode cX6_readsPockets 10 = .ok (.aload_n 0, 1) := by decide +kernel
theorem dX6_readsPockets_11 : decode cX6_readsPockets 11 = .ok (.dup, 1) := by decide +kernel
theorem dX6_readsPockets_12 : decode cX6_readsPockets 12 = .ok (.getfield 120, 3) := by decide +kernel
theorem dX6_readsPockets_15 : decode cX6_readsPockets 15 = .ok (.iconst 1, 1) := by decide +kernel
theorem dX6_readsPockets_16 : decode cX6_readsPockets 16 = .ok (.iadd, 1) := by decide +kernel
theorem dX6_readsPockets_17 : decode cX6_readsPockets 17 = .ok (.putfield 120, 3) := by decide +kernel
theorem dX6_readsPockets_20 : decode cX6_readsPockets 20 = .ok (.iconst 0, 1) := by decide +kernel
theorem dX6_readsPockets_21 : decode cX6_readsPockets 21 = .ok (.istore_n 2, 1) := by decide +kernel
theorem dX6_readsPockets_22 : decode cX6_readsPockets 22 = .ok (.iload_n 2, 1) := by decide +kernel
theorem dX6_readsPockets_23 : decode cX6_readsPockets 23 = .ok (.iconst 3, 1) := by decide +kernel
theorem dX6_readsPockets_24 : decode cX6_readsPockets 24 = .ok (.if_icmp .ge 31, 3) := by decide +kernel
theorem dX6_readsPockets_27 : decode cX6_readsPockets 27 = .ok (.aload_n 0, 1) := by decide +kernel
theorem dX6_readsPockets_28 : decode cX6_readsPockets 28 = .ok (.iload_n 1, 1) := by decide +kernel
theorem dX6_readsPockets_29 : decode cX6_readsPockets 29 = .ok (.bipush 9, 2) := by decide +kernel
theorem dX6_readsPockets_31 : decode cX6_readsPockets 31 = .ok (.invokevirtual 141, 3) := by decide +kernel
theorem dX6_readsPockets_34 : decode cX6_readsPockets 34 = .ok (.ifCond .ne 5, 3) := by decide +kernel
theorem dX6_readsPockets_37 : decode cX6_readsPockets 37 = .ok (.iconst 0, 1) := by decide +kernel
theorem dX6_readsPockets_38 : decode cX6_readsPockets 38 = .ok (.ireturn, 1) := by decide +kernel
theorem dX6_readsPockets_39 : decode cX6_readsPockets 39 = .ok (.aload_n 0, 1) := by decide +kernel
theorem dX6_readsPockets_40 : decode cX6_readsPockets 40 = .ok (.getfield 48, 3) := by decide +kernel
theorem dX6_readsPockets_43 : decode cX6_readsPockets 43 = .ok (.iload_n 2, 1) := by decide +kernel
theorem dX6_readsPockets_44 : decode cX6_readsPockets 44 = .ok (.aload_n 0, 1) := by decide +kernel
theorem dX6_readsPockets_45 : decode cX6_readsPockets 45 = .ok (.getfield 126, 3) := by decide +kernel
theorem dX6_readsPockets_48 : decode cX6_readsPockets 48 = .ok (.iastore, 1) := by decide +kernel
theorem dX6_readsPockets_49 : decode cX6_readsPockets 49 = .ok (.iinc 2 1, 3) := by decide +kernel
theorem dX6_readsPockets_52 : decode cX6_readsPockets 52 = .ok (.goto (-30), 3) := by decide +kernel
theorem dX6_readsPockets_55 : decode cX6_readsPockets 55 = .ok (.aload_n 0, 1) := by decide +kernel
theorem dX6_readsPockets_56 : decode cX6_readsPockets 56 = .ok (.iconst 1, 1) := by decide +kernel
theorem dX6_readsPockets_57 : decode cX6_readsPockets 57 = .ok (.putfield 148, 3) := by decide +kernel
theorem dX6_readsPockets_60 : decode cX6_readsPockets 60 = .ok (.iconst 1, 1) := by decide +kernel
theorem dX6_readsPockets_61 : decode cX6_readsPockets 61 = .ok (.ireturn, 1) := by decide +kernel
theorem dX6_faultOf_0 : decode cX6_faultOf 0 = .ok (.aload_n 0, 1) := by decide +kernel
theorem dX6_faultOf_1 : decode cX6_faultOf 1 = .ok (.iconst 0, 1) := by decide +kernel
theorem dX6_faultOf_2 : decode cX6_faultOf 2 = .ok (.putfield 120, 3) := by decide +kernel
theorem dX6_faultOf_5 : decode cX6_faultOf 5 = .ok (.aload_n 0, 1) := by decide +kernel
theorem dX6_faultOf_6 : decode cX6_faultOf 6 = .ok (.iconst 0, 1) := by decide +kernel
theorem dX6_faultOf_7 : decode cX6_faultOf 7 = .ok (.putfield 132, 3) := by decide +kernel
theorem dX6_faultOf_10 : decode cX6_faultOf 10 = .ok (.aload_n 0, 1) := by decide +kernel
theorem dX6_faultOf_11 : decode cX6_faultOf 11 = .ok (.iconst 0, 1) := by decide +kernel
theorem dX6_faultOf_12 : decode cX6_faultOf 12 = .ok (.putfield 135, 3) := by decide +kernel
theorem dX6_faultOf_15 : decode cX6_faultOf 15 = .ok (.aload_n 0, 1) := by decide +kernel
theorem dX6_faultOf_16 : decode cX6_faultOf 16 = .ok (.iconst 0, 1) := by decide +kernel
theorem dX6_faultOf_17 : decode cX6_faultOf 17 = .ok (.putfield 138, 3) := by decide +kernel
theorem dX6_faultOf_20 : decode cX6_faultOf 20 = .ok (.aload_n 0, 1) := by decide +kernel
theorem dX6_faultOf_21 : decode cX6_faultOf 21 = .ok (.iconst 0, 1) := by decide +kernel
theorem dX6_faultOf_22 : decode cX6_faultOf 22 = .ok (.putfield 148, 3) := by decide +kernel
theorem dX6_faultOf_25 : decode cX6_faultOf 25 = .ok (.aload_n 0, 1) := by decide +kernel
theorem dX6_faultOf_26 : decode cX6_faultOf 26 = .ok (.getfield 120, 3) := by decide +kernel
theorem dX6_faultOf_29 : decode cX6_faultOf 29 = .ok (.aload_n 0, 1) := by decide +kernel
theorem dX6_faultOf_30 : decode cX6_faultOf 30 = .ok (.getfield 26, 3) := by decide +kernel
theorem dX6_faultOf_33 : decode cX6_faultOf 33 = .ok (.iload_n 1, 1) := by decide +kernel
theorem dX6_faultOf_34 : decode cX6_faultOf 34 = .ok (.iaload, 1) := by decide +kernel
theorem dX6_faultOf_35 : decode cX6_faultOf 35 = .ok (.if_icmp .ge 106, 3) := by decide +kernel
theorem dX6_faultOf_38 : decode cX6_faultOf 38 = .ok (.aload_n 0, 1) := by decide +kernel
theorem dX6_faultOf_39 : decode cX6_faultOf 39 = .ok (.iload_n 1, 1) := by decide +kernel
theorem dX6_faultOf_40 : decode cX6_faultOf 40 = .ok (.aload_n 0, 1) := by decide +kernel
theorem dX6_faultOf_41 : decode cX6_faultOf 41 = .ok (.getfield 120, 3) := by decide +kernel
theorem dX6_faultOf_44 : decode cX6_faultOf 44 = .ok (.invokevirtual 123, 3) := by decide +kernel
theorem dX6_faultOf_47 : decode cX6_faultOf 47 = .ok (.istore_n 2, 1) := by decide +kernel
theorem dX6_faultOf_48 : decode cX6_faultOf 48 = .ok (.iload_n 2, 1) := by decide +kernel
theorem dX6_faultOf_49 : decode cX6_faultOf 49 = .ok (.bipush 32, 2) := by decide +kernel
theorem dX6_faultOf_51 : decode cX6_faultOf 51 = .ok (.if_icmp .ne 16, 3) := by decide +kernel
theorem dX6_faultOf_54 : decode cX6_faultOf 54 = .ok (.aload_n 0, 1) := by decide +kernel
theorem dX6_faultOf_55 : decode cX6_faultOf 55 = .ok (.dup, 1) := by decide +kernel
theorem dX6_faultOf_56 : decode cX6_faultOf 56 = .ok (.getfield 120, 3) := by decide +kernel
theorem dX6_faultOf_59 : decode cX6_faultOf 59 = .ok (.iconst 1, 1) := by decide +kernel
theorem dX6_faultOf_60 : decode cX6_faultOf 60 = .ok (.iadd, 1) := by decide +kernel
theorem dX6_faultOf_61 : decode cX6_faultOf 61 = .ok (.putfield 120, 3) := by decide +kernel
theorem dX6_faultOf_64 : decode cX6_faultOf 64 = .ok (.goto 74, 3) := by decide +kernel
theorem dX6_faultOf_67 : decode cX6_faultOf 67 = .ok (.aload_n 0, 1) := by decide +kernel
theorem dX6_faultOf_68 : decode cX6_faultOf 68 = .ok (.getfield 148, 3) := by decide +kernel
theorem dX6_faultOf_71 : decode cX6_faultOf 71 = .ok (.ifCond .ne 62, 3) := by decide +kernel
theorem dX6_faultOf_74 : decode cX6_faultOf 74 = .ok (.iload_n 2, 1) := by decide +kernel
theorem dX6_faultOf_75 : decode cX6_faultOf 75 = .ok (.bipush 45, 2) := by decide +kernel
theorem dX6_faultOf_77 : decode cX6_faultOf 77 = .ok (.if_icmp .ne 14, 3) := by decide +kernel
theorem dX6_faultOf_80 : decode cX6_faultOf 80 = .ok (.aload_n 0, 1) := by decide +kernel
theorem dX6_faultOf_81 : decode cX6_faultOf 81 = .ok (.iload_n 1, 1) := by decide +kernel
theorem dX6_faultOf_82 : decode cX6_faultOf 82 = .ok (.invokevirtual 152, 3) := by decide +kernel
theorem dX6_faultOf_85 : decode cX6_faultOf 85 = .ok (.ifCond .eq 48, 3) := by decide +kernel
theorem dX6_faultOf_88 : decode cX6_faultOf 88 = .ok (.goto 50, 3) := by decide +kernel
theorem dX6_faultOf_91 : decode cX6_faultOf 91 = .ok (.iload_n 2, 1) := by decide +kernel
theorem dX6_faultOf_92 : decode cX6_faultOf 92 = .ok (.bipush 118, 2) := by decide +kernel
theorem dX6_faultOf_94 : decode cX6_faultOf 94 = .ok (.if_icmp .ne 14, 3) := by decide +kernel
theorem dX6_faultOf_97 : decode cX6_faultOf 97 = .ok (.aload_n 0, 1) := by decide +kernel
theorem dX6_faultOf_98 : decode cX6_faultOf 98 = .ok (.iload_n 1, 1) := by decide +kernel
theorem dX6_faultOf_99 : decode cX6_faultOf 99 = .ok (.invokevirtual 155, 3) := by decide +kernel
theorem dX6_faultOf_102 : decode cX6_faultOf 102 = .ok (.ifCond .eq 31, 3) := by decide +kernel
theorem dX6_faultOf_105 : decode cX6_faultOf 105 = .ok (.goto 33, 3) := by decide +kernel
theorem dX6_faultOf_108 : decode cX6_faultOf 108 = .ok (.iload_n 2, 1) := by decide +kernel
theorem dX6_faultOf_109 : decode cX6_faultOf 109 = .ok (.bipush 107, 2) := by decide +kernel
theorem dX6_faultOf_111 : decode cX6_faultOf 111 = .ok (.if_icmp .ne 14, 3) := by decide +kernel
theorem dX6_faultOf_114 : decode cX6_faultOf 114 = .ok (.aload_n 0, 1) := by decide +kernel
theorem dX6_faultOf_115 : decode cX6_faultOf 115 = .ok (.iload_n 1, 1) := by decide +kernel
theorem dX6_faultOf_116 : decode cX6_faultOf 116 = .ok (.invokevirtual 158, 3) := by decide +kernel
theorem dX6_faultOf_119 : decode cX6_faultOf 119 = .ok (.ifCond .eq 14, 3) := by decide +kernel
theorem dX6_faultOf_122 : decode cX6_faultOf 122 = .ok (.goto 16, 3) := by decide +kernel
theorem dX6_faultOf_125 : decode cX6_faultOf 125 = .ok (.aload_n 0, 1) := by decide +kernel
theorem dX6_faultOf_126 : decode cX6_faultOf 126 = .ok (.iload_n 2, 1) := by decide +kernel
theorem dX6_faultOf_127 : decode cX6_faultOf 127 = .ok (.invokevirtual 161, 3) := by decide +kernel
theorem dX6_faultOf_130 : decode cX6_faultOf 130 = .ok (.ifCond .ne 8, 3) := by decide +kernel
theorem dX6_faultOf_133 : decode cX6_faultOf 133 = .ok (.aload_n 0, 1) := by decide +kernel
theorem dX6_faultOf_134 : decode cX6_faultOf 134 = .ok (.getfield 120, 3) := by decide +kernel
theorem dX6_faultOf_137 : decode cX6_faultOf 137 = .ok (.ireturn, 1) := by decide +kernel
theorem dX6_faultOf_138 : decode cX6_faultOf 138 = .ok (.goto (-113), 3) := by decide +kernel
theorem dX6_faultOf_141 : decode cX6_faultOf 141 = .ok (.aload_n 0, 1) := by decide +kernel
theorem dX6_faultOf_142 : decode cX6_faultOf 142 = .ok (.getfield 148, 3) := by decide +kernel
theorem dX6_faultOf_145 : decode cX6_faultOf 145 = .ok (.ifCond .eq 8, 3) := by decide +kernel
theorem dX6_faultOf_148 : decode cX6_faultOf 148 = .ok (.bipush (-9), 2) := by decide +kernel
theorem dX6_faultOf_150 : decode cX6_faultOf 150 = .ok (.goto 9, 3) := by decide +kernel
theorem dX6_faultOf_153 : decode cX6_faultOf 153 = .ok (.aload_n 0, 1) := by decide +kernel
theorem dX6_faultOf_154 : decode cX6_faultOf 154 = .ok (.getfield 26, 3) := by decide +kernel
theorem dX6_faultOf_157 : decode cX6_faultOf 157 = .ok (.iload_n 1, 1) := by decide +kernel
theorem dX6_faultOf_158 : decode cX6_faultOf 158 = .ok (.iaload, 1) := by decide +kernel
theorem dX6_faultOf_159 : decode cX6_faultOf 159 = .ok (.ireturn, 1) := by decide +kernel
theorem dX6_fault_0 : decode cX6_fault 0 = .ok (.iload_n 1, 1) := by decide +kernel
theorem dX6_fault_1 : decode cX6_fault 1 = .ok (.invokestatic 117, 3) := by decide +kernel
theorem dX6_fault_4 : decode cX6_fault 4 = .ok (.ifCond .ne 5, 3) := by decide +kernel
theorem dX6_fault_7 : decode cX6_fault 7 = .ok (.iconst (-1), 1) := by decide +kernel
theorem dX6_fault_8 : decode cX6_fault 8 = .ok (.ireturn, 1) := by decide +kernel
theorem dX6_fault_9 : decode cX6_fault 9 = .ok (.aload_n 0, 1) := by decide +kernel
theorem dX6_fault_10 : decode cX6_fault 10 = .ok (.getfield 26, 3) := by decide +kernel
theorem dX6_fault_13 : decode cX6_fault 13 = .ok (.iload_n 1, 1) := by decide +kernel
theorem dX6_fault_14 : decode cX6_fault 14 = .ok (.iaload, 1) := by decide +kernel
theorem dX6_fault_15 : decode cX6_fault 15 = .ok (.ifCond .ge 11, 3) := by decide +kernel
theorem dX6_fault_18 : decode cX6_fault 18 = .ok (.aload_n 0, 1) := by decide +kernel
theorem dX6_fault_19 : decode cX6_fault 19 = .ok (.iconst 1, 1) := by decide +kernel
theorem dX6_fault_20 : decode cX6_fault 20 = .ok (.invokevirtual 106, 3) := by decide +kernel
theorem dX6_fault_23 : decode cX6_fault 23 = .ok (.goto 8, 3) := by decide +kernel
theorem dX6_fault_26 : decode cX6_fault 26 = .ok (.aload_n 0, 1) := by decide +kernel
theorem dX6_fault_27 : decode cX6_fault 27 = .ok (.iload_n 1, 1) := by decide +kernel
theorem dX6_fault_28 : decode cX6_fault 28 = .ok (.invokevirtual 164, 3) := by decide +kernel
theorem dX6_fault_31 : decode cX6_fault 31 = .ok (.ireturn, 1) := by decide +kernel
theorem dX6_wood_0 : decode cX6_wood 0 = .ok (.iload_n 1, 1) := by decide +kernel
theorem dX6_wood_1 : decode cX6_wood 1 = .ok (.invokestatic 117, 3) := by decide +kernel
theorem dX6_wood_4 : decode cX6_wood 4 = .ok (.ifCond .ne 5, 3) := by decide +kernel
theorem dX6_wood_7 : decode cX6_wood 7 = .ok (.iconst (-1), 1) := by decide +kernel
theorem dX6_wood_8 : decode cX6_wood 8 = .ok (.ireturn, 1) := by decide +kernel
theorem dX6_wood_9 : decode cX6_wood 9 = .ok (.aload_n 0, 1) := by decide +kernel
theorem dX6_wood_10 : decode cX6_wood 10 = .ok (.getfield 26, 3) := by decide +kernel
theorem dX6_wood_13 : decode cX6_wood 13 = .ok (.iload_n 1, 1) := by decide +kernel
theorem dX6_wood_14 : decode cX6_wood 14 = .ok (.iaload, 1) := by decide +kernel
theorem dX6_wood_15 : decode cX6_wood 15 = .ok (.ifCond .ge 9, 3) := by decide +kernel
theorem dX6_wood_18 : decode cX6_wood 18 = .ok (.aload_n 0, 1) := by decide +kernel
theorem dX6_wood_19 : decode cX6_wood 19 = .ok (.iconst 1, 1) := by decide +kernel
theorem dX6_wood_20 : decode cX6_wood 20 = .ok (.invokevirtual 106, 3) := by decide +kernel
theorem dX6_wood_23 : decode cX6_wood 23 = .ok (.ireturn, 1) := by decide +kernel
theorem dX6_wood_24 : decode cX6_wood 24 = .ok (.aload_n 0, 1) := by decide +kernel
theorem dX6_wood_25 : decode cX6_wood 25 = .ok (.iload_n 1, 1) := by decide +kernel
theorem dX6_wood_26 : decode cX6_wood 26 = .ok (.invokevirtual 164, 3) := by decide +kernel
theorem dX6_wood_29 : decode cX6_wood 29 = .ok (.bipush (-9), 2) := by decide +kernel
theorem dX6_wood_31 : decode cX6_wood 31 = .ok (.if_icmp .eq 6, 3) := by decide +kernel
theorem dX6_wood_34 : decode cX6_wood 34 = .ok (.bipush (-4), 2) := by decide +kernel
theorem dX6_wood_36 : decode cX6_wood 36 = .ok (.ireturn, 1) := by decide +kernel
theorem dX6_wood_37 : decode cX6_wood 37 = .ok (.aload_n 0, 1) := by decide +kernel
theorem dX6_wood_38 : decode cX6_wood 38 = .ok (.aload_n 0, 1) := by decide +kernel
theorem dX6_wood_39 : decode cX6_wood 39 = .ok (.getfield 132, 3) := by decide +kernel
theorem dX6_wood_42 : decode cX6_wood 42 = .ok (.putfield 167, 3) := by decide +kernel
theorem dX6_wood_45 : decode cX6_wood 45 = .ok (.aload_n 0, 1) := by decide +kernel
theorem dX6_wood_46 : decode cX6_wood 46 = .ok (.aload_n 0, 1) := by decide +kernel
theorem dX6_wood_47 : decode cX6_wood 47 = .ok (.getfield 138, 3) := by decide +kernel
theorem dX6_wood_50 : decode cX6_wood 50 = .ok (.putfield 170, 3) := by decide +kernel
theorem dX6_wood_53 : decode cX6_wood 53 = .ok (.iconst 0, 1) := by decide +kernel
theorem dX6_wood_54 : decode cX6_wood 54 = .ok (.istore_n 2, 1) := by decide +kernel
theorem dX6_wood_55 : decode cX6_wood 55 = .ok (.iload_n 2, 1) := by decide +kernel
theorem dX6_wood_56 : decode cX6_wood 56 = .ok (.bipush 39, 2) := by decide +kernel
theorem dX6_wood_58 : decode cX6_wood 58 = .ok (.if_icmp .ge 17, 3) := by decide +kernel
theorem dX6_wood_61 : decode cX6_wood 61 = .ok (.aload_n 0, 1) := by decide +kernel
theorem dX6_wood_62 : decode cX6_wood 62 = .ok (.iconst 0, 1) := by decide +kernel
theorem dX6_wood_63 : decode cX6_wood 63 = .ok (.iload_n 2, 1) := by decide +kernel
theorem dX6_wood_64 : decode cX6_wood 64 = .ok (.iconst 0, 1) := by decide +kernel
theorem dX6_wood_65 : decode cX6_wood 65 = .ok (.iconst 0, 1) := by decide +kernel
theorem dX6_wood_66 : decode cX6_wood 66 = .ok (.invokevirtual 173, 3) := by decide +kernel
theorem dX6_wood_69 : decode cX6_wood 69 = .ok (.iinc 2 1, 3) := by decide +kernel
theorem dX6_wood_72 : decode cX6_wood 72 = .ok (.goto (-17), 3) := by decide +kernel
theorem dX6_wood_75 : decode cX6_wood 75 = .ok (.iconst 0, 1) := by decide +kernel
theorem dX6_wood_76 : decode cX6_wood 76 = .ok (.istore_n 2, 1) := by decide +kernel
theorem dX6_wood_77 : decode cX6_wood 77 = .ok (.iload_n 2, 1) := by decide +kernel
theorem dX6_wood_78 : decode cX6_wood 78 = .ok (.aload_n 0, 1) := by decide +kernel
theorem dX6_wood_79 : decode cX6_wood 79 = .ok (.getfield 167, 3) := by decide +kernel
theorem dX6_wood_82 : decode cX6_wood 82 = .ok (.if_icmp .ge 33, 3) := by decide +kernel
theorem dX6_wood_85 : decode cX6_wood 85 = .ok (.aload_n 0, 1) := by decide +kernel
theorem dX6_wood_86 : decode cX6_wood 86 = .ok (.getfield 33, 3) := by decide +kernel
theorem dX6_wood_89 : decode cX6_wood 89 = .ok (.iload_n 2, 1) := by decide +kernel
theorem dX6_wood_90 : decode cX6_wood 90 = .ok (.aload_n 0, 1) := by decide +kernel
theorem dX6_wood_91 : decode cX6_wood 91 = .ok (.getfield 39, 3) := by decide +kernel
theorem dX6_wood_94 : decode cX6_wood 94 = .ok (.iload_n 2, 1) := by decide +kernel
theorem dX6_wood_95 : decode cX6_wood 95 = .ok (.iaload, 1) := by decide +kernel
theorem dX6_wood_96 : decode cX6_wood 96 = .ok (.iastore, 1) := by decide +kernel
theorem dX6_wood_97 : decode cX6_wood 97 = .ok (.aload_n 0, 1) := by decide +kernel
theorem dX6_wood_98 : decode cX6_wood 98 = .ok (.getfield 36, 3) := by decide +kernel
theorem dX6_wood_101 : decode cX6_wood 101 = .ok (.iload_n 2, 1) := by decide +kernel
theorem dX6_wood_102 : decode cX6_wood 102 = .ok (.aload_n 0, 1) := by decide +kernel
theorem dX6_wood_103 : decode cX6_wood 103 = .ok (.getfield 42, 3) := by decide +kernel
theorem dX6_wood_106 : decode cX6_wood 106 = .ok (.iload_n 2, 1) := by decide +kernel
theorem dX6_wood_107 : decode cX6_wood 107 = .ok (.iaload, 1) := by decide +kernel
theorem dX6_wood_108 : decode cX6_wood 108 = .ok (.iastore, 1) := by decide +kernel
theorem dX6_wood_109 : decode cX6_wood 109 = .ok (.iinc 2 1, 3) := by decide +kernel
theorem dX6_wood_112 : decode cX6_wood 112 = .ok (.goto (-35), 3) := by decide +kernel
theorem dX6_wood_115 : decode cX6_wood 115 = .ok (.iconst 0, 1) := by decide +kernel
theorem dX6_wood_116 : decode cX6_wood 116 = .ok (.istore_n 2, 1) := by decide +kernel
theorem dX6_wood_117 : decode cX6_wood 117 = .ok (.iload_n 2, 1) := by decide +kernel
theorem dX6_wood_118 : decode cX6_wood 118 = .ok (.aload_n 0, 1) := by decide +kernel
theorem dX6_wood_119 : decode cX6_wood 119 = .ok (.getfield 170, 3) := by decide +kernel
theorem dX6_wood_122 : decode cX6_wood 122 = .ok (.if_icmp .ge 23, 3) := by decide +kernel
theorem dX6_wood_125 : decode cX6_wood 125 = .ok (.aload_n 0, 1) := by decide +kernel
theorem dX6_wood_126 : decode cX6_wood 126 = .ok (.iconst 0, 1) := by decide +kernel
theorem dX6_wood_127 : decode cX6_wood 127 = .ok (.bipush 32, 2) := by decide +kernel
theorem dX6_wood_129 : decode cX6_wood 129 = .ok (.iload_n 2, 1) := by decide +kernel
theorem dX6_wood_130 : decode cX6_wood 130 = .ok (.aload_n 0, 1) := by decide +kernel
theorem dX6_wood_131 : decode cX6_wood 131 = .ok (.getfield 45, 3) := by decide +kernel
theorem dX6_wood_134 : decode cX6_wood 134 = .ok (.iload_n 2, 1) := by decide +kernel
theorem dX6_wood_135 : decode cX6_wood 135 = .ok (.iaload, 1) := by decide +kernel
theorem dX6_wood_136 : decode cX6_wood 136 = .ok (.invokevirtual 173, 3) := by decide +kernel
theorem dX6_wood_139 : decode cX6_wood 139 = .ok (.iinc 2 1, 3) := by decide +kernel
theorem dX6_wood_142 : decode cX6_wood 142 = .ok (.goto (-25), 3) := by decide +kernel
theorem dX6_wood_145 : decode cX6_wood 145 = .ok (.iconst 0, 1) := by decide +kernel
theorem dX6_wood_146 : decode cX6_wood 146 = .ok (.istore_n 2, 1) := by decide +kernel
theorem dX6_wood_147 : decode cX6_wood 147 = .ok (.iload_n 2, 1) := by decide +kernel
theorem dX6_wood_148 : decode cX6_wood 148 = .ok (.iconst 3, 1) := by decide +kernel
theorem dX6_wood_149 : decode cX6_wood 149 = .ok (.if_icmp .ge 23, 3) := by decide +kernel
theorem dX6_wood_152 : decode cX6_wood 152 = .ok (.aload_n 0, 1) := by decide +kernel
theorem dX6_wood_153 : decode cX6_wood 153 = .ok (.iconst 0, 1) := by decide +kernel
theorem dX6_wood_154 : decode cX6_wood 154 = .ok (.bipush 36, 2) := by decide +kernel
theorem dX6_wood_156 : decode cX6_wood 156 = .ok (.iload_n 2, 1) := by decide +kernel
theorem dX6_wood_157 : decode cX6_wood 157 = .ok (.aload_n 0, 1) := by decide +kernel
theorem dX6_wood_158 : decode cX6_wood 158 = .ok (.getfield 48, 3) := by decide +kernel
theorem dX6_wood_161 : decode cX6_wood 161 = .ok (.iload_n 2, 1) := by decide +kernel
theorem dX6_wood_162 : decode cX6_wood 162 = .ok (.iaload, 1) := by decide +kernel
theorem dX6_wood_163 : decode cX6_wood 163 = .ok (.invokevirtual 173, 3) := by decide +kernel
theorem dX6_wood_166 : decode cX6_wood 166 = .ok (.iinc 2 1, 3) := by decide +kernel
theorem dX6_wood_169 : decode cX6_wood 169 = .ok (.goto (-22), 3) := by decide +kernel
theorem dX6_wood_172 : decode cX6_wood 172 = .ok (.aload_n 0, 1) := by decide +kernel
theorem dX6_wood_173 : decode cX6_wood 173 = .ok (.iconst 0, 1) := by decide +kernel
theorem dX6_wood_174 : decode cX6_wood 174 = .ok (.putfield 177, 3) := by decide +kernel
theorem dX6_wood_177 : decode cX6_wood 177 = .ok (.aload_n 0, 1) := by decide +kernel
theorem dX6_wood_178 : decode cX6_wood 178 = .ok (.getfield 54, 3) := by decide +kernel
theorem dX6_wood_181 : decode cX6_wood 181 = .ok (.iconst 0, 1) := by decide +kernel
theorem dX6_wood_182 : decode cX6_wood 182 = .ok (.iconst 0, 1) := by decide +kernel
theorem dX6_wood_183 : decode cX6_wood 183 = .ok (.iastore, 1) := by decide +kernel
theorem dX6_wood_184 : decode cX6_wood 184 = .ok (.iconst 0, 1) := by decide +kernel
theorem dX6_wood_185 : decode cX6_wood 185 = .ok (.istore_n 2, 1) := by decide +kernel
theorem dX6_wood_186 : decode cX6_wood 186 = .ok (.iload_n 2, 1) := by decide +kernel
theorem dX6_wood_187 : decode cX6_wood 187 = .ok (.iconst 3, 1) := by decide +kernel
theorem dX6_wood_188 : decode cX6_wood 188 = .ok (.if_icmp .ge 16, 3) := by decide +kernel
theorem dX6_wood_191 : decode cX6_wood 191 = .ok (.aload_n 0, 1) := by decide +kernel
theorem dX6_wood_192 : decode cX6_wood 192 = .ok (.getfield 57, 3) := by decide +kernel
theorem dX6_wood_195 : decode cX6_wood 195 = .ok (.iload_n 2, 1) := by decide +kernel
theorem dX6_wood_196 : decode cX6_wood 196 = .ok (.iconst 0, 1) := by decide +kernel
theorem dX6_wood_197 : decode cX6_wood 197 = .ok (.bastore, 1) := by decide +kernel
theorem dX6_wood_198 : decode cX6_wood 198 = .ok (.iinc 2 1, 3) := by decide +kernel
theorem dX6_wood_201 : decode cX6_wood 201 = .ok (.goto (-15), 3) := by decide +kernel
theorem dX6_wood_204 : decode cX6_wood 204 = .ok (.aload_n 0, 1) := by decide +kernel
theorem dX6_wood_205 : decode cX6_wood 205 = .ok (.getfield 167, 3) := by decide +kernel
theorem dX6_wood_208 : decode cX6_wood 208 = .ok (.ireturn, 1) := by decide +kernel
theorem dX6_isPlace_0 : decode cX6_isPlace 0 = .ok (.iload_n 1, 1) := by decide +kernel
theorem dX6_isPlace_1 : decode cX6_isPlace 1 = .ok (.iconst 0, 1) := by decide +kernel
theorem dX6_isPlace_2 : decode cX6_isPlace 2 = .ok (.aload_n 0, 1) := by decide +kernel
theorem dX6_isPlace_3 : decode cX6_isPlace 3 = .ok (.getfield 167, 3) := by decide +kernel
theorem dX6_isPlace_6 : decode cX6_isPlace 6 = .ok (.iconst 1, 1) := by decide +kernel
theorem dX6_isPlace_7 : decode cX6_isPlace 7 = .ok (.isub, 1) := by decide +kernel
theorem dX6_isPlace_8 : decode cX6_isPlace 8 = .ok (.invokestatic 92, 3) := by decide +kernel
theorem dX6_isPlace_11 : decode cX6_isPlace 11 = .ok (.ireturn, 1) := by decide +kernel
theorem dX6_isThicket_0 : decode cX6_isThicket 0 = .ok (.aload_n 0, 1) := by decide +kernel
theorem dX6_isThicket_1 : decode cX6_isThicket 1 = .ok (.getfield 33, 3) := by decide +kernel
theorem dX6_isThicket_4 : decode cX6_isThicket 4 = .ok (.iload_n 1, 1) := by decide +kernel
theorem dX6_isThicket_5 : decode cX6_isThicket 5 = .ok (.iaload, 1) := by decide +kernel
theorem dX6_isThicket_6 : decode cX6_isThicket 6 = .ok (.iconst 2, 1) := by decide +kernel
theorem dX6_isThicket_7 : decode cX6_isThicket 7 = .ok (.if_icmp .eq 13, 3) := by decide +kernel
theorem dX6_isThicket_10 : decode cX6_isThicket 10 = .ok (.aload_n 0, 1) := by decide +kernel
theorem dX6_isThicket_11 : decode cX6_isThicket 11 = .ok (.getfield 33, 3) := by decide +kernel
theorem dX6_isThicket_14 : decode cX6_isThicket 14 = .ok (.iload_n 1, 1) := by decide +kernel
theorem dX6_isThicket_15 : decode cX6_isThicket 15 = .ok (.iaload, 1) := by decide +kernel
theorem dX6_isThicket_16 : decode cX6_isThicket 16 = .ok (.iconst 5, 1) := by decide +kernel
theorem dX6_isThicket_17 : decode cX6_isThicket 17 = .ok (.if_icmp .ne 7, 3) := by decide +kernel
theorem dX6_isThicket_20 : decode cX6_isThicket 20 = .ok (.iconst 1, 1) := by decide +kernel
theorem dX6_isThicket_21 : decode cX6_isThicket 21 = .ok (.goto 4, 3) := by decide +kernel
theorem dX6_isThicket_24 : decode cX6_isThicket 24 = .ok (.iconst 0, 1) := by decide +kernel
theorem dX6_isThicket_25 : decode cX6_isThicket 25 = .ok (.ireturn, 1) := by decide +kernel
theorem dX6_isGlade_0 : decode cX6_isGlade 0 = .ok (.aload_n 0, 1) := by decide +kernel
theorem dX6_isGlade_1 : decode cX6_isGlade 1 = .ok (.getfield 33, 3) := by decide +kernel
theorem dX6_isGlade_4 : decode cX6_isGlade 4 = .ok (.iload_n 1, 1) := by decide +kernel
theorem dX6_isGlade_5 : decode cX6_isGlade 5 = .ok (.iaload, 1) := by decide +kernel
theorem dX6_isGlade_6 : decode cX6_isGlade 6 = .ok (.iconst 1, 1) := by decide +kernel
theorem dX6_isGlade_7 : decode cX6_isGlade 7 = .ok (.if_icmp .eq 13, 3) := by decide +kernel
theorem dX6_isGlade_10 : decode cX6_isGlade 10 = .ok (.aload_n 0, 1) := by decide +kernel
theorem dX6_isGlade_11 : decode cX6_isGlade 11 = .ok (.getfield 33, 3) := by decide +kernel
theorem dX6_isGlade_14 : decode cX6_isGlade 14 = .ok (.iload_n 1, 1) := by decide +kernel
theorem dX6_isGlade_15 : decode cX6_isGlade 15 = .ok (.iaload, 1) := by decide +kernel
theorem dX6_isGlade_16 : decode cX6_isGlade 16 = .ok (.iconst 4, 1) := by decide +kernel
theorem dX6_isGlade_17 : decode cX6_isGlade 17 = .ok (.if_icmp .ne 7, 3) := by decide +kernel
theorem dX6_isGlade_20 : decode cX6_isGlade 20 = .ok (.iconst 1, 1) := by decide +kernel
theorem dX6_isGlade_21 : decode cX6_isGlade 21 = .ok (.goto 4, 3) := by decide +kernel
theorem dX6_isGlade_24 : decode cX6_isGlade 24 = .ok (.iconst 0, 1) := by decide +kernel
theorem dX6_isGlade_25 : decode cX6_isGlade 25 = .ok (.ireturn, 1) := by decide +kernel
theorem dX6_v_0 : decode cX6_v 0 = .ok (.aload_n 0, 1) := by decide +kernel
theorem dX6_v_1 : decode cX6_v 1 = .ok (.getfield 51, 3) := by decide +kernel
theorem dX6_v_4 : decode cX6_v 4 = .ok (.bipush 39, 2) := by decide +kernel
theorem dX6_v_6 : decode cX6_v 6 = .ok (.iload_n 1, 1) := by decide +kernel
theorem dX6_v_7 : decode cX6_v 7 = .ok (.imul, 1) := by decide +kernel
theorem dX6_v_8 : decode cX6_v 8 = .ok (.iload_n 2, 1) := by decide +kernel
theorem dX6_v_9 : decode cX6_v 9 = .ok (.iadd, 1) := by decide +kernel
theorem dX6_v_10 : decode cX6_v 10 = .ok (.iload_n 3, 1) := by decide +kernel
theorem dX6_v_11 : decode cX6_v 11 = .ok (.iadd, 1) := by decide +kernel
theorem dX6_v_12 : decode cX6_v 12 = .ok (.iaload, 1) := by decide +kernel
theorem dX6_v_13 : decode cX6_v 13 = .ok (.ireturn, 1) := by decide +kernel
theorem dX6_set_0 : decode cX6_set 0 = .ok (.aload_n 0, 1) := by decide +kernel
theorem dX6_set_1 : decode cX6_set 1 = .ok (.getfield 51, 3) := by decide +kernel
theorem dX6_set_4 : decode cX6_set 4 = .ok (.bipush 39, 2) := by decide +kernel
theorem dX6_set_6 : decode cX6_set 6 = .ok (.iload_n 1, 1) := by decide +kernel
theorem dX6_set_7 : decode cX6_set 7 = .ok (.imul, 1) := by decide +kernel
theorem dX6_set_8 : decode cX6_set 8 = .ok (.iload_n 2, 1) := by decide +kernel
theorem dX6_set_9 : decode cX6_set 9 = .ok (.iadd, 1) := by decide +kernel
theorem dX6_set_10 : decode cX6_set 10 = .ok (.iload_n 3, 1) := by decide +kernel
theorem dX6_set_11 : decode cX6_set 11 = .ok (.iadd, 1) := by decide +kernel
theorem dX6_set_12 : decode cX6_set 12 = .ok (.iload 4, 2) := by decide +kernel
theorem dX6_set_14 : decode cX6_set 14 = .ok (.iastore, 1) := by decide +kernel
theorem dX6_set_15 : decode cX6_set 15 = .ok (.return_, 1) := by decide +kernel
theorem dX6_copyTo_0 : decode cX6_copyTo 0 = .ok (.iconst 0, 1) := by decide +kernel
theorem dX6_copyTo_1 : decode cX6_copyTo 1 = .ok (.istore_n 3, 1) := by decide +kernel
theorem dX6_copyTo_2 : decode cX6_copyTo 2 = .ok (.iload_n 3, 1) := by decide +kernel
theorem dX6_copyTo_3 : decode cX6_copyTo 3 = .ok (.bipush 39, 2) := by decide +kernel
theorem dX6_copyTo_5 : decode cX6_copyTo 5 = .ok (.if_icmp .ge 23, 3) := by decide +kernel
theorem dX6_copyTo_8 : decode cX6_copyTo 8 = .ok (.aload_n 0, 1) := by decide +kernel
theorem dX6_copyTo_9 : decode cX6_copyTo 9 = .ok (.iload_n 2, 1) := by decide +kernel
theorem dX6_copyTo_10 : decode cX6_copyTo 10 = .ok (.iload_n 3, 1) := by decide +kernel
theorem dX6_copyTo_11 : decode cX6_copyTo 11 = .ok (.iconst 0, 1) := by decide +kernel
theorem dX6_copyTo_12 : decode cX6_copyTo 12 = .ok (.aload_n 0, 1) := by decide +kernel
theorem dX6_copyTo_13 : decode cX6_copyTo 13 = .ok (.iload_n 1, 1) := by decide +kernel
theorem dX6_copyTo_14 : decode cX6_copyTo 14 = .ok (.iload_n 3, 1) := by decide +kernel
theorem dX6_copyTo_15 : decode cX6_copyTo 15 = .ok (.iconst 0, 1) := by decide +kernel
theorem dX6_copyTo_16 : decode cX6_copyTo 16 = .ok (.invokevirtual 180, 3) := by decide +kernel
theorem dX6_copyTo_19 : decode cX6_copyTo 19 = .ok (.invokevirtual 173, 3) := by decide +kernel
theorem dX6_copyTo_22 : decode cX6_copyTo 22 = .ok (.iinc 3 1, 3) := by decide +kernel
theorem dX6_copyTo_25 : decode cX6_copyTo 25 = .ok (.goto (-23), 3) := by decide +kernel
theorem dX6_copyTo_28 : decode cX6_copyTo 28 = .ok (.return_, 1) := by decide +kernel
theorem dX6_marks_0 : decode cX6_marks 0 = .ok (.aload_n 0, 1) := by decide +kernel
theorem dX6_marks_1 : decode cX6_marks 1 = .ok (.iload_n 1, 1) := by decide +kernel
theorem dX6_marks_2 : decode cX6_marks 2 = .ok (.bipush 8, 2) := by decide +kernel
theorem dX6_marks_4 : decode cX6_marks 4 = .ok (.iload_n 2, 1) := by decide +kernel
theorem dX6_marks_5 : decode cX6_marks 5 = .ok (.imul, 1) := by decide +kernel
theorem dX6_marks_6 : decode cX6_marks 6 = .ok (.iload_n 3, 1) := by decide +kernel
theorem dX6_marks_7 : decode cX6_marks 7 = .ok (.invokevirtual 180, 3) := by decide +kernel
theorem dX6_marks_10 : decode cX6_marks 10 = .ok (.ireturn, 1) := by decide +kernel
theorem dX6_setMarks_0 : decode cX6_setMarks 0 = .ok (.aload_n 0, 1) := by decide +kernel
theorem dX6_setMarks_1 : decode cX6_setMarks 1 = .ok (.iload_n 1, 1) := by decide +kernel
theorem dX6_setMarks_2 : decode cX6_setMarks 2 = .ok (.bipush 8, 2) := by decide +kernel
theorem dX6_setMarks_4 : decode cX6_setMarks 4 = .ok (.iload_n 2, 1) := by decide +kernel
theorem dX6_setMarks_5 : decode cX6_setMarks 5 = .ok (.imul, 1) := by decide +kernel
theorem dX6_setMarks_6 : decode cX6_setMarks 6 = .ok (.iload_n 3, 1) := by decide +kernel
theorem dX6_setMarks_7 : decode cX6_setMarks 7 = .ok (.iload 4, 2) := by decide +kernel
theorem dX6_setMarks_9 : decode cX6_setMarks 9 = .ok (.invokevirtual 173, 3) := by decide +kernel
theorem dX6_setMarks_12 : decode cX6_setMarks 12 = .ok (.return_, 1) := by decide +kernel
theorem dX6_drops_0 : decode cX6_drops 0 = .ok (.iload_n 2, 1) := by decide +kernel
theorem dX6_drops_1 : decode cX6_drops 1 = .ok (.ifCond .ne 34, 3) := by decide +kernel
theorem dX6_drops_4 : decode cX6_drops 4 = .ok (.aload_n 0, 1) := by decide +kernel
theorem dX6_drops_5 : decode cX6_drops 5 = .ok (.getfield 33, 3) := by decide +kernel
theorem dX6_drops_8 : decode cX6_drops 8 = .ok (.iload_n 3, 1) := by decide +kernel
theorem dX6_drops_9 : decode cX6_drops 9 = .ok (.iaload, 1) := by decide +kernel
theorem dX6_drops_10 : decode cX6_drops 10 = .ok (.iconst 3, 1) := by decide +kernel
theorem dX6_drops_11 : decode cX6_drops 11 = .ok (.if_icmp .ne 24, 3) := by decide +kernel
theorem dX6_drops_14 : decode cX6_drops 14 = .ok (.aload_n 0, 1) := by decide +kernel
theorem dX6_drops_15 : decode cX6_drops 15 = .ok (.iload_n 1, 1) := by decide +kernel
theorem dX6_drops_16 : decode cX6_drops 16 = .ok (.bipush 24, 2) := by decide +kernel
theorem dX6_drops_18 : decode cX6_drops 18 = .ok (.iload_n 3, 1) := by decide +kernel
theorem dX6_drops_19 : decode cX6_drops 19 = .ok (.aload_n 0, 1) := by decide +kernel
theorem dX6_drops_20 : decode cX6_drops 20 = .ok (.iload_n 1, 1) := by decide +kernel
theorem dX6_drops_21 : decode cX6_drops 21 = .ok (.bipush 24, 2) := by decide +kernel
theorem dX6_drops_23 : decode cX6_drops 23 = .ok (.iload_n 3, 1) := by decide +kernel
theorem dX6_drops_24 : decode cX6_drops 24 = .ok (.invokevirtual 180, 3) := by decide +kernel
theorem dX6_drops_27 : decode cX6_drops 27 = .ok (.iconst 1, 1) := by decide +kernel
theorem dX6_drops_28 : decode cX6_drops 28 = .ok (.iadd, 1) := by decide +kernel
theorem dX6_drops_29 : decode cX6_drops 29 = .ok (.invokevirtual 173, 3) := by decide +kernel
theorem dX6_drops_32 : decode cX6_drops 32 = .ok (.goto 19, 3) := by decide +kernel
theorem dX6_drops_35 : decode cX6_drops 35 = .ok (.aload_n 0, 1) := by decide +kernel
theorem dX6_drops_36 : decode cX6_drops 36 = .ok (.iload_n 1, 1) := by decide +kernel
theorem dX6_drops_37 : decode cX6_drops 37 = .ok (.iload_n 2, 1) := by decide +kernel
theorem dX6_drops_38 : decode cX6_drops 38 = .ok (.iload_n 3, 1) := by decide +kernel
theorem dX6_drops_39 : decode cX6_drops 39 = .ok (.aload_n 0, 1) := by decide +kernel
theorem dX6_drops_40 : decode cX6_drops 40 = .ok (.iload_n 1, 1) := by decide +kernel
theorem dX6_drops_41 : decode cX6_drops 41 = .ok (.iload_n 2, 1) := by decide +kernel
theorem dX6_drops_42 : decode cX6_drops 42 = .ok (.iload_n 3, 1) := by decide +kernel
theorem dX6_drops_43 : decode cX6_drops 43 = .ok (.invokevirtual 184, 3) := by decide +kernel
theorem dX6_drops_46 : decode cX6_drops 46 = .ok (.iconst 1, 1) := by decide +kernel
theorem dX6_drops_47 : decode cX6_drops 47 = .ok (.iadd, 1) := by decide +kernel
theorem dX6_drops_48 : decode cX6_drops 48 = .ok (.invokevirtual 187, 3) := by decide +kernel
theorem dX6_drops_51 : decode cX6_drops 51 = .ok (.return_, 1) := by decide +kernel
theorem dX6_seen_0 : decode cX6_seen 0 = .ok (.aload_n 0, 1) := by decide +kernel
theorem dX6_seen_1 : decode cX6_seen 1 = .ok (.getfield 33, 3) := by decide +kernel
theorem dX6_seen_4 : decode cX6_seen 4 = .ok (.iload_n 2, 1) := by decide +kernel
theorem dX6_seen_5 : decode cX6_seen 5 = .ok (.iaload, 1) := by decide +kernel
theorem dX6_seen_6 : decode cX6_seen 6 = .ok (.iconst 5, 1) := by decide +kernel
theorem dX6_seen_7 : decode cX6_seen 7 = .ok (.if_icmp .ne 5, 3) := by decide +kernel
theorem dX6_seen_10 : decode cX6_seen 10 = .ok (.iconst 0, 1) := by decide +kernel
theorem dX6_seen_11 : decode cX6_seen 11 = .ok (.ireturn, 1) := by decide +kernel
theorem dX6_seen_12 : decode cX6_seen 12 = .ok (.aload_n 0, 1) := by decide +kernel
theorem dX6_seen_13 : decode cX6_seen 13 = .ok (.iload_n 1, 1) := by decide +kernel
theorem dX6_seen_14 : decode cX6_seen 14 = .ok (.iconst 1, 1) := by decide +kernel
theorem dX6_seen_15 : decode cX6_seen 15 = .ok (.iload_n 2, 1) := by decide +kernel
theorem dX6_seen_16 : decode cX6_seen 16 = .ok (.invokevirtual 184, 3) := by decide +kernel
theorem dX6_seen_19 : decode cX6_seen 19 = .ok (.ifCond .le 7, 3) := by decide +kernel
theorem dX6_seen_22 : decode cX6_seen 22 = .ok (.iconst 2, 1) := by decide +kernel
theorem dX6_seen_23 : decode cX6_seen 23 = .ok (.goto 4, 3) := by decide +kernel
theorem dX6_seen_26 : decode cX6_seen 26 = .ok (.iconst 0, 1) := by decide +kernel
theorem dX6_seen_27 : decode cX6_seen 27 = .ok (.istore_n 3, 1) := by decide +kernel
theorem dX6_seen_28 : decode cX6_seen 28 = .ok (.aload_n 0, 1) := by decide +kernel
theorem dX6_seen_29 : decode cX6_seen 29 = .ok (.getfield 33, 3) := by decide +kernel
theorem dX6_seen_32 : decode cX6_seen 32 = .ok (.iload_n 2, 1) := by decide +kernel
theorem dX6_seen_33 : decode cX6_seen 33 = .ok (.iaload, 1) := by decide +kernel
theorem dX6_seen_34 : decode cX6_seen 34 = .ok (.iconst 2, 1) := by decide +kernel
theorem dX6_seen_35 : decode cX6_seen 35 = .ok (.if_icmp .eq 49, 3) := by decide +kernel
theorem dX6_seen_38 : decode cX6_seen 38 = .ok (.iload_n 3, 1) := by decide +kernel
theorem dX6_seen_39 : decode cX6_seen 39 = .ok (.aload_n 0, 1) := by decide +kernel
theorem dX6_seen_40 : decode cX6_seen 40 = .ok (.iload_n 1, 1) := by decide +kernel
theorem dX6_seen_41 : decode cX6_seen 41 = .ok (.iconst 0, 1) := by decide +kernel
theorem dX6_seen_42 : decode cX6_seen 42 = .ok (.iload_n 2, 1) := by decide +kernel
theorem dX6_seen_43 : decode cX6_seen 43 = .ok (.invokevirtual 184, 3) := by decide +kernel
theorem dX6_seen_46 : decode cX6_seen 46 = .ok (.ifCond .le 7, 3) := by decide +kernel
theorem dX6_seen_49 : decode cX6_seen 49 = .ok (.iconst 1, 1) := by decide +kernel
theorem dX6_seen_50 : decode cX6_seen 50 = .ok (.goto 4, 3) := by decide +kernel
theorem dX6_seen_53 : decode cX6_seen 53 = .ok (.iconst 0, 1) := by decide +kernel
theorem dX6_seen_54 : decode cX6_seen 54 = .ok (.ior, 1) := by decide +kernel
theorem dX6_seen_55 : decode cX6_seen 55 = .ok (.istore_n 3, 1) := by decide +kernel
theorem dX6_seen_56 : decode cX6_seen 56 = .ok (.iload_n 3, 1) := by decide +kernel
theorem dX6_seen_57 : decode cX6_seen 57 = .ok (.aload_n 0, 1) := by decide +kernel
theorem dX6_seen_58 : decode cX6_seen 58 = .ok (.iload_n 1, 1) := by decide +kernel
theorem dX6_seen_59 : decode cX6_seen 59 = .ok (.iconst 2, 1) := by decide +kernel
theorem dX6_seen_60 : decode cX6_seen 60 = .ok (.iload_n 2, 1) := by decide +kernel
theorem dX6_seen_61 : decode cX6_seen 61 = .ok (.invokevirtual 184, 3) := by decide +kernel
theorem dX6_seen_64 : decode cX6_seen 64 = .ok (.ifCond .gt 13, 3) := by decide +kernel
theorem dX6_seen_67 : decode cX6_seen 67 = .ok (.aload_n 0, 1) := by decide +kernel
theorem dX6_seen_68 : decode cX6_seen 68 = .ok (.getfield 33, 3) := by decide +kernel
theorem dX6_seen_71 : decode cX6_seen 71 = .ok (.iload_n 2, 1) := by decide +kernel
theorem dX6_seen_72 : decode cX6_seen 72 = .ok (.iaload, 1) := by decide +kernel
theorem dX6_seen_73 : decode cX6_seen 73 = .ok (.iconst 4, 1) := by decide +kernel
theorem dX6_seen_74 : decode cX6_seen 74 = .ok (.if_icmp .ne 7, 3) := by decide +kernel
theorem dX6_seen_77 : decode cX6_seen 77 = .ok (.iconst 4, 1) := by decide +kernel
theorem dX6_seen_78 : decode cX6_seen 78 = .ok (.goto 4, 3) := by decide +kernel
theorem dX6_seen_81 : decode cX6_seen 81 = .ok (.iconst 0, 1) := by decide +kernel
theorem dX6_seen_82 : decode cX6_seen 82 = .ok (.ior, 1) := by decide +kernel
theorem dX6_seen_83 : decode cX6_seen 83 = .ok (.istore_n 3, 1) := by decide +kernel
theorem dX6_seen_84 : decode cX6_seen 84 = .ok (.iload_n 3, 1) := by decide +kernel
theorem dX6_seen_85 : decode cX6_seen 85 = .ok (.ireturn, 1) := by decide +kernel
theorem dX6_nextOf_0 : decode cX6_nextOf 0 = .ok (.bipush (-9), 2) := by decide +kernel
theorem dX6_nextOf_2 : decode cX6_nextOf 2 = .ok (.istore_n 2, 1) := by decide +kernel
theorem dX6_nextOf_3 : decode cX6_nextOf 3 = .ok (.aload_n 0, 1) := by decide +kernel
theorem dX6_nextOf_4 : decode cX6_nextOf 4 = .ok (.getfield 167, 3) := by decide +kernel
theorem dX6_nextOf_7 : decode cX6_nextOf 7 = .ok (.iconst 1, 1) := by decide +kernel
theorem dX6_nextOf_8 : decode cX6_nextOf 8 = .ok (.isub, 1) := by decide +kernel
theorem dX6_nextOf_9 : decode cX6_nextOf 9 = .ok (.istore_n 3, 1) := by decide +kernel
theorem dX6_nextOf_10 : decode cX6_nextOf 10 = .ok (.iload_n 3, 1) := by decide +kernel
theorem dX6_nextOf_11 : decode cX6_nextOf 11 = .ok (.ifCond .lt 33, 3) := by decide +kernel
theorem dX6_nextOf_14 : decode cX6_nextOf 14 = .ok (.aload_n 0, 1) := by decide +kernel
theorem dX6_nextOf_15 : decode cX6_nextOf 15 = .ok (.getfield 36, 3) := by decide +kernel
theorem dX6_nextOf_18 : decode cX6_nextOf 18 = .ok (.iload_n 1, 1) := by decide +kernel
theorem dX6_nextOf_19 : decode cX6_nextOf 19 = .ok (.iaload, 1) := by decide +kernel
theorem dX6_nextOf_20 : decode cX6_nextOf 20 = .ok (.iload_n 3, 1) := by decide +kernel
theorem dX6_nextOf_21 : decode cX6_nextOf 21 = .ok (.invokestatic 145, 3) := by decide +kernel
theorem dX6_nextOf_24 : decode cX6_nextOf 24 = .ok (.ifCond .eq 12, 3) := by decide +kernel
theorem dX6_nextOf_27 : decode cX6_nextOf 27 = .ok (.iload_n 3, 1) := by decide +kernel
theorem dX6_nextOf_28 : decode cX6_nextOf 28 = .ok (.iload_n 1, 1) := by decide +kernel
theorem dX6_nextOf_29 : decode cX6_nextOf 29 = .ok (.if_icmp .le 7, 3) := by decide +kernel
theorem dX6_nextOf_32 : decode cX6_nextOf 32 = .ok (.iload_n 3, 1) := by decide +kernel
theorem dX6_nextOf_33 : decode cX6_nextOf 33 = .ok (.goto 4, 3) := by decide +kernel
theorem dX6_nextOf_36 : decode cX6_nextOf 36 = .ok (.iload_n 2, 1) := by decide +kernel
theorem dX6_nextOf_37 : decode cX6_nextOf 37 = .ok (.istore_n 2, 1) := by decide +kernel
theorem dX6_nextOf_38 : decode cX6_nextOf 38 = .ok (.iinc 3 (-1), 3) := by decide +kernel
theorem dX6_nextOf_41 : decode cX6_nextOf 41 = .ok (.goto (-31), 3) := by decide +kernel
theorem dX6_nextOf_44 : decode cX6_nextOf 44 = .ok (.aload_n 0, 1) := by decide +kernel
theorem dX6_nextOf_45 : decode cX6_nextOf 45 = .ok (.getfield 167, 3) := by decide +kernel
theorem dX6_nextOf_48 : decode cX6_nextOf 48 = .ok (.iconst 1, 1) := by decide +kernel
theorem dX6_nextOf_49 : decode cX6_nextOf 49 = .ok (.isub, 1) := by decide +kernel
theorem dX6_nextOf_50 : decode cX6_nextOf 50 = .ok (.istore_n 3, 1) := by decide +kernel
theorem dX6_nextOf_51 : decode cX6_nextOf 51 = .ok (.iload_n 3, 1) := by decide +kernel
theorem dX6_nextOf_52 : decode cX6_nextOf 52 = .ok (.ifCond .lt 39, 3) := by decide +kernel
theorem dX6_nextOf_55 : decode cX6_nextOf 55 = .ok (.iload_n 2, 1) := by decide +kernel
theorem dX6_nextOf_56 : decode cX6_nextOf 56 = .ok (.bipush (-9), 2) := by decide +kernel
theorem dX6_nextOf_58 : decode cX6_nextOf 58 = .ok (.if_icmp .eq 8, 3) := by decide +kernel
theorem dX6_nextOf_61 : decode cX6_nextOf 61 = .ok (.iload_n 2, 1) := by decide +kernel
theorem dX6_nextOf_62 : decode cX6_nextOf 62 = .ok (.iload_n 1, 1) := by decide +kernel
theorem dX6_nextOf_63 : decode cX6_nextOf 63 = .ok (.if_icmp .ge 28, 3) := by decide +kernel
theorem dX6_nextOf_66 : decode cX6_nextOf 66 = .ok (.aload_n 0, 1) := by decide +kernel
theorem dX6_nextOf_67 : decode cX6_nextOf 67 = .ok (.getfield 36, 3) := by decide +kernel
theorem dX6_nextOf_70 : decode cX6_nextOf 70 = .ok (.iload_n 1, 1) := by decide +kernel
theorem dX6_nextOf_71 : decode cX6_nextOf 71 = .ok (.iaload, 1) := by decide +kernel
theorem dX6_nextOf_72 : decode cX6_nextOf 72 = .ok (.iload_n 3, 1) := by decide +kernel
theorem dX6_nextOf_73 : decode cX6_nextOf 73 = .ok (.invokestatic 145, 3) := by decide +kernel
theorem dX6_nextOf_76 : decode cX6_nextOf 76 = .ok (.ifCond .eq 7, 3) := by decide +kernel
theorem dX6_nextOf_79 : decode cX6_nextOf 79 = .ok (.iload_n 3, 1) := by decide +kernel
theorem dX6_nextOf_80 : decode cX6_nextOf 80 = .ok (.goto 4, 3) := by decide +kernel
theorem dX6_nextOf_83 : decode cX6_nextOf 83 = .ok (.iload_n 2, 1) := by decide +kernel
theorem dX6_nextOf_84 : decode cX6_nextOf 84 = .ok (.istore_n 2, 1) := by decide +kernel
theorem dX6_nextOf_85 : decode cX6_nextOf 85 = .ok (.iinc 3 (-1), 3) := by decide +kernel
theorem dX6_nextOf_88 : decode cX6_nextOf 88 = .ok (.goto (-37), 3) := by decide +kernel
theorem dX6_nextOf_91 : decode cX6_nextOf 91 = .ok (.iload_n 2, 1) := by decide +kernel
theorem dX6_nextOf_92 : decode cX6_nextOf 92 = .ok (.bipush (-9), 2) := by decide +kernel
theorem dX6_nextOf_94 : decode cX6_nextOf 94 = .ok (.if_icmp .ne 7, 3) := by decide +kernel
theorem dX6_nextOf_97 : decode cX6_nextOf 97 = .ok (.iload_n 1, 1) := by decide +kernel
theorem dX6_nextOf_98 : decode cX6_nextOf 98 = .ok (.goto 4, 3) := by decide +kernel
theorem dX6_nextOf_101 : decode cX6_nextOf 101 = .ok (.iload_n 2, 1) := by decide +kernel
theorem dX6_nextOf_102 : decode cX6_nextOf 102 = .ok (.ireturn, 1) := by decide +kernel
theorem dX6_eatSet_0 : decode cX6_eatSet 0 = .ok (.iconst 1, 1) := by decide +kernel
theorem dX6_eatSet_1 : decode cX6_eatSet 1 = .ok (.iload_n 1, 1) := by decide +kernel
theorem dX6_eatSet_2 : decode cX6_eatSet 2 = .ok (.ishl, 1) := by decide +kernel
theorem dX6_eatSet_3 : decode cX6_eatSet 3 = .ok (.istore_n 2, 1) := by decide +kernel
theorem dX6_eatSet_4 : decode cX6_eatSet 4 = .ok (.iconst 0, 1) := by decide +kernel
theorem dX6_eatSet_5 : decode cX6_eatSet 5 = .ok (.istore_n 3, 1) := by decide +kernel
theorem dX6_eatSet_6 : decode cX6_eatSet 6 = .ok (.iload_n 3, 1) := by decide +kernel
theorem dX6_eatSet_7 : decode cX6_eatSet 7 = .ok (.aload_n 0, 1) := by decide +kernel
theorem dX6_eatSet_8 : decode cX6_eatSet 8 = .ok (.getfield 167, 3) := by decide +kernel
theorem dX6_eatSet_11 : decode cX6_eatSet 11 = .ok (.if_icmp .ge 48, 3) := by decide +kernel
theorem dX6_eatSet_14 : decode cX6_eatSet 14 = .ok (.aload_n 0, 1) := by decide +kernel
theorem dX6_eatSet_15 : decode cX6_eatSet 15 = .ok (.iload_n 1, 1) := by decide +kernel
theorem dX6_eatSet_16 : decode cX6_eatSet 16 = .ok (.invokevirtual 190, 3) := by decide +kernel
theorem dX6_eatSet_19 : decode cX6_eatSet 19 = .ok (.ifCond .eq 40, 3) := by decide +kernel
theorem dX6_eatSet_22 : decode cX6_eatSet 22 = .ok (.iload_n 2, 1) := by decide +kernel
theorem dX6_eatSet_23 : decode cX6_eatSet 23 = .ok (.aload_n 0, 1) := by decide +kernel
theorem dX6_eatSet_24 : decode cX6_eatSet 24 = .ok (.getfield 36, 3) := by decide +kernel
theorem dX6_eatSet_27 : decode cX6_eatSet 27 = .ok (.iload_n 1, 1) := by decide +kernel
theorem dX6_eatSet_28 : decode cX6_eatSet 28 = .ok (.iaload, 1) := by decide +kernel
theorem dX6_eatSet_29 : decode cX6_eatSet 29 = .ok (.iload_n 3, 1) := by decide +kernel
theorem dX6_eatSet_30 : decode cX6_eatSet 30 = .ok (.invokestatic 145, 3) := by decide +kernel
theorem dX6_eatSet_33 : decode cX6_eatSet 33 = .ok (.ifCond .eq 17, 3) := by decide +kernel
theorem dX6_eatSet_36 : decode cX6_eatSet 36 = .ok (.aload_n 0, 1) := by decide +kernel
theorem dX6_eatSet_37 : decode cX6_eatSet 37 = .ok (.iload_n 3, 1) := by decide +kernel
theorem dX6_eatSet_38 : decode cX6_eatSet 38 = .ok (.invokevirtual 193, 3) := by decide +kernel
theorem dX6_eatSet_41 : decode cX6_eatSet 41 = .ok (.ifCond .ne 9, 3) := by decide +kernel
theorem dX6_eatSet_44 : decode cX6_eatSet 44 = .ok (.iconst 1, 1) := by decide +kernel
theorem dX6_eatSet_45 : decode cX6_eatSet 45 = .ok (.iload_n 3, 1) := by decide +kernel
theorem dX6_eatSet_46 : decode cX6_eatSet 46 = .ok (.ishl, 1) := by decide +kernel
theorem dX6_eatSet_47 : decode cX6_eatSet 47 = .ok (.goto 4, 3) := by decide +kernel
theorem dX6_eatSet_50 : decode cX6_eatSet 50 = .ok (.iconst 0, 1) := by decide +kernel
theorem dX6_eatSet_51 : decode cX6_eatSet 51 = .ok (.ior, 1) := by decide +kernel
theorem dX6_eatSet_52 : decode cX6_eatSet 52 = .ok (.istore_n 2, 1) := by decide +kernel
theorem dX6_eatSet_53 : decode cX6_eatSet 53 = .ok (.iinc 3 1, 3) := by decide +kernel
theorem dX6_eatSet_56 : decode cX6_eatSet 56 = .ok (.goto (-50), 3) := by decide +kernel
theorem dX6_eatSet_59 : decode cX6_eatSet 59 = .ok (.iload_n 2, 1) := by decide +kernel
theorem dX6_eatSet_60 : decode cX6_eatSet 60 = .ok (.ireturn, 1) := by decide +kernel
theorem dX6_crumbsOn_0 : decode cX6_crumbsOn 0 = .ok (.iconst 0, 1) := by decide +kernel
theorem dX6_crumbsOn_1 : decode cX6_crumbsOn 1 = .ok (.istore_n 3, 1) := by decide +kernel
theorem dX6_crumbsOn_2 : decode cX6_crumbsOn 2 = .ok (.iconst 0, 1) := by decide +kernel
theorem dX6_crumbsOn_3 : decode cX6_crumbsOn 3 = .ok (.istore 4, 2) := by decide +kernel
theorem dX6_crumbsOn_5 : decode cX6_crumbsOn 5 = .ok (.iload 4, 2) := by decide +kernel
theorem dX6_crumbsOn_7 : decode cX6_crumbsOn 7 = .ok (.aload_n 0, 1) := by decide +kernel
theorem dX6_crumbsOn_8 : decode cX6_crumbsOn 8 = .ok (.getfield 167, 3) := by decide +kernel
theorem dX6_crumbsOn_11 : decode cX6_crumbsOn 11 = .ok (.if_icmp .ge 33, 3) := by decide +kernel
theorem dX6_crumbsOn_14 : decode cX6_crumbsOn 14 = .ok (.iload_n 3, 1) := by decide +kernel
theorem dX6_crumbsOn_15 : decode cX6_crumbsOn 15 = .ok (.iload_n 2, 1) := by decide +kernel
theorem dX6_crumbsOn_16 : decode cX6_crumbsOn 16 = .ok (.iload 4, 2) := by decide +kernel
theorem dX6_crumbsOn_18 : decode cX6_crumbsOn 18 = .ok (.invokestatic 145, 3) := by decide +kernel
theorem dX6_crumbsOn_21 : decode cX6_crumbsOn 21 = .ok (.ifCond .eq 14, 3) := by decide +kernel
theorem dX6_crumbsOn_24 : decode cX6_crumbsOn 24 = .ok (.aload_n 0, 1) := by decide +kernel
theorem dX6_crumbsOn_25 : decode cX6_crumbsOn 25 = .ok (.iload_n 1, 1) := by decide +kernel
theorem dX6_crumbsOn_26 : decode cX6_crumbsOn 26 = .ok (.iconst 0, 1) := by decide +kernel
theorem dX6_crumbsOn_27 : decode cX6_crumbsOn 27 = .ok (.iload 4, 2) := by decide +kernel
theorem dX6_crumbsOn_29 : decode cX6_crumbsOn 29 = .ok (.invokevirtual 184, 3) := by decide +kernel
theorem dX6_crumbsOn_32 : decode cX6_crumbsOn 32 = .ok (.goto 4, 3) := by decide +kernel
theorem dX6_crumbsOn_35 : decode cX6_crumbsOn 35 = .ok (.iconst 0, 1) := by decide +kernel
theorem dX6_crumbsOn_36 : decode cX6_crumbsOn 36 = .ok (.iadd, 1) := by decide +kernel
theorem dX6_crumbsOn_37 : decode cX6_crumbsOn 37 = .ok (.istore_n 3, 1) := by decide +kernel
theorem dX6_crumbsOn_38 : decode cX6_crumbsOn 38 = .ok (.iinc 4 1, 3) := by decide +kernel
theorem dX6_crumbsOn_41 : decode cX6_crumbsOn 41 = .ok (.goto (-36), 3) := by decide +kernel
theorem dX6_crumbsOn_44 : decode cX6_crumbsOn 44 = .ok (.iload_n 3, 1) := by decide +kernel
theorem dX6_crumbsOn_45 : decode cX6_crumbsOn 45 = .ok (.ireturn, 1) := by decide +kernel
theorem dX6_hourOf_0 : decode cX6_hourOf 0 = .ok (.iconst 0, 1) := by decide +kernel
theorem dX6_hourOf_1 : decode cX6_hourOf 1 = .ok (.istore_n 2, 1) := by decide +kernel
theorem dX6_hourOf_2 : decode cX6_hourOf 2 = .ok (.iconst 0, 1) := by decide +kernel
theorem dX6_hourOf_3 : decode cX6_hourOf 3 = .ok (.istore_n 3, 1) := by decide +kernel
theorem dX6_hourOf_4 : decode cX6_hourOf 4 = .ok (.iload_n 3, 1) := by decide +kernel
theorem dX6_hourOf_5 : decode cX6_hourOf 5 = .ok (.aload_n 0, 1) := by decide +kernel
theorem dX6_hourOf_6 : decode cX6_hourOf 6 = .ok (.getfield 170, 3) := by decide +kernel
theorem dX6_hourOf_9 : decode cX6_hourOf 9 = .ok (.if_icmp .ge 99, 3) := by decide +kernel
theorem dX6_hourOf_12 : decode cX6_hourOf 12 = .ok (.aload_n 0, 1) := by decide +kernel
theorem dX6_hourOf_13 : decode cX6_hourOf 13 = .ok (.iload_n 1, 1) := by decide +kernel
theorem dX6_hourOf_14 : decode cX6_hourOf 14 = .ok (.bipush 32, 2) := by decide +kernel
theorem dX6_hourOf_16 : decode cX6_hourOf 16 = .ok (.iload_n 3, 1) := by decide +kernel
theorem dX6_hourOf_17 : decode cX6_hourOf 17 = .ok (.invokevirtual 180, 3) := by decide +kernel
theorem dX6_hourOf_20 : decode cX6_hourOf 20 = .ok (.istore 4, 2) := by decide +kernel
theorem dX6_hourOf_22 : decode cX6_hourOf 22 = .ok (.aload_n 0, 1) := by decide +kernel
theorem dX6_hourOf_23 : decode cX6_hourOf 23 = .ok (.iload 4, 2) := by decide +kernel
theorem dX6_hourOf_25 : decode cX6_hourOf 25 = .ok (.invokevirtual 196, 3) := by decide +kernel
theorem dX6_hourOf_28 : decode cX6_hourOf 28 = .ok (.istore 5, 2) := by decide +kernel
theorem dX6_hourOf_30 : decode cX6_hourOf 30 = .ok (.iload_n 2, 1) := by decide +kernel
theorem dX6_hourOf_31 : decode cX6_hourOf 31 = .ok (.aload_n 0, 1) := by decide +kernel
theorem dX6_hourOf_32 : decode cX6_hourOf 32 = .ok (.iload_n 1, 1) := by decide +kernel
theorem dX6_hourOf_33 : decode cX6_hourOf 33 = .ok (.iload 5, 2) := by decide +kernel
theorem dX6_hourOf_35 : decode cX6_hourOf 35 = .ok (.invokevirtual 199, 3) := by decide +kernel
theorem dX6_hourOf_38 : decode cX6_hourOf 38 = .ok (.iadd, 1) := by decide +kernel
theorem dX6_hourOf_39 : decode cX6_hourOf 39 = .ok (.istore_n 2, 1) := by decide +kernel
theorem dX6_hourOf_40 : decode cX6_hourOf 40 = .ok (.iconst 0, 1) := by decide +kernel
theorem dX6_hourOf_41 : decode cX6_hourOf 41 = .ok (.istore 6, 2) := by decide +kernel
theorem dX6_hourOf_43 : decode cX6_hourOf 43 = .ok (.iload 6, 2) := by decide +kernel
theorem dX6_hourOf_45 : decode cX6_hourOf 45 = .ok (.aload_n 0, 1) := by decide +kernel
theorem dX6_hourOf_46 : decode cX6_hourOf 46 = .ok (.getfield 167, 3) := by decide +kernel
theorem dX6_hourOf_49 : decode cX6_hourOf 49 = .ok (.if_icmp .ge 39, 3) := by decide +kernel
theorem dX6_hourOf_52 : decode cX6_hourOf 52 = .ok (.aload_n 0, 1) := by decide +kernel
theorem dX6_hourOf_53 : decode cX6_hourOf 53 = .ok (.iload_n 1, 1) := by decide +kernel
theorem dX6_hourOf_54 : decode cX6_hourOf 54 = .ok (.iconst 0, 1) := by decide +kernel
theorem dX6_hourOf_55 : decode cX6_hourOf 55 = .ok (.iload 6, 2) := by decide +kernel
theorem dX6_hourOf_57 : decode cX6_hourOf 57 = .ok (.iload 5, 2) := by decide +kernel
theorem dX6_hourOf_59 : decode cX6_hourOf 59 = .ok (.iload 6, 2) := by decide +kernel
theorem dX6_hourOf_61 : decode cX6_hourOf 61 = .ok (.invokestatic 145, 3) := by decide +kernel
theorem dX6_hourOf_64 : decode cX6_hourOf 64 = .ok (.ifCond .eq 7, 3) := by decide +kernel
theorem dX6_hourOf_67 : decode cX6_hourOf 67 = .ok (.iconst 0, 1) := by decide +kernel
theorem dX6_hourOf_68 : decode cX6_hourOf 68 = .ok (.goto 11, 3) := by decide +kernel
theorem dX6_hourOf_71 : decode cX6_hourOf 71 = .ok (.aload_n 0, 1) := by decide +kernel
theorem dX6_hourOf_72 : decode cX6_hourOf 72 = .ok (.iload_n 1, 1) := by decide +kernel
theorem dX6_hourOf_73 : decode cX6_hourOf 73 = .ok (.iconst 0, 1) := by decide +kernel
theorem dX6_hourOf_74 : decode cX6_hourOf 74 = .ok (.iload 6, 2) := by decide +kernel
theorem dX6_hourOf_76 : decode cX6_hourOf 76 = .ok (.invokevirtual 184, 3) := by decide +kernel
theorem dX6_hourOf_79 : decode cX6_hourOf 79 = .ok (.invokevirtual 187, 3) := by decide +kernel
theorem dX6_hourOf_82 : decode cX6_hourOf 82 = .ok (.iinc 6 1, 3) := by decide +kernel
theorem dX6_hourOf_85 : decode cX6_hourOf 85 = .ok (.goto (-42), 3) := by decide +kernel
theorem dX6_hourOf_88 : decode cX6_hourOf 88 = .ok (.aload_n 0, 1) := by decide +kernel
theorem dX6_hourOf_89 : decode cX6_hourOf 89 = .ok (.iload_n 1, 1) := by decide +kernel
theorem dX6_hourOf_90 : decode cX6_hourOf 90 = .ok (.bipush 32, 2) := by decide +kernel
theorem dX6_hourOf_92 : decode cX6_hourOf 92 = .ok (.iload_n 3, 1) := by decide +kernel
theorem dX6_hourOf_93 : decode cX6_hourOf 93 = .ok (.aload_n 0, 1) := by decide +kernel
theorem dX6_hourOf_94 : decode cX6_hourOf 94 = .ok (.iload 4, 2) := by decide +kernel
theorem dX6_hourOf_96 : decode cX6_hourOf 96 = .ok (.invokevirtual 202, 3) := by decide +kernel
theorem dX6_hourOf_99 : decode cX6_hourOf 99 = .ok (.invokevirtual 173, 3) := by decide +kernel
theorem dX6_hourOf_102 : decode cX6_hourOf 102 = .ok (.iinc 3 1, 3) := by decide +kernel
theorem dX6_hourOf_105 : decode cX6_hourOf 105 = .ok (.goto (-101), 3) := by decide +kernel
theorem dX6_hourOf_108 : decode cX6_hourOf 108 = .ok (.iload_n 2, 1) := by decide +kernel
theorem dX6_hourOf_109 : decode cX6_hourOf 109 = .ok (.ireturn, 1) := by decide +kernel
theorem dX6_hoursOf_0 : decode cX6_hoursOf 0 = .ok (.iconst 0, 1) := by decide +kernel
theorem dX6_hoursOf_1 : decode cX6_hoursOf 1 = .ok (.istore_n 3, 1) := by decide +kernel
theorem dX6_hoursOf_2 : decode cX6_hoursOf 2 = .ok (.iconst 0, 1) := by decide +kernel
theorem dX6_hoursOf_3 : decode cX6_hoursOf 3 = .ok (.istore 4, 2) := by decide +kernel
theorem dX6_hoursOf_5 : decode cX6_hoursOf 5 = .ok (.iload 4, 2) := by decide +kernel
theorem dX6_hoursOf_7 : decode cX6_hoursOf 7 = .ok (.iload_n 2, 1) := by decide +kernel
theorem dX6_hoursOf_8 : decode cX6_hoursOf 8 = .ok (.if_icmp .ge 17, 3) := by decide +kernel
theorem dX6_hoursOf_11 : decode cX6_hoursOf 11 = .ok (.iload_n 3, 1) := by decide +kernel
theorem dX6_hoursOf_12 : decode cX6_hoursOf 12 = .ok (.aload_n 0, 1) := by decide +kernel
theorem dX6_hoursOf_13 : decode cX6_hoursOf 13 = .ok (.iload_n 1, 1) := by decide +kernel
theorem dX6_hoursOf_14 : decode cX6_hoursOf 14 = .ok (.invokevirtual 205, 3) := by decide +kernel
theorem dX6_hoursOf_17 : decode cX6_hoursOf 17 = .ok (.iadd, 1) := by decide +kernel
theorem dX6_hoursOf_18 : decode cX6_hoursOf 18 = .ok (.istore_n 3, 1) := by decide +kernel
theorem dX6_hoursOf_19 : decode cX6_hoursOf 19 = .ok (.iinc 4 1, 3) := by decide +kernel
theorem dX6_hoursOf_22 : decode cX6_hoursOf 22 = .ok (.goto (-17), 3) := by decide +kernel
theorem dX6_hoursOf_25 : decode cX6_hoursOf 25 = .ok (.iload_n 3, 1) := by decide +kernel
theorem dX6_hoursOf_26 : decode cX6_hoursOf 26 = .ok (.ireturn, 1) := by decide +kernel
theorem dX6_placeTells_0 : decode cX6_placeTells 0 = .ok (.iload_n 2, 1) := by decide +kernel
theorem dX6_placeTells_1 : decode cX6_placeTells 1 = .ok (.lookupswitch 56 #[(0, 35), (1, 42), (5, 49)], 35) := by decide +kernel
theorem dX6_placeTells_36 : decode cX6_placeTells 36 = .ok (.aload_n 0, 1) := by decide +kernel
theorem dX6_placeTells_37 : decode cX6_placeTells 37 = .ok (.getfield 33, 3) := by decide +kernel
theorem dX6_placeTells_40 : decode cX6_placeTells 40 = .ok (.iload_n 1, 1) := by decide +kernel
theorem dX6_placeTells_41 : decode cX6_placeTells 41 = .ok (.iaload, 1) := by decide +kernel
theorem dX6_placeTells_42 : decode cX6_placeTells 42 = .ok (.ireturn, 1) := by decide +kernel
theorem dX6_placeTells_43 : decode cX6_placeTells 43 = .ok (.aload_n 0, 1) := by decide +kernel
theorem dX6_placeTells_44 : decode cX6_placeTells 44 = .ok (.getfield 36, 3) := by decide +kernel
theorem dX6_placeTells_47 : decode cX6_placeTells 47 = .ok (.iload_n 1, 1) := by decide +kernel
theorem dX6_placeTells_48 : decode cX6_placeTells 48 = .ok (.iaload, 1) := by decide +kernel
theorem dX6_placeTells_49 : decode cX6_placeTells 49 = .ok (.ireturn, 1) := by decide +kernel
theorem dX6_placeTells_50 : decode cX6_placeTells 50 = .ok (.aload_n 0, 1) := by decide +kernel
theorem dX6_placeTells_51 : decode cX6_placeTells 51 = .ok (.iconst 0, 1) := by decide +kernel
theorem dX6_placeTells_52 : decode cX6_placeTells 52 = .ok (.iload_n 1, 1) := by decide +kernel
theorem dX6_placeTells_53 : decode cX6_placeTells 53 = .ok (.invokevirtual 208, 3) := by decide +kernel
theorem dX6_placeTells_56 : decode cX6_placeTells 56 = .ok (.ireturn, 1) := by decide +kernel
theorem dX6_placeTells_57 : decode cX6_placeTells 57 = .ok (.aload_n 0, 1) := by decide +kernel
theorem dX6_placeTells_58 : decode cX6_placeTells 58 = .ok (.iconst 0, 1) := by decide +kernel
theorem dX6_placeTells_59 : decode cX6_placeTells 59 = .ok (.iload_n 2, 1) := by decide +kernel
theorem dX6_placeTells_60 : decode cX6_placeTells 60 = .ok (.iconst 2, 1) := by decide +kernel
theorem dX6_placeTells_61 : decode cX6_placeTells 61 = .ok (.isub, 1) := by decide +kernel
theorem dX6_placeTells_62 : decode cX6_placeTells 62 = .ok (.iload_n 1, 1) := by decide +kernel
theorem dX6_placeTells_63 : decode cX6_placeTells 63 = .ok (.invokevirtual 184, 3) := by decide +kernel
theorem dX6_placeTells_66 : decode cX6_placeTells 66 = .ok (.ireturn, 1) := by decide +kernel
theorem dX6_place_0 : decode cX6_place 0 = .ok (.aload_n 0, 1) := by decide +kernel
theorem dX6_place_1 : decode cX6_place 1 = .ok (.iload_n 1, 1) := by decide +kernel
theorem dX6_place_2 : decode cX6_place 2 = .ok (.invokevirtual 211, 3) := by decide +kernel
theorem dX6_place_5 : decode cX6_place 5 = .ok (.ifCond .eq 26, 3) := by decide +kernel
theorem dX6_place_8 : decode cX6_place 8 = .ok (.iload_n 2, 1) := by decide +kernel
theorem dX6_place_9 : decode cX6_place 9 = .ok (.iconst 0, 1) := by decide +kernel
theorem dX6_place_10 : decode cX6_place 10 = .ok (.iconst 5, 1) := by decide +kernel
theorem dX6_place_11 : decode cX6_place 11 = .ok (.invokestatic 92, 3) := by decide +kernel
theorem dX6_place_14 : decode cX6_place 14 = .ok (.ifCond .eq 17, 3) := by decide +kernel
theorem dX6_place_17 : decode cX6_place 17 = .ok (.aload_n 0, 1) := by decide +kernel
theorem dX6_place_18 : decode cX6_place 18 = .ok (.aload_n 0, 1) := by decide +kernel
theorem dX6_place_19 : decode cX6_place 19 = .ok (.iload_n 1, 1) := by decide +kernel
theorem dX6_place_20 : decode cX6_place 20 = .ok (.iload_n 2, 1) := by decide +kernel
theorem dX6_place_21 : decode cX6_place 21 = .ok (.invokevirtual 214, 3) := by decide +kernel
theorem dX6_place_24 : decode cX6_place 24 = .ok (.iconst 1, 1) := by decide +kernel
theorem dX6_place_25 : decode cX6_place 25 = .ok (.invokevirtual 114, 3) := by decide +kernel
theorem dX6_place_28 : decode cX6_place 28 = .ok (.goto 4, 3) := by decide +kernel
theorem dX6_place_31 : decode cX6_place 31 = .ok (.iconst (-1), 1) := by decide +kernel
theorem dX6_place_32 : decode cX6_place 32 = .ok (.ireturn, 1) := by decide +kernel
theorem dX6_hidden_0 : decode cX6_hidden 0 = .ok (.aload_n 0, 1) := by decide +kernel
theorem dX6_hidden_1 : decode cX6_hidden 1 = .ok (.iconst 0, 1) := by decide +kernel
theorem dX6_hidden_2 : decode cX6_hidden 2 = .ok (.iconst 0, 1) := by decide +kernel
theorem dX6_hidden_3 : decode cX6_hidden 3 = .ok (.iload_n 1, 1) := by decide +kernel
theorem dX6_hidden_4 : decode cX6_hidden 4 = .ok (.invokevirtual 184, 3) := by decide +kernel
theorem dX6_hidden_7 : decode cX6_hidden 7 = .ok (.aload_n 0, 1) := by decide +kernel
theorem dX6_hidden_8 : decode cX6_hidden 8 = .ok (.iconst 0, 1) := by decide +kernel
theorem dX6_hidden_9 : decode cX6_hidden 9 = .ok (.iconst 2, 1) := by decide +kernel
theorem dX6_hidden_10 : decode cX6_hidden 10 = .ok (.iload_n 1, 1) := by decide +kernel
theorem dX6_hidden_11 : decode cX6_hidden 11 = .ok (.invokevirtual 184, 3) := by decide +kernel
theorem dX6_hidden_14 : decode cX6_hidden 14 = .ok (.iadd, 1) := by decide +kernel
theorem dX6_hidden_15 : decode cX6_hidden 15 = .ok (.aload_n 0, 1) := by decide +kernel
theorem dX6_hidden_16 : decode cX6_hidden 16 = .ok (.getfield 33, 3) := by decide +kernel
theorem dX6_hidden_19 : decode cX6_hidden 19 = .ok (.iload_n 1, 1) := by decide +kernel
theorem dX6_hidden_20 : decode cX6_hidden 20 = .ok (.iaload, 1) := by decide +kernel
theorem dX6_hidden_21 : decode cX6_hidden 21 = .ok (.iconst 5, 1) := by decide +kernel
theorem dX6_hidden_22 : decode cX6_hidden 22 = .ok (.if_icmp .ne 13, 3) := by decide +kernel
theorem dX6_hidden_25 : decode cX6_hidden 25 = .ok (.aload_n 0, 1) := by decide +kernel
theorem dX6_hidden_26 : decode cX6_hidden 26 = .ok (.iconst 0, 1) := by decide +kernel
theorem dX6_hidden_27 : decode cX6_hidden 27 = .ok (.iconst 1, 1) := by decide +kernel
theorem dX6_hidden_28 : decode cX6_hidden 28 = .ok (.iload_n 1, 1) := by decide +kernel
theorem dX6_hidden_29 : decode cX6_hidden 29 = .ok (.invokevirtual 184, 3) := by decide +kernel
theorem dX6_hidden_32 : decode cX6_hidden 32 = .ok (.goto 4, 3) := by decide +kernel
theorem dX6_hidden_35 : decode cX6_hidden 35 = .ok (.iconst 0, 1) := by decide +kernel
theorem dX6_hidden_36 : decode cX6_hidden 36 = .ok (.iadd, 1) := by decide +kernel
theorem dX6_hidden_37 : decode cX6_hidden 37 = .ok (.ireturn, 1) := by decide +kernel
theorem dX6_thicketsBy_0 : decode cX6_thicketsBy 0 = .ok (.iconst 0, 1) := by decide +kernel
theorem dX6_thicketsBy_1 : decode cX6_thicketsBy 1 = .ok (.istore_n 2, 1) := by decide +kernel
theorem dX6_thicketsBy_2 : decode cX6_thicketsBy 2 = .ok (.iconst 0, 1) := by decide +kernel
theorem dX6_thicketsBy_3 : decode cX6_thicketsBy 3 = .ok (.istore_n 3, 1) := by decide +kernel
theorem dX6_thicketsBy_4 : decode cX6_thicketsBy 4 = .ok (.iload_n 3, 1) := by decide +kernel
theorem dX6_thicketsBy_5 : decode cX6_thicketsBy 5 = .ok (.aload_n 0, 1) := by decide +kernel
theorem dX6_thicketsBy_6 : decode cX6_thicketsBy 6 = .ok (.getfield 167, 3) := by decide +kernel
theorem dX6_thicketsBy_9 : decode cX6_thicketsBy 9 = .ok (.if_icmp .ge 38, 3) := by decide +kernel
theorem dX6_thicketsBy_12 : decode cX6_thicketsBy 12 = .ok (.iload_n 2, 1) := by decide +kernel
theorem dX6_thicketsBy_13 : decode cX6_thicketsBy 13 = .ok (.aload_n 0, 1) := by decide +kernel
theorem dX6_thicketsBy_14 : decode cX6_thicketsBy 14 = .ok (.getfield 36, 3) := by decide +kernel
theorem dX6_thicketsBy_17 : decode cX6_thicketsBy 17 = .ok (.iload_n 1, 1) := by decide +kernel
theorem dX6_thicketsBy_18 : decode cX6_thicketsBy 18 = .ok (.iaload, 1) := by decide +kernel
theorem dX6_thicketsBy_19 : decode cX6_thicketsBy 19 = .ok (.iload_n 3, 1) := by decide +kernel
theorem dX6_thicketsBy_20 : decode cX6_thicketsBy 20 = .ok (.invokestatic 145, 3) := by decide +kernel
theorem dX6_thicketsBy_23 : decode cX6_thicketsBy 23 = .ok (.ifCond .eq 15, 3) := by decide +kernel
theorem dX6_thicketsBy_26 : decode cX6_thicketsBy 26 = .ok (.aload_n 0, 1) := by decide +kernel
theorem dX6_thicketsBy_27 : decode cX6_thicketsBy 27 = .ok (.iload_n 3, 1) := by decide +kernel
theorem dX6_thicketsBy_28 : decode cX6_thicketsBy 28 = .ok (.invokevirtual 193, 3) := by decide +kernel
theorem dX6_thicketsBy_31 : decode cX6_thicketsBy 31 = .ok (.ifCond .eq 7, 3) := by decide +kernel
theorem dX6_thicketsBy_34 : decode cX6_thicketsBy 34 = .ok (.iconst 1, 1) := by decide +kernel
theorem dX6_thicketsBy_35 : decode cX6_thicketsBy 35 = .ok (.goto 4, 3) := by decide +kernel
theorem dX6_thicketsBy_38 : decode cX6_thicketsBy 38 = .ok (.iconst 0, 1) := by decide +kernel
theorem dX6_thicketsBy_39 : decode cX6_thicketsBy 39 = .ok (.iadd, 1) := by decide +kernel
theorem dX6_thicketsBy_40 : decode cX6_thicketsBy 40 = .ok (.istore_n 2, 1) := by decide +kernel
theorem dX6_thicketsBy_41 : decode cX6_thicketsBy 41 = .ok (.iinc 3 1, 3) := by decide +kernel
theorem dX6_thicketsBy_44 : decode cX6_thicketsBy 44 = .ok (.goto (-40), 3) := by decide +kernel
theorem dX6_thicketsBy_47 : decode cX6_thicketsBy 47 = .ok (.iload_n 2, 1) := by decide +kernel
theorem dX6_thicketsBy_48 : decode cX6_thicketsBy 48 = .ok (.ireturn, 1) := by decide +kernel
theorem dX6_mark_0 : decode cX6_mark 0 = .ok (.aload_n 0, 1) := by decide +kernel
theorem dX6_mark_1 : decode cX6_mark 1 = .ok (.iload_n 1, 1) := by decide +kernel
theorem dX6_mark_2 : decode cX6_mark 2 = .ok (.invokevirtual 211, 3) := by decide +kernel
theorem dX6_mark_5 : decode cX6_mark 5 = .ok (.ifCond .eq 12, 3) := by decide +kernel
theorem dX6_mark_8 : decode cX6_mark 8 = .ok (.iload_n 2, 1) := by decide +kernel
theorem dX6_mark_9 : decode cX6_mark 9 = .ok (.iconst 1, 1) := by decide +kernel
theorem dX6_mark_10 : decode cX6_mark 10 = .ok (.iconst 5, 1) := by decide +kernel
theorem dX6_mark_11 : decode cX6_mark 11 = .ok (.invokestatic 92, 3) := by decide +kernel
theorem dX6_mark_14 : decode cX6_mark 14 = .ok (.ifCond .ne 5, 3) := by decide +kernel
theorem dX6_mark_17 : decode cX6_mark 17 = .ok (.iconst (-1), 1) := by decide +kernel
theorem dX6_mark_18 : decode cX6_mark 18 = .ok (.ireturn, 1) := by decide +kernel
theorem dX6_mark_19 : decode cX6_mark 19 = .ok (.aload_n 0, 1) := by decide +kernel
theorem dX6_mark_20 : decode cX6_mark 20 = .ok (.getfield 33, 3) := by decide +kernel
theorem dX6_mark_23 : decode cX6_mark 23 = .ok (.iload_n 1, 1) := by decide +kernel
theorem dX6_mark_24 : decode cX6_mark 24 = .ok (.iaload, 1) := by decide +kernel
theorem dX6_mark_25 : decode cX6_mark 25 = .ok (.istore_n 3, 1) := by decide +kernel
theorem dX6_mark_26 : decode cX6_mark 26 = .ok (.iload_n 3, 1) := by decide +kernel
theorem dX6_mark_27 : decode cX6_mark 27 = .ok (.iload_n 2, 1) := by decide +kernel
theorem dX6_mark_28 : decode cX6_mark 28 = .ok (.if_icmp .eq 29, 3) := by decide +kernel
theorem dX6_mark_31 : decode cX6_mark 31 = .ok (.iload_n 2, 1) := by decide +kernel
theorem dX6_mark_32 : decode cX6_mark 32 = .ok (.iconst 1, 1) := by decide +kernel
theorem dX6_mark_33 : decode cX6_mark 33 = .ok (.if_icmp .ne 8, 3) := by decide +kernel
theorem dX6_mark_36 : decode cX6_mark 36 = .ok (.iload_n 3, 1) := by decide +kernel
theorem dX6_mark_37 : decode cX6_mark 37 = .ok (.iconst 4, 1) := by decide +kernel
theorem dX6_mark_38 : decode cX6_mark 38 = .ok (.if_icmp .eq 19, 3) := by decide +kernel
theorem dX6_mark_41 : decode cX6_mark 41 = .ok (.iload_n 2, 1) := by decide +kernel
theorem dX6_mark_42 : decode cX6_mark 42 = .ok (.iconst 2, 1) := by decide +kernel
theorem dX6_mark_43 : decode cX6_mark 43 = .ok (.if_icmp .ne 8, 3) := by decide +kernel
theorem dX6_mark_46 : decode cX6_mark 46 = .ok (.iload_n 3, 1) := by decide +kernel
theorem dX6_mark_47 : decode cX6_mark 47 = .ok (.iconst 5, 1) := by decide +kernel
theorem dX6_mark_48 : decode cX6_mark 48 = .ok (.if_icmp .eq 9, 3) := by decide +kernel
theorem dX6_mark_51 : decode cX6_mark 51 = .ok (.aload_n 0, 1) := by decide +kernel
theorem dX6_mark_52 : decode cX6_mark 52 = .ok (.iconst 3, 1) := by decide +kernel
theorem dX6_mark_53 : decode cX6_mark 53 = .ok (.invokevirtual 106, 3) := by decide +kernel
theorem dX6_mark_56 : decode cX6_mark 56 = .ok (.ireturn, 1) := by decide +kernel
theorem dX6_mark_57 : decode cX6_mark 57 = .ok (.iload_n 2, 1) := by decide +kernel
theorem dX6_mark_58 : decode cX6_mark 58 = .ok (.tableswitch 64 1 4 #[30, 41, 47, 56], 30) := by decide +kernel
theorem dX6_mark_88 : decode cX6_mark 88 = .ok (.aload_n 0, 1) := by decide +kernel
theorem dX6_mark_89 : decode cX6_mark 89 = .ok (.iconst 0, 1) := by decide +kernel
theorem dX6_mark_90 : decode cX6_mark 90 = .ok (.aload_n 0, 1) := by decide +kernel
theorem dX6_mark_91 : decode cX6_mark 91 = .ok (.iload_n 1, 1) := by decide +kernel
theorem dX6_mark_92 : decode cX6_mark 92 = .ok (.invokevirtual 196, 3) := by decide +kernel
theorem dX6_mark_95 : decode cX6_mark 95 = .ok (.invokevirtual 199, 3) := by decide +kernel
theorem dX6_mark_98 : decode cX6_mark 98 = .ok (.ireturn, 1) := by decide +kernel
theorem dX6_mark_99 : decode cX6_mark 99 = .ok (.aload_n 0, 1) := by decide +kernel
theorem dX6_mark_100 : decode cX6_mark 100 = .ok (.iload_n 1, 1) := by decide +kernel
theorem dX6_mark_101 : decode cX6_mark 101 = .ok (.invokevirtual 217, 3) := by decide +kernel
theorem dX6_mark_104 : decode cX6_mark 104 = .ok (.ireturn, 1) := by decide +kernel
theorem dX6_mark_105 : decode cX6_mark 105 = .ok (.aload_n 0, 1) := by decide +kernel
theorem dX6_mark_106 : decode cX6_mark 106 = .ok (.iconst 0, 1) := by decide +kernel
theorem dX6_mark_107 : decode cX6_mark 107 = .ok (.bipush 24, 2) := by decide +kernel
theorem dX6_mark_109 : decode cX6_mark 109 = .ok (.iload_n 1, 1) := by decide +kernel
theorem dX6_mark_110 : decode cX6_mark 110 = .ok (.invokevirtual 180, 3) := by decide +kernel
theorem dX6_mark_113 : decode cX6_mark 113 = .ok (.ireturn, 1) := by decide +kernel
theorem dX6_mark_114 : decode cX6_mark 114 = .ok (.aload_n 0, 1) := by decide +kernel
theorem dX6_mark_115 : decode cX6_mark 115 = .ok (.iconst 0, 1) := by decide +kernel
theorem dX6_mark_116 : decode cX6_mark 116 = .ok (.iconst 2, 1) := by decide +kernel
theorem dX6_mark_117 : decode cX6_mark 117 = .ok (.iload_n 1, 1) := by decide +kernel
theorem dX6_mark_118 : decode cX6_mark 118 = .ok (.invokevirtual 184, 3) := by decide +kernel
theorem dX6_mark_121 : decode cX6_mark 121 = .ok (.ireturn, 1) := by decide +kernel
theorem dX6_mark_122 : decode cX6_mark 122 = .ok (.aload_n 0, 1) := by decide +kernel
theorem dX6_mark_123 : decode cX6_mark 123 = .ok (.iload_n 1, 1) := by decide +kernel
theorem dX6_mark_124 : decode cX6_mark 124 = .ok (.invokevirtual 220, 3) := by decide +kernel
theorem dX6_mark_127 : decode cX6_mark 127 = .ok (.ireturn, 1) := by decide +kernel
theorem dX6_path_0 : decode cX6_path 0 = .ok (.aload_n 0, 1) := by decide +kernel
theorem dX6_path_1 : decode cX6_path 1 = .ok (.iload_n 1, 1) := by decide +kernel
theorem dX6_path_2 : decode cX6_path 2 = .ok (.invokevirtual 211, 3) := by decide +kernel
theorem dX6_path_5 : decode cX6_path 5 = .ok (.ifCond .eq 25, 3) := by decide +kernel
theorem dX6_path_8 : decode cX6_path 8 = .ok (.aload_n 0, 1) := by decide +kernel
theorem dX6_path_9 : decode cX6_path 9 = .ok (.iload_n 2, 1) := by decide +kernel
theorem dX6_path_10 : decode cX6_path 10 = .ok (.invokevirtual 211, 3) := by decide +kernel
theorem dX6_path_13 : decode cX6_path 13 = .ok (.ifCond .eq 17, 3) := by decide +kernel
theorem dX6_path_16 : decode cX6_path 16 = .ok (.iload_n 1, 1) := by decide +kernel
theorem dX6_path_17 : decode cX6_path 17 = .ok (.iload_n 2, 1) := by decide +kernel
theorem dX6_path_18 : decode cX6_path 18 = .ok (.if_icmp .eq 12, 3) := by decide +kernel
theorem dX6_path_21 : decode cX6_path 21 = .ok (.iload_n 3, 1) := by decide +kernel
theorem dX6_path_22 : decode cX6_path 22 = .ok (.iconst 0, 1) := by decide +kernel
theorem dX6_path_23 : decode cX6_path 23 = .ok (.iconst 1, 1) := by decide +kernel
theorem dX6_path_24 : decode cX6_path 24 = .ok (.invokestatic 92, 3) := by decide +kernel
theorem dX6_path_27 : decode cX6_path 27 = .ok (.ifCond .ne 5, 3) := by decide +kernel
theorem dX6_path_30 : decode cX6_path 30 = .ok (.iconst (-1), 1) := by decide +kernel
theorem dX6_path_31 : decode cX6_path 31 = .ok (.ireturn, 1) := by decide +kernel
theorem dX6_path_32 : decode cX6_path 32 = .ok (.aload_n 0, 1) := by decide +kernel
theorem dX6_path_33 : decode cX6_path 33 = .ok (.getfield 36, 3) := by decide +kernel
theorem dX6_path_36 : decode cX6_path 36 = .ok (.iload_n 1, 1) := by decide +kernel
theorem dX6_path_37 : decode cX6_path 37 = .ok (.iaload, 1) := by decide +kernel
theorem dX6_path_38 : decode cX6_path 38 = .ok (.iload_n 2, 1) := by decide +kernel
theorem dX6_path_39 : decode cX6_path 39 = .ok (.invokestatic 145, 3) := by decide +kernel
theorem dX6_path_42 : decode cX6_path 42 = .ok (.ifCond .eq 7, 3) := by decide +kernel
theorem dX6_path_45 : decode cX6_path 45 = .ok (.iconst 1, 1) := by decide +kernel
theorem dX6_path_46 : decode cX6_path 46 = .ok (.goto 4, 3) := by decide +kernel
theorem dX6_path_49 : decode cX6_path 49 = .ok (.iconst 0, 1) := by decide +kernel
theorem dX6_path_50 : decode cX6_path 50 = .ok (.istore 4, 2) := by decide +kernel
theorem dX6_path_52 : decode cX6_path 52 = .ok (.iload 4, 2) := by decide +kernel
theorem dX6_path_54 : decode cX6_path 54 = .ok (.iload_n 3, 1) := by decide +kernel
theorem dX6_path_55 : decode cX6_path 55 = .ok (.if_icmp .eq 27, 3) := by decide +kernel
theorem dX6_path_58 : decode cX6_path 58 = .ok (.aload_n 0, 1) := by decide +kernel
theorem dX6_path_59 : decode cX6_path 59 = .ok (.getfield 36, 3) := by decide +kernel
theorem dX6_path_62 : decode cX6_path 62 = .ok (.iload_n 1, 1) := by decide +kernel
theorem dX6_path_63 : decode cX6_path 63 = .ok (.dup2, 1) := by decide +kernel
theorem dX6_path_64 : decode cX6_path 64 = .ok (.iaload, 1) := by decide +kernel
theorem dX6_path_65 : decode cX6_path 65 = .ok (.iconst 1, 1) := by decide +kernel
theorem dX6_path_66 : decode cX6_path 66 = .ok (.iload_n 2, 1) := by decide +kernel
theorem dX6_path_67 : decode cX6_path 67 = .ok (.ishl, 1) := by decide +kernel
theorem dX6_path_68 : decode cX6_path 68 = .ok (.ixor, 1) := by decide +kernel
theorem dX6_path_69 : decode cX6_path 69 = .ok (.iastore, 1) := by decide +kernel
theorem dX6_path_70 : decode cX6_path 70 = .ok (.aload_n 0, 1) := by decide +kernel
theorem dX6_path_71 : decode cX6_path 71 = .ok (.getfield 36, 3) := by decide +kernel
theorem dX6_path_74 : decode cX6_path 74 = .ok (.iload_n 2, 1) := by decide +kernel
theorem dX6_path_75 : decode cX6_path 75 = .ok (.dup2, 1) := by decide +kernel
theorem dX6_path_76 : decode cX6_path 76 = .ok (.iaload, 1) := by decide +kernel
theorem dX6_path_77 : decode cX6_path 77 = .ok (.iconst 1, 1) := by decide +kernel
theorem dX6_path_78 : decode cX6_path 78 = .ok (.iload_n 1, 1) := by decide +kernel
theorem dX6_path_79 : decode cX6_path 79 = .ok (.ishl, 1) := by decide +kernel
theorem dX6_path_80 : decode cX6_path 80 = .ok (.ixor, 1) := by decide +kernel
theorem dX6_path_81 : decode cX6_path 81 = .ok (.iastore, 1) := by decide +kernel
theorem dX6_path_82 : decode cX6_path 82 = .ok (.iload 4, 2) := by decide +kernel
theorem dX6_path_84 : decode cX6_path 84 = .ok (.ireturn, 1) := by decide +kernel
theorem dX6_bird_0 : decode cX6_bird 0 = .ok (.iload_n 1, 1) := by decide +kernel
theorem dX6_bird_1 : decode cX6_bird 1 = .ok (.iconst 0, 1) := by decide +kernel
theorem dX6_bird_2 : decode cX6_bird 2 = .ok (.aload_n 0, 1) := by decide +kernel
theorem dX6_bird_3 : decode cX6_bird 3 = .ok (.getfield 170, 3) := by decide +kernel
theorem dX6_bird_6 : decode cX6_bird 6 = .ok (.iconst 1, 1) := by decide +kernel
theorem dX6_bird_7 : decode cX6_bird 7 = .ok (.isub, 1) := by decide +kernel
theorem dX6_bird_8 : decode cX6_bird 8 = .ok (.invokestatic 92, 3) := by decide +kernel
theorem dX6_bird_11 : decode cX6_bird 11 = .ok (.ifCond .ne 5, 3) := by decide +kernel
theorem dX6_bird_14 : decode cX6_bird 14 = .ok (.iconst (-1), 1) := by decide +kernel
theorem dX6_bird_15 : decode cX6_bird 15 = .ok (.ireturn, 1) := by decide +kernel
theorem dX6_bird_16 : decode cX6_bird 16 = .ok (.aload_n 0, 1) := by decide +kernel
theorem dX6_bird_17 : decode cX6_bird 17 = .ok (.aload_n 0, 1) := by decide +kernel
theorem dX6_bird_18 : decode cX6_bird 18 = .ok (.aload_n 0, 1) := by decide +kernel
theorem dX6_bird_19 : decode cX6_bird 19 = .ok (.iconst 0, 1) := by decide +kernel
theorem dX6_bird_20 : decode cX6_bird 20 = .ok (.bipush 32, 2) := by decide +kernel
theorem dX6_bird_22 : decode cX6_bird 22 = .ok (.iload_n 1, 1) := by decide +kernel
theorem dX6_bird_23 : decode cX6_bird 23 = .ok (.invokevirtual 180, 3) := by decide +kernel
theorem dX6_bird_26 : decode cX6_bird 26 = .ok (.invokevirtual 202, 3) := by decide +kernel
theorem dX6_bird_29 : decode cX6_bird 29 = .ok (.aload_n 0, 1) := by decide +kernel
theorem dX6_bird_30 : decode cX6_bird 30 = .ok (.iconst 0, 1) := by decide +kernel
theorem dX6_bird_31 : decode cX6_bird 31 = .ok (.bipush 32, 2) := by decide +kernel
theorem dX6_bird_33 : decode cX6_bird 33 = .ok (.iload_n 1, 1) := by decide +kernel
theorem dX6_bird_34 : decode cX6_bird 34 = .ok (.invokevirtual 180, 3) := by decide +kernel
theorem dX6_bird_37 : decode cX6_bird 37 = .ok (.invokevirtual 114, 3) := by decide +kernel
theorem dX6_bird_40 : decode cX6_bird 40 = .ok (.ireturn, 1) := by decide +kernel
theorem dX6_pocket_0 : decode cX6_pocket 0 = .ok (.iload_n 1, 1) := by decide +kernel
theorem dX6_pocket_1 : decode cX6_pocket 1 = .ok (.iconst 0, 1) := by decide +kernel
theorem dX6_pocket_2 : decode cX6_pocket 2 = .ok (.iconst 2, 1) := by decide +kernel
theorem dX6_pocket_3 : decode cX6_pocket 3 = .ok (.invokestatic 92, 3) := by decide +kernel
theorem dX6_pocket_6 : decode cX6_pocket 6 = .ok (.ifCond .eq 14, 3) := by decide +kernel
theorem dX6_pocket_9 : decode cX6_pocket 9 = .ok (.aload_n 0, 1) := by decide +kernel
theorem dX6_pocket_10 : decode cX6_pocket 10 = .ok (.iconst 0, 1) := by decide +kernel
theorem dX6_pocket_11 : decode cX6_pocket 11 = .ok (.bipush 36, 2) := by decide +kernel
theorem dX6_pocket_13 : decode cX6_pocket 13 = .ok (.iload_n 1, 1) := by decide +kernel
theorem dX6_pocket_14 : decode cX6_pocket 14 = .ok (.invokevirtual 180, 3) := by decide +kernel
theorem dX6_pocket_17 : decode cX6_pocket 17 = .ok (.goto 4, 3) := by decide +kernel
theorem dX6_pocket_20 : decode cX6_pocket 20 = .ok (.iconst (-1), 1) := by decide +kernel
theorem dX6_pocket_21 : decode cX6_pocket 21 = .ok (.ireturn, 1) := by decide +kernel
theorem dX6_hereNow_0 : decode cX6_hereNow 0 = .ok (.aload_n 0, 1) := by decide +kernel
theorem dX6_hereNow_1 : decode cX6_hereNow 1 = .ok (.getfield 54, 3) := by decide +kernel
theorem dX6_hereNow_4 : decode cX6_hereNow 4 = .ok (.aload_n 0, 1) := by decide +kernel
theorem dX6_hereNow_5 : decode cX6_hereNow 5 = .ok (.getfield 177, 3) := by decide +kernel
theorem dX6_hereNow_8 : decode cX6_hereNow 8 = .ok (.iaload, 1) := by decide +kernel
theorem dX6_hereNow_9 : decode cX6_hereNow 9 = .ok (.ireturn, 1) := by decide +kernel
theorem dX6_lead_0 : decode cX6_lead 0 = .ok (.aload_n 0, 1) := by decide +kernel
theorem dX6_lead_1 : decode cX6_lead 1 = .ok (.iload_n 1, 1) := by decide +kernel
theorem dX6_lead_2 : decode cX6_lead 2 = .ok (.invokevirtual 211, 3) := by decide +kernel
theorem dX6_lead_5 : decode cX6_lead 5 = .ok (.ifCond .ne 5, 3) := by decide +kernel
theorem dX6_lead_8 : decode cX6_lead 8 = .ok (.iconst (-1), 1) := by decide +kernel
theorem dX6_lead_9 : decode cX6_lead 9 = .ok (.ireturn, 1) := by decide +kernel
theorem dX6_lead_10 : decode cX6_lead 10 = .ok (.aload_n 0, 1) := by decide +kernel
theorem dX6_lead_11 : decode cX6_lead 11 = .ok (.getfield 36, 3) := by decide +kernel
theorem dX6_lead_14 : decode cX6_lead 14 = .ok (.aload_n 0, 1) := by decide +kernel
theorem dX6_lead_15 : decode cX6_lead 15 = .ok (.invokevirtual 223, 3) := by decide +kernel
theorem dX6_lead_18 : decode cX6_lead 18 = .ok (.iaload, 1) := by decide +kernel
theorem dX6_lead_19 : decode cX6_lead 19 = .ok (.iload_n 1, 1) := by decide +kernel
theorem dX6_lead_20 : decode cX6_lead 20 = .ok (.invokestatic 145, 3) := by decide +kernel
theorem dX6_lead_23 : decode cX6_lead 23 = .ok (.ifCond .ne 6, 3) := by decide +kernel
theorem dX6_lead_26 : decode cX6_lead 26 = .ok (.bipush (-4), 2) := by decide +kernel
theorem dX6_lead_28 : decode cX6_lead 28 = .ok (.ireturn, 1) := by decide +kernel
theorem dX6_lead_29 : decode cX6_lead 29 = .ok (.aload_n 0, 1) := by decide +kernel
theorem dX6_lead_30 : decode cX6_lead 30 = .ok (.getfield 177, 3) := by decide +kernel
theorem dX6_lead_33 : decode cX6_lead 33 = .ok (.bipush 30, 2) := by decide +kernel
theorem dX6_lead_35 : decode cX6_lead 35 = .ok (.if_icmp .ne 6, 3) := by decide +kernel
theorem dX6_lead_38 : decode cX6_lead 38 = .ok (.bipush (-2), 2) := by decide +kernel
theorem dX6_lead_40 : decode cX6_lead 40 = .ok (.ireturn, 1) := by decide +kernel
theorem dX6_lead_41 : decode cX6_lead 41 = .ok (.aload_n 0, 1) := by decide +kernel
theorem dX6_lead_42 : decode cX6_lead 42 = .ok (.dup, 1) := by decide +kernel
theorem dX6_lead_43 : decode cX6_lead 43 = .ok (.getfield 177, 3) := by decide +kernel
theorem dX6_lead_46 : decode cX6_lead 46 = .ok (.iconst 1, 1) := by decide +kernel
theorem dX6_lead_47 : decode cX6_lead 47 = .ok (.iadd, 1) := by decide +kernel
theorem dX6_lead_48 : decode cX6_lead 48 = .ok (.putfield 177, 3) := by decide +kernel
theorem dX6_lead_51 : decode cX6_lead 51 = .ok (.aload_n 0, 1) := by decide +kernel
theorem dX6_lead_52 : decode cX6_lead 52 = .ok (.getfield 54, 3) := by decide +kernel
theorem dX6_lead_55 : decode cX6_lead 55 = .ok (.aload_n 0, 1) := by decide +kernel
theorem dX6_lead_56 : decode cX6_lead 56 = .ok (.getfield 177, 3) := by decide +kernel
theorem dX6_lead_59 : decode cX6_lead 59 = .ok (.iload_n 1, 1) := by decide +kernel
theorem dX6_lead_60 : decode cX6_lead 60 = .ok (.iastore, 1) := by decide +kernel
theorem dX6_lead_61 : decode cX6_lead 61 = .ok (.aload_n 0, 1) := by decide +kernel
theorem dX6_lead_62 : decode cX6_lead 62 = .ok (.getfield 177, 3) := by decide +kernel
theorem dX6_lead_65 : decode cX6_lead 65 = .ok (.ireturn, 1) := by decide +kernel
theorem dX6_drop_0 : decode cX6_drop 0 = .ok (.iload_n 1, 1) := by decide +kernel
theorem dX6_drop_1 : decode cX6_drop 1 = .ok (.iconst 0, 1) := by decide +kernel
theorem dX6_drop_2 : decode cX6_drop 2 = .ok (.iconst 2, 1) := by decide +kernel
theorem dX6_drop_3 : decode cX6_drop 3 = .ok (.invokestatic 92, 3) := by decide +kernel
theorem dX6_drop_6 : decode cX6_drop 6 = .ok (.ifCond .ne 5, 3) := by decide +kernel
theorem dX6_drop_9 : decode cX6_drop 9 = .ok (.iconst (-1), 1) := by decide +kernel
theorem dX6_drop_10 : decode cX6_drop 10 = .ok (.ireturn, 1) := by decide +kernel
theorem dX6_drop_11 : decode cX6_drop 11 = .ok (.aload_n 0, 1) := by decide +kernel
theorem dX6_drop_12 : decode cX6_drop 12 = .ok (.iconst 0, 1) := by decide +kernel
theorem dX6_drop_13 : decode cX6_drop 13 = .ok (.bipush 36, 2) := by decide +kernel
theorem dX6_drop_15 : decode cX6_drop 15 = .ok (.iload_n 1, 1) := by decide +kernel
theorem dX6_drop_16 : decode cX6_drop 16 = .ok (.invokevirtual 180, 3) := by decide +kernel
theorem dX6_drop_19 : decode cX6_drop 19 = .ok (.istore_n 2, 1) := by decide +kernel
theorem dX6_drop_20 : decode cX6_drop 20 = .ok (.iload_n 2, 1) := by decide +kernel
theorem dX6_drop_21 : decode cX6_drop 21 = .ok (.ifCond .ne 6, 3) := by decide +kernel
theorem dX6_drop_24 : decode cX6_drop 24 = .ok (.bipush (-4), 2) := by decide +kernel
theorem dX6_drop_26 : decode cX6_drop 26 = .ok (.ireturn, 1) := by decide +kernel
theorem dX6_drop_27 : decode cX6_drop 27 = .ok (.aload_n 0, 1) := by decide +kernel
theorem dX6_drop_28 : decode cX6_drop 28 = .ok (.iconst 0, 1) := by decide +kernel
theorem dX6_drop_29 : decode cX6_drop 29 = .ok (.bipush 36, 2) := by decide +kernel
theorem dX6_drop_31 : decode cX6_drop 31 = .ok (.iload_n 1, 1) := by decide +kernel
theorem dX6_drop_32 : decode cX6_drop 32 = .ok (.iload_n 2, 1) := by decide +kernel
theorem dX6_drop_33 : decode cX6_drop 33 = .ok (.iconst 1, 1) := by decide +kernel
theorem dX6_drop_34 : decode cX6_drop 34 = .ok (.isub, 1) := by decide +kernel
theorem dX6_drop_35 : decode cX6_drop 35 = .ok (.invokevirtual 173, 3) := by decide +kernel
theorem dX6_drop_38 : decode cX6_drop 38 = .ok (.aload_n 0, 1) := by decide +kernel
theorem dX6_drop_39 : decode cX6_drop 39 = .ok (.iconst 0, 1) := by decide +kernel
theorem dX6_drop_40 : decode cX6_drop 40 = .ok (.iload_n 1, 1) := by decide +kernel
theorem dX6_drop_41 : decode cX6_drop 41 = .ok (.aload_n 0, 1) := by decide +kernel
theorem dX6_drop_42 : decode cX6_drop 42 = .ok (.invokevirtual 223, 3) := by decide +kernel
theorem dX6_drop_45 : decode cX6_drop 45 = .ok (.invokevirtual 227, 3) := by decide +kernel
theorem dX6_drop_48 : decode cX6_drop 48 = .ok (.iload_n 2, 1) := by decide +kernel
theorem dX6_drop_49 : decode cX6_drop 49 = .ok (.iconst 1, 1) := by decide +kernel
theorem dX6_drop_50 : decode cX6_drop 50 = .ok (.isub, 1) := by decide +kernel
theorem dX6_drop_51 : decode cX6_drop 51 = .ok (.ireturn, 1) := by decide +kernel
theorem dX6_fool_0 : decode cX6_fool 0 = .ok (.aload_n 0, 1) := by decide +kernel
theorem dX6_fool_1 : decode cX6_fool 1 = .ok (.iload_n 1, 1) := by decide +kernel
theorem dX6_fool_2 : decode cX6_fool 2 = .ok (.invokevirtual 211, 3) := by decide +kernel
theorem dX6_fool_5 : decode cX6_fool 5 = .ok (.ifCond .eq 12, 3) := by decide +kernel
theorem dX6_fool_8 : decode cX6_fool 8 = .ok (.iload_n 2, 1) := by decide +kernel
theorem dX6_fool_9 : decode cX6_fool 9 = .ok (.iconst 0, 1) := by decide +kernel
theorem dX6_fool_10 : decode cX6_fool 10 = .ok (.iconst 2, 1) := by decide +kernel
theorem dX6_fool_11 : decode cX6_fool 11 = .ok (.invokestatic 92, 3) := by decide +kernel
theorem dX6_fool_14 : decode cX6_fool 14 = .ok (.ifCond .ne 5, 3) := by decide +kernel
theorem dX6_fool_17 : decode cX6_fool 17 = .ok (.iconst (-1), 1) := by decide +kernel
theorem dX6_fool_18 : decode cX6_fool 18 = .ok (.ireturn, 1) := by decide +kernel
theorem dX6_fool_19 : decode cX6_fool 19 = .ok (.aload_n 0, 1) := by decide +kernel
theorem dX6_fool_20 : decode cX6_fool 20 = .ok (.iconst 0, 1) := by decide +kernel
theorem dX6_fool_21 : decode cX6_fool 21 = .ok (.iload_n 2, 1) := by decide +kernel
theorem dX6_fool_22 : decode cX6_fool 22 = .ok (.iload_n 1, 1) := by decide +kernel
theorem dX6_fool_23 : decode cX6_fool 23 = .ok (.invokevirtual 184, 3) := by decide +kernel
theorem dX6_fool_26 : decode cX6_fool 26 = .ok (.bipush 20, 2) := by decide +kernel
theorem dX6_fool_28 : decode cX6_fool 28 = .ok (.if_icmp .lt 6, 3) := by decide +kernel
theorem dX6_fool_31 : decode cX6_fool 31 = .ok (.bipush (-2), 2) := by decide +kernel
theorem dX6_fool_33 : decode cX6_fool 33 = .ok (.ireturn, 1) := by decide +kernel
theorem dX6_fool_34 : decode cX6_fool 34 = .ok (.aload_n 0, 1) := by decide +kernel
theorem dX6_fool_35 : decode cX6_fool 35 = .ok (.iconst 0, 1) := by decide +kernel
theorem dX6_fool_36 : decode cX6_fool 36 = .ok (.iload_n 2, 1) := by decide +kernel
theorem dX6_fool_37 : decode cX6_fool 37 = .ok (.iload_n 1, 1) := by decide +kernel
theorem dX6_fool_38 : decode cX6_fool 38 = .ok (.invokevirtual 227, 3) := by decide +kernel
theorem dX6_fool_41 : decode cX6_fool 41 = .ok (.aload_n 0, 1) := by decide +kernel
theorem dX6_fool_42 : decode cX6_fool 42 = .ok (.iconst 0, 1) := by decide +kernel
theorem dX6_fool_43 : decode cX6_fool 43 = .ok (.iload_n 2, 1) := by decide +kernel
theorem dX6_fool_44 : decode cX6_fool 44 = .ok (.iload_n 1, 1) := by decide +kernel
theorem dX6_fool_45 : decode cX6_fool 45 = .ok (.invokevirtual 184, 3) := by decide +kernel
theorem dX6_fool_48 : decode cX6_fool 48 = .ok (.ireturn, 1) := by decide +kernel
theorem dX6_take_0 : decode cX6_take 0 = .ok (.aload_n 0, 1) := by decide +kernel
theorem dX6_take_1 : decode cX6_take 1 = .ok (.iload_n 1, 1) := by decide +kernel
theorem dX6_take_2 : decode cX6_take 2 = .ok (.invokevirtual 211, 3) := by decide +kernel
theorem dX6_take_5 : decode cX6_take 5 = .ok (.ifCond .eq 12, 3) := by decide +kernel
theorem dX6_take_8 : decode cX6_take 8 = .ok (.iload_n 2, 1) := by decide +kernel
theorem dX6_take_9 : decode cX6_take 9 = .ok (.iconst 0, 1) := by decide +kernel
theorem dX6_take_10 : decode cX6_take 10 = .ok (.iconst 2, 1) := by decide +kernel
theorem dX6_take_11 : decode cX6_take 11 = .ok (.invokestatic 92, 3) := by decide +kernel
theorem dX6_take_14 : decode cX6_take 14 = .ok (.ifCond .ne 5, 3) := by decide +kernel
theorem dX6_take_17 : decode cX6_take 17 = .ok (.iconst (-1), 1) := by decide +kernel
theorem dX6_take_18 : decode cX6_take 18 = .ok (.ireturn, 1) := by decide +kernel
theorem dX6_take_19 : decode cX6_take 19 = .ok (.aload_n 0, 1) := by decide +kernel
theorem dX6_take_20 : decode cX6_take 20 = .ok (.iconst 0, 1) := by decide +kernel
theorem dX6_take_21 : decode cX6_take 21 = .ok (.iload_n 2, 1) := by decide +kernel
theorem dX6_take_22 : decode cX6_take 22 = .ok (.iload_n 1, 1) := by decide +kernel
theorem dX6_take_23 : decode cX6_take 23 = .ok (.invokevirtual 184, 3) := by decide +kernel
theorem dX6_take_26 : decode cX6_take 26 = .ok (.istore_n 3, 1) := by decide +kernel
theorem dX6_take_27 : decode cX6_take 27 = .ok (.aload_n 0, 1) := by decide +kernel
theorem dX6_take_28 : decode cX6_take 28 = .ok (.iconst 0, 1) := by decide +kernel
theorem dX6_take_29 : decode cX6_take 29 = .ok (.iload_n 2, 1) := by decide +kernel
theorem dX6_take_30 : decode cX6_take 30 = .ok (.iload_n 1, 1) := by decide +kernel
theorem dX6_take_31 : decode cX6_take 31 = .ok (.iconst 0, 1) := by decide +kernel
theorem dX6_take_32 : decode cX6_take 32 = .ok (.invokevirtual 187, 3) := by decide +kernel
theorem dX6_take_35 : decode cX6_take 35 = .ok (.iload_n 3, 1) := by decide +kernel
theorem dX6_take_36 : decode cX6_take 36 = .ok (.ireturn, 1) := by decide +kernel
theorem dX6_hours_0 : decode cX6_hours 0 = .ok (.iload_n 1, 1) := by decide +kernel
theorem dX6_hours_1 : decode cX6_hours 1 = .ok (.iconst 0, 1) := by decide +kernel
theorem dX6_hours_2 : decode cX6_hours 2 = .ok (.bipush 40, 2) := by decide +kernel
theorem dX6_hours_4 : decode cX6_hours 4 = .ok (.invokestatic 92, 3) := by decide +kernel
theorem dX6_hours_7 : decode cX6_hours 7 = .ok (.ifCond .ne 5, 3) := by decide +kernel
theorem dX6_hours_10 : decode cX6_hours 10 = .ok (.iconst (-1), 1) := by decide +kernel
theorem dX6_hours_11 : decode cX6_hours 11 = .ok (.ireturn, 1) := by decide +kernel
theorem dX6_hours_12 : decode cX6_hours 12 = .ok (.aload_n 0, 1) := by decide +kernel
theorem dX6_hours_13 : decode cX6_hours 13 = .ok (.getfield 167, 3) := by decide +kernel
theorem dX6_hours_16 : decode cX6_hours 16 = .ok (.ifCond .ne 8, 3) := by decide +kernel
theorem dX6_hours_19 : decode cX6_hours 19 = .ok (.bipush (-4), 2) := by decide +kernel
theorem dX6_hours_21 : decode cX6_hours 21 = .ok (.goto 9, 3) := by decide +kernel
theorem dX6_hours_24 : decode cX6_hours 24 = .ok (.aload_n 0, 1) := by decide +kernel
theorem dX6_hours_25 : decode cX6_hours 25 = .ok (.iconst 0, 1) := by decide +kernel
theorem dX6_hours_26 : decode cX6_hours 26 = .ok (.iload_n 1, 1) := by decide +kernel
theorem dX6_hours_27 : decode cX6_hours 27 = .ok (.invokevirtual 231, 3) := by decide +kernel
theorem dX6_hours_30 : decode cX6_hours 30 = .ok (.ireturn, 1) := by decide +kernel
theorem dX6_here_0 : decode cX6_here 0 = .ok (.aload_n 0, 1) := by decide +kernel
theorem dX6_here_1 : decode cX6_here 1 = .ok (.getfield 167, 3) := by decide +kernel
theorem dX6_here_4 : decode cX6_here 4 = .ok (.ifCond .ne 8, 3) := by decide +kernel
theorem dX6_here_7 : decode cX6_here 7 = .ok (.bipush (-4), 2) := by decide +kernel
theorem dX6_here_9 : decode cX6_here 9 = .ok (.goto 15, 3) := by decide +kernel
theorem dX6_here_12 : decode cX6_here 12 = .ok (.aload_n 0, 1) := by decide +kernel
theorem dX6_here_13 : decode cX6_here 13 = .ok (.aload_n 0, 1) := by decide +kernel
theorem dX6_here_14 : decode cX6_here 14 = .ok (.getfield 177, 3) := by decide +kernel
theorem dX6_here_17 : decode cX6_here 17 = .ok (.aload_n 0, 1) := by decide +kernel
theorem dX6_here_18 : decode cX6_here 18 = .ok (.invokevirtual 223, 3) := by decide +kernel
theorem dX6_here_21 : decode cX6_here 21 = .ok (.invokevirtual 114, 3) := by decide +kernel
theorem dX6_here_24 : decode cX6_here 24 = .ok (.ireturn, 1) := by decide +kernel
theorem dX6_led_0 : decode cX6_led 0 = .ok (.iload_n 1, 1) := by decide +kernel
theorem dX6_led_1 : decode cX6_led 1 = .ok (.invokestatic 102, 3) := by decide +kernel
theorem dX6_led_4 : decode cX6_led 4 = .ok (.ifCond .ne 5, 3) := by decide +kernel
theorem dX6_led_7 : decode cX6_led 7 = .ok (.iconst (-1), 1) := by decide +kernel
theorem dX6_led_8 : decode cX6_led 8 = .ok (.ireturn, 1) := by decide +kernel
theorem dX6_led_9 : decode cX6_led 9 = .ok (.aload_n 0, 1) := by decide +kernel
theorem dX6_led_10 : decode cX6_led 10 = .ok (.getfield 167, 3) := by decide +kernel
theorem dX6_led_13 : decode cX6_led 13 = .ok (.ifCond .ne 6, 3) := by decide +kernel
theorem dX6_led_16 : decode cX6_led 16 = .ok (.bipush (-4), 2) := by decide +kernel
theorem dX6_led_18 : decode cX6_led 18 = .ok (.ireturn, 1) := by decide +kernel
theorem dX6_led_19 : decode cX6_led 19 = .ok (.aload_n 0, 1) := by decide +kernel
theorem dX6_led_20 : decode cX6_led 20 = .ok (.iload_n 1, 1) := by decide +kernel
theorem dX6_led_21 : decode cX6_led 21 = .ok (.aload_n 0, 1) := by decide +kernel
theorem dX6_led_22 : decode cX6_led 22 = .ok (.getfield 54, 3) := by decide +kernel
theorem dX6_led_25 : decode cX6_led 25 = .ok (.aload_n 0, 1) := by decide +kernel
theorem dX6_led_26 : decode cX6_led 26 = .ok (.getfield 177, 3) := by decide +kernel
theorem dX6_led_29 : decode cX6_led 29 = .ok (.iconst 1, 1) := by decide +kernel
theorem dX6_led_30 : decode cX6_led 30 = .ok (.iadd, 1) := by decide +kernel
theorem dX6_led_31 : decode cX6_led 31 = .ok (.invokevirtual 234, 3) := by decide +kernel
theorem dX6_led_34 : decode cX6_led 34 = .ok (.aload_n 0, 1) := by decide +kernel
theorem dX6_led_35 : decode cX6_led 35 = .ok (.getfield 177, 3) := by decide +kernel
theorem dX6_led_38 : decode cX6_led 38 = .ok (.iconst 1, 1) := by decide +kernel
theorem dX6_led_39 : decode cX6_led 39 = .ok (.iadd, 1) := by decide +kernel
theorem dX6_led_40 : decode cX6_led 40 = .ok (.ireturn, 1) := by decide +kernel
theorem dX6_keep_0 : decode cX6_keep 0 = .ok (.iload_n 1, 1) := by decide +kernel
theorem dX6_keep_1 : decode cX6_keep 1 = .ok (.iconst 0, 1) := by decide +kernel
theorem dX6_keep_2 : decode cX6_keep 2 = .ok (.iconst 2, 1) := by decide +kernel
theorem dX6_keep_3 : decode cX6_keep 3 = .ok (.invokestatic 92, 3) := by decide +kernel
theorem dX6_keep_6 : decode cX6_keep 6 = .ok (.ifCond .ne 5, 3) := by decide +kernel
theorem dX6_keep_9 : decode cX6_keep 9 = .ok (.iconst (-1), 1) := by decide +kernel
theorem dX6_keep_10 : decode cX6_keep 10 = .ok (.ireturn, 1) := by decide +kernel
theorem dX6_keep_11 : decode cX6_keep 11 = .ok (.aload_n 0, 1) := by decide +kernel
theorem dX6_keep_12 : decode cX6_keep 12 = .ok (.getfield 167, 3) := by decide +kernel
theorem dX6_keep_15 : decode cX6_keep 15 = .ok (.ifCond .ne 6, 3) := by decide +kernel
theorem dX6_keep_18 : decode cX6_keep 18 = .ok (.bipush (-4), 2) := by decide +kernel
theorem dX6_keep_20 : decode cX6_keep 20 = .ok (.ireturn, 1) := by decide +kernel
theorem dX6_keep_21 : decode cX6_keep 21 = .ok (.aload_n 0, 1) := by decide +kernel
theorem dX6_keep_22 : decode cX6_keep 22 = .ok (.getfield 57, 3) := by decide +kernel
theorem dX6_keep_25 : decode cX6_keep 25 = .ok (.iload_n 1, 1) := by decide +kernel
theorem dX6_keep_26 : decode cX6_keep 26 = .ok (.iconst 1, 1) := by decide +kernel
theorem dX6_keep_27 : decode cX6_keep 27 = .ok (.bastore, 1) := by decide +kernel
theorem dX6_keep_28 : decode cX6_keep 28 = .ok (.aload_n 0, 1) := by decide +kernel
theorem dX6_keep_29 : decode cX6_keep 29 = .ok (.getfield 61, 3) := by decide +kernel
theorem dX6_keep_32 : decode cX6_keep 32 = .ok (.iload_n 1, 1) := by decide +kernel
theorem dX6_keep_33 : decode cX6_keep 33 = .ok (.aload_n 0, 1) := by decide +kernel
theorem dX6_keep_34 : decode cX6_keep 34 = .ok (.getfield 177, 3) := by decide +kernel
theorem dX6_keep_37 : decode cX6_keep 37 = .ok (.iastore, 1) := by decide +kernel
theorem dX6_keep_38 : decode cX6_keep 38 = .ok (.iconst 0, 1) := by decide +kernel
theorem dX6_keep_39 : decode cX6_keep 39 = .ok (.istore_n 2, 1) := by decide +kernel
theorem dX6_keep_40 : decode cX6_keep 40 = .ok (.iload_n 2, 1) := by decide +kernel
theorem dX6_keep_41 : decode cX6_keep 41 = .ok (.bipush 39, 2) := by decide +kernel
theorem dX6_keep_43 : decode cX6_keep 43 = .ok (.if_icmp .ge 27, 3) := by decide +kernel
theorem dX6_keep_46 : decode cX6_keep 46 = .ok (.aload_n 0, 1) := by decide +kernel
theorem dX6_keep_47 : decode cX6_keep 47 = .ok (.getfield 64, 3) := by decide +kernel
theorem dX6_keep_50 : decode cX6_keep 50 = .ok (.bipush 39, 2) := by decide +kernel
theorem dX6_keep_52 : decode cX6_keep 52 = .ok (.iload_n 1, 1) := by decide +kernel
theorem dX6_keep_53 : decode cX6_keep 53 = .ok (.imul, 1) := by decide +kernel
theorem dX6_keep_54 : decode cX6_keep 54 = .ok (.iload_n 2, 1) := by decide +kernel
theorem dX6_keep_55 : decode cX6_keep 55 = .ok (.iadd, 1) := by decide +kernel
theorem dX6_keep_56 : decode cX6_keep 56 = .ok (.aload_n 0, 1) := by decide +kernel
theorem dX6_keep_57 : decode cX6_keep 57 = .ok (.iconst 0, 1) := by decide +kernel
theorem dX6_keep_58 : decode cX6_keep 58 = .ok (.iload_n 2, 1) := by decide +kernel
theorem dX6_keep_59 : decode cX6_keep 59 = .ok (.iconst 0, 1) := by decide +kernel
theorem dX6_keep_60 : decode cX6_keep 60 = .ok (.invokevirtual 180, 3) := by decide +kernel
theorem dX6_keep_63 : decode cX6_keep 63 = .ok (.iastore, 1) := by decide +kernel
theorem dX6_keep_64 : decode cX6_keep 64 = .ok (.iinc 2 1, 3) := by decide +kernel
theorem dX6_keep_67 : decode cX6_keep 67 = .ok (.goto (-27), 3) := by decide +kernel
theorem dX6_keep_70 : decode cX6_keep 70 = .ok (.iconst 0, 1) := by decide +kernel
theorem dX6_keep_71 : decode cX6_keep 71 = .ok (.istore_n 2, 1) := by decide +kernel
theorem dX6_keep_72 : decode cX6_keep 72 = .ok (.iload_n 2, 1) := by decide +kernel
theorem dX6_keep_73 : decode cX6_keep 73 = .ok (.bipush 8, 2) := by decide +kernel
theorem dX6_keep_75 : decode cX6_keep 75 = .ok (.if_icmp .ge 26, 3) := by decide +kernel
theorem dX6_keep_78 : decode cX6_keep 78 = .ok (.aload_n 0, 1) := by decide +kernel
theorem dX6_keep_79 : decode cX6_keep 79 = .ok (.getfield 67, 3) := by decide +kernel
theorem dX6_keep_82 : decode cX6_keep 82 = .ok (.bipush 8, 2) := by decide +kernel
theorem dX6_keep_84 : decode cX6_keep 84 = .ok (.iload_n 1, 1) := by decide +kernel
theorem dX6_keep_85 : decode cX6_keep 85 = .ok (.imul, 1) := by decide +kernel
theorem dX6_keep_86 : decode cX6_keep 86 = .ok (.iload_n 2, 1) := by decide +kernel
theorem dX6_keep_87 : decode cX6_keep 87 = .ok (.iadd, 1) := by decide +kernel
theorem dX6_keep_88 : decode cX6_keep 88 = .ok (.aload_n 0, 1) := by decide +kernel
theorem dX6_keep_89 : decode cX6_keep 89 = .ok (.getfield 36, 3) := by decide +kernel
theorem dX6_keep_92 : decode cX6_keep 92 = .ok (.iload_n 2, 1) := by decide +kernel
theorem dX6_keep_93 : decode cX6_keep 93 = .ok (.iaload, 1) := by decide +kernel
theorem dX6_keep_94 : decode cX6_keep 94 = .ok (.iastore, 1) := by decide +kernel
theorem dX6_keep_95 : decode cX6_keep 95 = .ok (.iinc 2 1, 3) := by decide +kernel
theorem dX6_keep_98 : decode cX6_keep 98 = .ok (.goto (-26), 3) := by decide +kernel
theorem dX6_keep_101 : decode cX6_keep 101 = .ok (.iconst 0, 1) := by decide +kernel
theorem dX6_keep_102 : decode cX6_keep 102 = .ok (.istore_n 2, 1) := by decide +kernel
theorem dX6_keep_103 : decode cX6_keep 103 = .ok (.iload_n 2, 1) := by decide +kernel
theorem dX6_keep_104 : decode cX6_keep 104 = .ok (.aload_n 0, 1) := by decide +kernel
theorem dX6_keep_105 : decode cX6_keep 105 = .ok (.getfield 177, 3) := by decide +kernel
theorem dX6_keep_108 : decode cX6_keep 108 = .ok (.if_icmp .gt 26, 3) := by decide +kernel
theorem dX6_keep_111 : decode cX6_keep 111 = .ok (.aload_n 0, 1) := by decide +kernel
theorem dX6_keep_112 : decode cX6_keep 112 = .ok (.getfield 70, 3) := by decide +kernel
theorem dX6_keep_115 : decode cX6_keep 115 = .ok (.bipush 31, 2) := by decide +kernel
theorem dX6_keep_117 : decode cX6_keep 117 = .ok (.iload_n 1, 1) := by decide +kernel
theorem dX6_keep_118 : decode cX6_keep 118 = .ok (.imul, 1) := by decide +kernel
theorem dX6_keep_119 : decode cX6_keep 119 = .ok (.iload_n 2, 1) := by decide +kernel
theorem dX6_keep_120 : decode cX6_keep 120 = .ok (.iadd, 1) := by decide +kernel
theorem dX6_keep_121 : decode cX6_keep 121 = .ok (.aload_n 0, 1) := by decide +kernel
theorem dX6_keep_122 : decode cX6_keep 122 = .ok (.getfield 54, 3) := by decide +kernel
theorem dX6_keep_125 : decode cX6_keep 125 = .ok (.iload_n 2, 1) := by decide +kernel
theorem dX6_keep_126 : decode cX6_keep 126 = .ok (.iaload, 1) := by decide +kernel
theorem dX6_keep_127 : decode cX6_keep 127 = .ok (.iastore, 1) := by decide +kernel
theorem dX6_keep_128 : decode cX6_keep 128 = .ok (.iinc 2 1, 3) := by decide +kernel
theorem dX6_keep_131 : decode cX6_keep 131 = .ok (.goto (-28), 3) := by decide +kernel
theorem dX6_keep_134 : decode cX6_keep 134 = .ok (.aload_n 0, 1) := by decide +kernel
theorem dX6_keep_135 : decode cX6_keep 135 = .ok (.getfield 177, 3) := by decide +kernel
theorem dX6_keep_138 : decode cX6_keep 138 = .ok (.ireturn, 1) := by decide +kernel
theorem dX6_on_0 : decode cX6_on 0 = .ok (.iload_n 1, 1) := by decide +kernel
theorem dX6_on_1 : decode cX6_on 1 = .ok (.iconst 0, 1) := by decide +kernel
theorem dX6_on_2 : decode cX6_on 2 = .ok (.iconst 2, 1) := by decide +kernel
theorem dX6_on_3 : decode cX6_on 3 = .ok (.invokestatic 92, 3) := by decide +kernel
theorem dX6_on_6 : decode cX6_on 6 = .ok (.ifCond .ne 5, 3) := by decide +kernel
theorem dX6_on_9 : decode cX6_on 9 = .ok (.iconst (-1), 1) := by decide +kernel
theorem dX6_on_10 : decode cX6_on 10 = .ok (.ireturn, 1) := by decide +kernel
theorem dX6_on_11 : decode cX6_on 11 = .ok (.aload_n 0, 1) := by decide +kernel
theorem dX6_on_12 : decode cX6_on 12 = .ok (.getfield 57, 3) := by decide +kernel
theorem dX6_on_15 : decode cX6_on 15 = .ok (.iload_n 1, 1) := by decide +kernel
theorem dX6_on_16 : decode cX6_on 16 = .ok (.baload, 1) := by decide +kernel
theorem dX6_on_17 : decode cX6_on 17 = .ok (.ifCond .ne 9, 3) := by decide +kernel
theorem dX6_on_20 : decode cX6_on 20 = .ok (.aload_n 0, 1) := by decide +kernel
theorem dX6_on_21 : decode cX6_on 21 = .ok (.iconst 1, 1) := by decide +kernel
theorem dX6_on_22 : decode cX6_on 22 = .ok (.invokevirtual 106, 3) := by decide +kernel
theorem dX6_on_25 : decode cX6_on 25 = .ok (.ireturn, 1) := by decide +kernel
theorem dX6_on_26 : decode cX6_on 26 = .ok (.aload_n 0, 1) := by decide +kernel
theorem dX6_on_27 : decode cX6_on 27 = .ok (.aload_n 0, 1) := by decide +kernel
theorem dX6_on_28 : decode cX6_on 28 = .ok (.getfield 61, 3) := by decide +kernel
theorem dX6_on_31 : decode cX6_on 31 = .ok (.iload_n 1, 1) := by decide +kernel
theorem dX6_on_32 : decode cX6_on 32 = .ok (.iaload, 1) := by decide +kernel
theorem dX6_on_33 : decode cX6_on 33 = .ok (.putfield 177, 3) := by decide +kernel
theorem dX6_on_36 : decode cX6_on 36 = .ok (.iconst 0, 1) := by decide +kernel
theorem dX6_on_37 : decode cX6_on 37 = .ok (.istore_n 2, 1) := by decide +kernel
theorem dX6_on_38 : decode cX6_on 38 = .ok (.iload_n 2, 1) := by decide +kernel
theorem dX6_on_39 : decode cX6_on 39 = .ok (.bipush 39, 2) := by decide +kernel
theorem dX6_on_41 : decode cX6_on 41 = .ok (.if_icmp .ge 27, 3) := by decide +kernel
theorem dX6_on_44 : decode cX6_on 44 = .ok (.aload_n 0, 1) := by decide +kernel
theorem dX6_on_45 : decode cX6_on 45 = .ok (.iconst 0, 1) := by decide +kernel
theorem dX6_on_46 : decode cX6_on 46 = .ok (.iload_n 2, 1) := by decide +kernel
theorem dX6_on_47 : decode cX6_on 47 = .ok (.iconst 0, 1) := by decide +kernel
theorem dX6_on_48 : decode cX6_on 48 = .ok (.aload_n 0, 1) := by decide +kernel
theorem dX6_on_49 : decode cX6_on 49 = .ok (.getfield 64, 3) := by decide +kernel
theorem dX6_on_52 : decode cX6_on 52 = .ok (.bipush 39, 2) := by decide +kernel
theorem dX6_on_54 : decode cX6_on 54 = .ok (.iload_n 1, 1) := by decide +kernel
theorem dX6_on_55 : decode cX6_on 55 = .ok (.imul, 1) := by decide +kernel
theorem dX6_on_56 : decode cX6_on 56 = .ok (.iload_n 2, 1) := by decide +kernel
theorem dX6_on_57 : decode cX6_on 57 = .ok (.iadd, 1) := by decide +kernel
theorem dX6_on_58 : decode cX6_on 58 = .ok (.iaload, 1) := by decide +kernel
theorem dX6_on_59 : decode cX6_on 59 = .ok (.invokevirtual 173, 3) := by decide +kernel
theorem dX6_on_62 : decode cX6_on 62 = .ok (.iinc 2 1, 3) := by decide +kernel
theorem dX6_on_65 : decode cX6_on 65 = .ok (.goto (-27), 3) := by decide +kernel
theorem dX6_on_68 : decode cX6_on 68 = .ok (.iconst 0, 1) := by decide +kernel
theorem dX6_on_69 : decode cX6_on 69 = .ok (.istore_n 2, 1) := by decide +kernel
theorem dX6_on_70 : decode cX6_on 70 = .ok (.iload_n 2, 1) := by decide +kernel
theorem dX6_on_71 : decode cX6_on 71 = .ok (.bipush 8, 2) := by decide +kernel
theorem dX6_on_73 : decode cX6_on 73 = .ok (.if_icmp .ge 26, 3) := by decide +kernel
theorem dX6_on_76 : decode cX6_on 76 = .ok (.aload_n 0, 1) := by decide +kernel
theorem dX6_on_77 : decode cX6_on 77 = .ok (.getfield 36, 3) := by decide +kernel
theorem dX6_on_80 : decode cX6_on 80 = .ok (.iload_n 2, 1) := by decide +kernel
theorem dX6_on_81 : decode cX6_on 81 = .ok (.aload_n 0, 1) := by decide +kernel
theorem dX6_on_82 : decode cX6_on 82 = .ok (.getfield 67, 3) := by decide +kernel
theorem dX6_on_85 : decode cX6_on 85 = .ok (.bipush 8, 2) := by decide +kernel
theorem dX6_on_87 : decode cX6_on 87 = .ok (.iload_n 1, 1) := by decide +kernel
theorem dX6_on_88 : decode cX6_on 88 = .ok (.imul, 1) := by decide +kernel
theorem dX6_on_89 : decode cX6_on 89 = .ok (.iload_n 2, 1) := by decide +kernel
theorem dX6_on_90 : decode cX6_on 90 = .ok (.iadd, 1) := by decide +kernel
theorem dX6_on_91 : decode cX6_on 91 = .ok (.iaload, 1) := by decide +kernel
theorem dX6_on_92 : decode cX6_on 92 = .ok (.iastore, 1) := by decide +kernel
theorem dX6_on_93 : decode cX6_on 93 = .ok (.iinc 2 1, 3) := by decide +kernel
theorem dX6_on_96 : decode cX6_on 96 = .ok (.goto (-26), 3) := by decide +kernel
theorem dX6_on_99 : decode cX6_on 99 = .ok (.iconst 0, 1) := by decide +kernel
theorem dX6_on_100 : decode cX6_on 100 = .ok (.istore_n 2, 1) := by decide +kernel
theorem dX6_on_101 : decode cX6_on 101 = .ok (.iload_n 2, 1) := by decide +kernel
theorem dX6_on_102 : decode cX6_on 102 = .ok (.aload_n 0, 1) := by decide +kernel
theorem dX6_on_103 : decode cX6_on 103 = .ok (.getfield 177, 3) := by decide +kernel
theorem dX6_on_106 : decode cX6_on 106 = .ok (.if_icmp .gt 26, 3) := by decide +kernel
theorem dX6_on_109 : decode cX6_on 109 = .ok (.aload_n 0, 1) := by decide +kernel
theorem dX6_on_110 : decode cX6_on 110 = .ok (.getfield 54, 3) := by decide +kernel
theorem dX6_on_113 : decode cX6_on 113 = .ok (.iload_n 2, 1) := by decide +kernel
theorem dX6_on_114 : decode cX6_on 114 = .ok (.aload_n 0, 1) := by decide +kernel
theorem dX6_on_115 : decode cX6_on 115 = .ok (.getfield 70, 3) := by decide +kernel
theorem dX6_on_118 : decode cX6_on 118 = .ok (.bipush 31, 2) := by decide +kernel
theorem dX6_on_120 : decode cX6_on 120 = .ok (.iload_n 1, 1) := by decide +kernel
theorem dX6_on_121 : decode cX6_on 121 = .ok (.imul, 1) := by decide +kernel
theorem dX6_on_122 : decode cX6_on 122 = .ok (.iload_n 2, 1) := by decide +kernel
theorem dX6_on_123 : decode cX6_on 123 = .ok (.iadd, 1) := by decide +kernel
theorem dX6_on_124 : decode cX6_on 124 = .ok (.iaload, 1) := by decide +kernel
theorem dX6_on_125 : decode cX6_on 125 = .ok (.iastore, 1) := by decide +kernel
theorem dX6_on_126 : decode cX6_on 126 = .ok (.iinc 2 1, 3) := by decide +kernel
theorem dX6_on_129 : decode cX6_on 129 = .ok (.goto (-28), 3) := by decide +kernel
theorem dX6_on_132 : decode cX6_on 132 = .ok (.aload_n 0, 1) := by decide +kernel
theorem dX6_on_133 : decode cX6_on 133 = .ok (.getfield 177, 3) := by decide +kernel
theorem dX6_on_136 : decode cX6_on 136 = .ok (.ireturn, 1) := by decide +kernel
theorem dX6_nextHome_0 : decode cX6_nextHome 0 = .ok (.aload_n 0, 1) := by decide +kernel
theorem dX6_nextHome_1 : decode cX6_nextHome 1 = .ok (.getfield 36, 3) := by decide +kernel
theorem dX6_nextHome_4 : decode cX6_nextHome 4 = .ok (.iload_n 2, 1) := by decide +kernel
theorem dX6_nextHome_5 : decode cX6_nextHome 5 = .ok (.iaload, 1) := by decide +kernel
theorem dX6_nextHome_6 : decode cX6_nextHome 6 = .ok (.iconst 0, 1) := by decide +kernel
theorem dX6_nextHome_7 : decode cX6_nextHome 7 = .ok (.invokestatic 145, 3) := by decide +kernel
theorem dX6_nextHome_10 : decode cX6_nextHome 10 = .ok (.ifCond .eq 5, 3) := by decide +kernel
theorem dX6_nextHome_13 : decode cX6_nextHome 13 = .ok (.iconst 0, 1) := by decide +kernel
theorem dX6_nextHome_14 : decode cX6_nextHome 14 = .ok (.ireturn, 1) := by decide +kernel
theorem dX6_nextHome_15 : decode cX6_nextHome 15 = .ok (.iconst 1, 1) := by decide +kernel
theorem dX6_nextHome_16 : decode cX6_nextHome 16 = .ok (.istore 4, 2) := by decide +kernel
theorem dX6_nextHome_18 : decode cX6_nextHome 18 = .ok (.iload 4, 2) := by decide +kernel
theorem dX6_nextHome_20 : decode cX6_nextHome 20 = .ok (.iconst (-1), 1) := by decide +kernel
theorem dX6_nextHome_21 : decode cX6_nextHome 21 = .ok (.if_icmp .lt 88, 3) := by decide +kernel
theorem dX6_nextHome_24 : decode cX6_nextHome 24 = .ok (.iload 4, 2) := by decide +kernel
theorem dX6_nextHome_26 : decode cX6_nextHome 26 = .ok (.iconst 1, 1) := by decide +kernel
theorem dX6_nextHome_27 : decode cX6_nextHome 27 = .ok (.if_icmp .ne 7, 3) := by decide +kernel
theorem dX6_nextHome_30 : decode cX6_nextHome 30 = .ok (.iconst 2, 1) := by decide +kernel
theorem dX6_nextHome_31 : decode cX6_nextHome 31 = .ok (.goto 13, 3) := by decide +kernel
theorem dX6_nextHome_34 : decode cX6_nextHome 34 = .ok (.iload 4, 2) := by decide +kernel
theorem dX6_nextHome_36 : decode cX6_nextHome 36 = .ok (.ifCond .ne 7, 3) := by decide +kernel
theorem dX6_nextHome_39 : decode cX6_nextHome 39 = .ok (.iconst 4, 1) := by decide +kernel
theorem dX6_nextHome_40 : decode cX6_nextHome 40 = .ok (.goto 4, 3) := by decide +kernel
theorem dX6_nextHome_43 : decode cX6_nextHome 43 = .ok (.iconst 1, 1) := by decide +kernel
theorem dX6_nextHome_44 : decode cX6_nextHome 44 = .ok (.istore 5, 2) := by decide +kernel
theorem dX6_nextHome_46 : decode cX6_nextHome 46 = .ok (.iconst 0, 1) := by decide +kernel
theorem dX6_nextHome_47 : decode cX6_nextHome 47 = .ok (.istore 6, 2) := by decide +kernel
theorem dX6_nextHome_49 : decode cX6_nextHome 49 = .ok (.iload 6, 2) := by decide +kernel
theorem dX6_nextHome_51 : decode cX6_nextHome 51 = .ok (.aload_n 0, 1) := by decide +kernel
theorem dX6_nextHome_52 : decode cX6_nextHome 52 = .ok (.getfield 167, 3) := by decide +kernel
theorem dX6_nextHome_55 : decode cX6_nextHome 55 = .ok (.if_icmp .ge 48, 3) := by decide +kernel
theorem dX6_nextHome_58 : decode cX6_nextHome 58 = .ok (.aload_n 0, 1) := by decide +kernel
theorem dX6_nextHome_59 : decode cX6_nextHome 59 = .ok (.getfield 36, 3) := by decide +kernel
theorem dX6_nextHome_62 : decode cX6_nextHome 62 = .ok (.iload_n 2, 1) := by decide +kernel
theorem dX6_nextHome_63 : decode cX6_nextHome 63 = .ok (.iaload, 1) := by decide +kernel
theorem dX6_nextHome_64 : decode cX6_nextHome 64 = .ok (.iload 6, 2) := by decide +kernel
theorem dX6_nextHome_66 : decode cX6_nextHome 66 = .ok (.invokestatic 145, 3) := by decide +kernel
theorem dX6_nextHome_69 : decode cX6_nextHome 69 = .ok (.ifCond .eq 28, 3) := by decide +kernel
theorem dX6_nextHome_72 : decode cX6_nextHome 72 = .ok (.iload_n 3, 1) := by decide +kernel
theorem dX6_nextHome_73 : decode cX6_nextHome 73 = .ok (.iload 6, 2) := by decide +kernel
theorem dX6_nextHome_75 : decode cX6_nextHome 75 = .ok (.invokestatic 145, 3) := by decide +kernel
theorem dX6_nextHome_78 : decode cX6_nextHome 78 = .ok (.ifCond .ne 19, 3) := by decide +kernel
theorem dX6_nextHome_81 : decode cX6_nextHome 81 = .ok (.aload_n 0, 1) := by decide +kernel
theorem dX6_nextHome_82 : decode cX6_nextHome 82 = .ok (.iload_n 1, 1) := by decide +kernel
theorem dX6_nextHome_83 : decode cX6_nextHome 83 = .ok (.iload 6, 2) := by decide +kernel
theorem dX6_nextHome_85 : decode cX6_nextHome 85 = .ok (.invokevirtual 208, 3) := by decide +kernel
theorem dX6_nextHome_88 : decode cX6_nextHome 88 = .ok (.iload 5, 2) := by decide +kernel
theorem dX6_nextHome_90 : decode cX6_nextHome 90 = .ok (.iand, 1) := by decide +kernel
theorem dX6_nextHome_91 : decode cX6_nextHome 91 = .ok (.ifCond .eq 6, 3) := by decide +kernel
theorem dX6_nextHome_94 : decode cX6_nextHome 94 = .ok (.iload 6, 2) := by decide +kernel
theorem dX6_nextHome_96 : decode cX6_nextHome 96 = .ok (.ireturn, 1) := by decide +kernel
theorem dX6_nextHome_97 : decode cX6_nextHome 97 = .ok (.iinc 6 1, 3) := by decide +kernel
theorem dX6_nextHome_100 : decode cX6_nextHome 100 = .ok (.goto (-51), 3) := by decide +kernel
theorem dX6_nextHome_103 : decode cX6_nextHome 103 = .ok (.iinc 4 (-1), 3) := by decide +kernel
theorem dX6_nextHome_106 : decode cX6_nextHome 106 = .ok (.goto (-88), 3) := by decide +kernel
theorem dX6_nextHome_109 : decode cX6_nextHome 109 = .ok (.bipush (-9), 2) := by decide +kernel
theorem dX6_nextHome_111 : decode cX6_nextHome 111 = .ok (.ireturn, 1) := by decide +kernel
theorem dX6_follows_0 : decode cX6_follows 0 = .ok (.iconst 1, 1) := by decide +kernel
theorem dX6_follows_1 : decode cX6_follows 1 = .ok (.iload_n 2, 1) := by decide +kernel
theorem dX6_follows_2 : decode cX6_follows 2 = .ok (.ishl, 1) := by decide +kernel
theorem dX6_follows_3 : decode cX6_follows 3 = .ok (.istore_n 3, 1) := by decide +kernel
theorem dX6_follows_4 : decode cX6_follows 4 = .ok (.iload_n 2, 1) := by decide +kernel
theorem dX6_follows_5 : decode cX6_follows 5 = .ok (.istore 4, 2) := by decide +kernel
theorem dX6_follows_7 : decode cX6_follows 7 = .ok (.aload_n 0, 1) := by decide +kernel
theorem dX6_follows_8 : decode cX6_follows 8 = .ok (.iconst 1, 1) := by decide +kernel
theorem dX6_follows_9 : decode cX6_follows 9 = .ok (.putfield 238, 3) := by decide +kernel
theorem dX6_follows_12 : decode cX6_follows 12 = .ok (.aload_n 0, 1) := by decide +kernel
theorem dX6_follows_13 : decode cX6_follows 13 = .ok (.getfield 73, 3) := by decide +kernel
theorem dX6_follows_16 : decode cX6_follows 16 = .ok (.iconst 0, 1) := by decide +kernel
theorem dX6_follows_17 : decode cX6_follows 17 = .ok (.iload_n 2, 1) := by decide +kernel
theorem dX6_follows_18 : decode cX6_follows 18 = .ok (.iastore, 1) := by decide +kernel
theorem dX6_follows_19 : decode cX6_follows 19 = .ok (.iload 4, 2) := by decide +kernel
theorem dX6_follows_21 : decode cX6_follows 21 = .ok (.ifCond .eq 58, 3) := by decide +kernel
theorem dX6_follows_24 : decode cX6_follows 24 = .ok (.iload 4, 2) := by decide +kernel
theorem dX6_follows_26 : decode cX6_follows 26 = .ok (.bipush (-9), 2) := by decide +kernel
theorem dX6_follows_28 : decode cX6_follows 28 = .ok (.if_icmp .eq 51, 3) := by decide +kernel
theorem dX6_follows_31 : decode cX6_follows 31 = .ok (.aload_n 0, 1) := by decide +kernel
theorem dX6_follows_32 : decode cX6_follows 32 = .ok (.iload_n 1, 1) := by decide +kernel
theorem dX6_follows_33 : decode cX6_follows 33 = .ok (.iload 4, 2) := by decide +kernel
theorem dX6_follows_35 : decode cX6_follows 35 = .ok (.iload_n 3, 1) := by decide +kernel
theorem dX6_follows_36 : decode cX6_follows 36 = .ok (.invokevirtual 241, 3) := by decide +kernel
theorem dX6_follows_39 : decode cX6_follows 39 = .ok (.istore 4, 2) := by decide +kernel
theorem dX6_follows_41 : decode cX6_follows 41 = .ok (.iload 4, 2) := by decide +kernel
theorem dX6_follows_43 : decode cX6_follows 43 = .ok (.bipush (-9), 2) := by decide +kernel
theorem dX6_follows_45 : decode cX6_follows 45 = .ok (.if_icmp .eq (-26), 3) := by decide +kernel
theorem dX6_follows_48 : decode cX6_follows 48 = .ok (.iload_n 3, 1) := by decide +kernel
theorem dX6_follows_49 : decode cX6_follows 49 = .ok (.iconst 1, 1) := by decide +kernel
theorem dX6_follows_50 : decode cX6_follows 50 = .ok (.iload 4, 2) := by decide +kernel
theorem dX6_follows_52 : decode cX6_follows 52 = .ok (.ishl, 1) := by decide +kernel
theorem dX6_follows_53 : decode cX6_follows 53 = .ok (.ior, 1) := by decide +kernel
theorem dX6_follows_54 : decode cX6_follows 54 = .ok (.istore_n 3, 1) := by decide +kernel
theorem dX6_follows_55 : decode cX6_follows 55 = .ok (.aload_n 0, 1) := by decide +kernel
theorem dX6_follows_56 : decode cX6_follows 56 = .ok (.getfield 73, 3) := by decide +kernel
theorem dX6_follows_59 : decode cX6_follows 59 = .ok (.aload_n 0, 1) := by decide +kernel
theorem dX6_follows_60 : decode cX6_follows 60 = .ok (.getfield 238, 3) := by decide +kernel
theorem dX6_follows_63 : decode cX6_follows 63 = .ok (.iload 4, 2) := by decide +kernel
theorem dX6_follows_65 : decode cX6_follows 65 = .ok (.iastore, 1) := by decide +kernel
theorem dX6_follows_66 : decode cX6_follows 66 = .ok (.aload_n 0, 1) := by decide +kernel
theorem dX6_follows_67 : decode cX6_follows 67 = .ok (.dup, 1) := by decide +kernel
theorem dX6_follows_68 : decode cX6_follows 68 = .ok (.getfield 238, 3) := by decide +kernel
theorem dX6_follows_71 : decode cX6_follows 71 = .ok (.iconst 1, 1) := by decide +kernel
theorem dX6_follows_72 : decode cX6_follows 72 = .ok (.iadd, 1) := by decide +kernel
theorem dX6_follows_73 : decode cX6_follows 73 = .ok (.putfield 238, 3) := by decide +kernel
theorem dX6_follows_76 : decode cX6_follows 76 = .ok (.goto (-57), 3) := by decide +kernel
theorem dX6_follows_79 : decode cX6_follows 79 = .ok (.iload 4, 2) := by decide +kernel
theorem dX6_follows_81 : decode cX6_follows 81 = .ok (.ifCond .ne 7, 3) := by decide +kernel
theorem dX6_follows_84 : decode cX6_follows 84 = .ok (.iconst 1, 1) := by decide +kernel
theorem dX6_follows_85 : decode cX6_follows 85 = .ok (.goto 4, 3) := by decide +kernel
theorem dX6_follows_88 : decode cX6_follows 88 = .ok (.iconst 0, 1) := by decide +kernel
theorem dX6_follows_89 : decode cX6_follows 89 = .ok (.ireturn, 1) := by decide +kernel
theorem dX6_home_0 : decode cX6_home 0 = .ok (.aload_n 0, 1) := by decide +kernel
theorem dX6_home_1 : decode cX6_home 1 = .ok (.getfield 167, 3) := by decide +kernel
theorem dX6_home_4 : decode cX6_home 4 = .ok (.ifCond .ne 6, 3) := by decide +kernel
theorem dX6_home_7 : decode cX6_home 7 = .ok (.bipush (-4), 2) := by decide +kernel
theorem dX6_home_9 : decode cX6_home 9 = .ok (.ireturn, 1) := by decide +kernel
theorem dX6_home_10 : decode cX6_home 10 = .ok (.aload_n 0, 1) := by decide +kernel
theorem dX6_home_11 : decode cX6_home 11 = .ok (.iconst 0, 1) := by decide +kernel
theorem dX6_home_12 : decode cX6_home 12 = .ok (.aload_n 0, 1) := by decide +kernel
theorem dX6_home_13 : decode cX6_home 13 = .ok (.invokevirtual 223, 3) := by decide +kernel
theorem dX6_home_16 : decode cX6_home 16 = .ok (.invokevirtual 244, 3) := by decide +kernel
theorem dX6_home_19 : decode cX6_home 19 = .ok (.istore_n 1, 1) := by decide +kernel
theorem dX6_home_20 : decode cX6_home 20 = .ok (.aload_n 0, 1) := by decide +kernel
theorem dX6_home_21 : decode cX6_home 21 = .ok (.aload_n 0, 1) := by decide +kernel
theorem dX6_home_22 : decode cX6_home 22 = .ok (.getfield 238, 3) := by decide +kernel
theorem dX6_home_25 : decode cX6_home 25 = .ok (.iconst 1, 1) := by decide +kernel
theorem dX6_home_26 : decode cX6_home 26 = .ok (.isub, 1) := by decide +kernel
theorem dX6_home_27 : decode cX6_home 27 = .ok (.iload_n 1, 1) := by decide +kernel
theorem dX6_home_28 : decode cX6_home 28 = .ok (.ifCond .eq 7, 3) := by decide +kernel
theorem dX6_home_31 : decode cX6_home 31 = .ok (.iconst 1, 1) := by decide +kernel
theorem dX6_home_32 : decode cX6_home 32 = .ok (.goto 4, 3) := by decide +kernel
theorem dX6_home_35 : decode cX6_home 35 = .ok (.iconst 0, 1) := by decide +kernel
theorem dX6_home_36 : decode cX6_home 36 = .ok (.invokevirtual 114, 3) := by decide +kernel
theorem dX6_home_39 : decode cX6_home 39 = .ok (.ireturn, 1) := by decide +kernel
theorem dX6_back_0 : decode cX6_back 0 = .ok (.iload_n 1, 1) := by decide +kernel
theorem dX6_back_1 : decode cX6_back 1 = .ok (.invokestatic 102, 3) := by decide +kernel
theorem dX6_back_4 : decode cX6_back 4 = .ok (.ifCond .ne 5, 3) := by decide +kernel
theorem dX6_back_7 : decode cX6_back 7 = .ok (.iconst (-1), 1) := by decide +kernel
theorem dX6_back_8 : decode cX6_back 8 = .ok (.ireturn, 1) := by decide +kernel
theorem dX6_back_9 : decode cX6_back 9 = .ok (.aload_n 0, 1) := by decide +kernel
theorem dX6_back_10 : decode cX6_back 10 = .ok (.getfield 167, 3) := by decide +kernel
theorem dX6_back_13 : decode cX6_back 13 = .ok (.ifCond .ne 6, 3) := by decide +kernel
theorem dX6_back_16 : decode cX6_back 16 = .ok (.bipush (-4), 2) := by decide +kernel
theorem dX6_back_18 : decode cX6_back 18 = .ok (.ireturn, 1) := by decide +kernel
theorem dX6_back_19 : decode cX6_back 19 = .ok (.aload_n 0, 1) := by decide +kernel
theorem dX6_back_20 : decode cX6_back 20 = .ok (.iconst 0, 1) := by decide +kernel
theorem dX6_back_21 : decode cX6_back 21 = .ok (.aload_n 0, 1) := by decide +kernel
theorem dX6_back_22 : decode cX6_back 22 = .ok (.invokevirtual 223, 3) := by decide +kernel
theorem dX6_back_25 : decode cX6_back 25 = .ok (.invokevirtual 244, 3) := by decide +kernel
theorem dX6_back_28 : decode cX6_back 28 = .ok (.pop, 1) := by decide +kernel
theorem dX6_back_29 : decode cX6_back 29 = .ok (.aload_n 0, 1) := by decide +kernel
theorem dX6_back_30 : decode cX6_back 30 = .ok (.iload_n 1, 1) := by decide +kernel
theorem dX6_back_31 : decode cX6_back 31 = .ok (.aload_n 0, 1) := by decide +kernel
theorem dX6_back_32 : decode cX6_back 32 = .ok (.getfield 73, 3) := by decide +kernel
theorem dX6_back_35 : decode cX6_back 35 = .ok (.aload_n 0, 1) := by decide +kernel
theorem dX6_back_36 : decode cX6_back 36 = .ok (.getfield 238, 3) := by decide +kernel
theorem dX6_back_39 : decode cX6_back 39 = .ok (.invokevirtual 234, 3) := by decide +kernel
theorem dX6_back_42 : decode cX6_back 42 = .ok (.aload_n 0, 1) := by decide +kernel
theorem dX6_back_43 : decode cX6_back 43 = .ok (.getfield 238, 3) := by decide +kernel
theorem dX6_back_46 : decode cX6_back 46 = .ok (.ireturn, 1) := by decide +kernel
theorem dX6_wrong_0 : decode cX6_wrong 0 = .ok (.aload_n 0, 1) := by decide +kernel
theorem dX6_wrong_1 : decode cX6_wrong 1 = .ok (.getfield 167, 3) := by decide +kernel
theorem dX6_wrong_4 : decode cX6_wrong 4 = .ok (.ifCond .ne 6, 3) := by decide +kernel
theorem dX6_wrong_7 : decode cX6_wrong 7 = .ok (.bipush (-4), 2) := by decide +kernel
theorem dX6_wrong_9 : decode cX6_wrong 9 = .ok (.ireturn, 1) := by decide +kernel
theorem dX6_wrong_10 : decode cX6_wrong 10 = .ok (.aload_n 0, 1) := by decide +kernel
theorem dX6_wrong_11 : decode cX6_wrong 11 = .ok (.iconst 0, 1) := by decide +kernel
theorem dX6_wrong_12 : decode cX6_wrong 12 = .ok (.aload_n 0, 1) := by decide +kernel
theorem dX6_wrong_13 : decode cX6_wrong 13 = .ok (.invokevirtual 223, 3) := by decide +kernel
theorem dX6_wrong_16 : decode cX6_wrong 16 = .ok (.invokevirtual 244, 3) := by decide +kernel
theorem dX6_wrong_19 : decode cX6_wrong 19 = .ok (.pop, 1) := by decide +kernel
theorem dX6_wrong_20 : decode cX6_wrong 20 = .ok (.iconst 0, 1) := by decide +kernel
theorem dX6_wrong_21 : decode cX6_wrong 21 = .ok (.istore_n 1, 1) := by decide +kernel
theorem dX6_wrong_22 : decode cX6_wrong 22 = .ok (.iload_n 1, 1) := by decide +kernel
theorem dX6_wrong_23 : decode cX6_wrong 23 = .ok (.aload_n 0, 1) := by decide +kernel
theorem dX6_wrong_24 : decode cX6_wrong 24 = .ok (.getfield 238, 3) := by decide +kernel
theorem dX6_wrong_27 : decode cX6_wrong 27 = .ok (.iconst 1, 1) := by decide +kernel
theorem dX6_wrong_28 : decode cX6_wrong 28 = .ok (.isub, 1) := by decide +kernel
theorem dX6_wrong_29 : decode cX6_wrong 29 = .ok (.if_icmp .ge 43, 3) := by decide +kernel
theorem dX6_wrong_32 : decode cX6_wrong 32 = .ok (.iload_n 1, 1) := by decide +kernel
theorem dX6_wrong_33 : decode cX6_wrong 33 = .ok (.aload_n 0, 1) := by decide +kernel
theorem dX6_wrong_34 : decode cX6_wrong 34 = .ok (.getfield 177, 3) := by decide +kernel
theorem dX6_wrong_37 : decode cX6_wrong 37 = .ok (.if_icmp .ge 35, 3) := by decide +kernel
theorem dX6_wrong_40 : decode cX6_wrong 40 = .ok (.aload_n 0, 1) := by decide +kernel
theorem dX6_wrong_41 : decode cX6_wrong 41 = .ok (.getfield 73, 3) := by decide +kernel
theorem dX6_wrong_44 : decode cX6_wrong 44 = .ok (.iload_n 1, 1) := by decide +kernel
theorem dX6_wrong_45 : decode cX6_wrong 45 = .ok (.iconst 1, 1) := by decide +kernel
theorem dX6_wrong_46 : decode cX6_wrong 46 = .ok (.iadd, 1) := by decide +kernel
theorem dX6_wrong_47 : decode cX6_wrong 47 = .ok (.iaload, 1) := by decide +kernel
theorem dX6_wrong_48 : decode cX6_wrong 48 = .ok (.aload_n 0, 1) := by decide +kernel
theorem dX6_wrong_49 : decode cX6_wrong 49 = .ok (.getfield 54, 3) := by decide +kernel
theorem dX6_wrong_52 : decode cX6_wrong 52 = .ok (.aload_n 0, 1) := by decide +kernel
theorem dX6_wrong_53 : decode cX6_wrong 53 = .ok (.getfield 177, 3) := by decide +kernel
theorem dX6_wrong_56 : decode cX6_wrong 56 = .ok (.iconst 1, 1) := by decide +kernel
theorem dX6_wrong_57 : decode cX6_wrong 57 = .ok (.isub, 1) := by decide +kernel
theorem dX6_wrong_58 : decode cX6_wrong 58 = .ok (.iload_n 1, 1) := by decide +kernel
theorem dX6_wrong_59 : decode cX6_wrong 59 = .ok (.isub, 1) := by decide +kernel
theorem dX6_wrong_60 : decode cX6_wrong 60 = .ok (.iaload, 1) := by decide +kernel
theorem dX6_wrong_61 : decode cX6_wrong 61 = .ok (.if_icmp .eq 5, 3) := by decide +kernel
theorem dX6_wrong_64 : decode cX6_wrong 64 = .ok (.iload_n 1, 1) := by decide +kernel
theorem dX6_wrong_65 : decode cX6_wrong 65 = .ok (.ireturn, 1) := by decide +kernel
theorem dX6_wrong_66 : decode cX6_wrong 66 = .ok (.iinc 1 1, 3) := by decide +kernel
theorem dX6_wrong_69 : decode cX6_wrong 69 = .ok (.goto (-47), 3) := by decide +kernel
theorem dX6_wrong_72 : decode cX6_wrong 72 = .ok (.bipush (-9), 2) := by decide +kernel
theorem dX6_wrong_74 : decode cX6_wrong 74 = .ok (.ireturn, 1) := by decide +kernel

theorem dX0_init_0 : decode cX0_init 0 = .ok (.aload_n 0, 1) := by decide +kernel
theorem dX0_init_1 : decode cX0_init 1 = .ok (.invokespecial 3, 3) := by decide +kernel
theorem dX0_init_4 : decode cX0_init 4 = .ok (.aload_n 0, 1) := by decide +kernel
theorem dX0_init_5 : decode cX0_init 5 = .ok (.iconst 0, 1) := by decide +kernel
theorem dX0_init_6 : decode cX0_init 6 = .ok (.newarray .int, 2) := by decide +kernel
theorem dX0_init_8 : decode cX0_init 8 = .ok (.putfield 9, 3) := by decide +kernel
theorem dX0_init_11 : decode cX0_init 11 = .ok (.aload_n 0, 1) := by decide +kernel
theorem dX0_init_12 : decode cX0_init 12 = .ok (.iconst 0, 1) := by decide +kernel
theorem dX0_init_13 : decode cX0_init 13 = .ok (.putfield 15, 3) := by decide +kernel
theorem dX0_init_16 : decode cX0_init 16 = .ok (.aload_n 0, 1) := by decide +kernel
theorem dX0_init_17 : decode cX0_init 17 = .ok (.iconst 0, 1) := by decide +kernel
theorem dX0_init_18 : decode cX0_init 18 = .ok (.putfield 19, 3) := by decide +kernel
theorem dX0_init_21 : decode cX0_init 21 = .ok (.aload_n 0, 1) := by decide +kernel
theorem dX0_init_22 : decode cX0_init 22 = .ok (.iconst 0, 1) := by decide +kernel
theorem dX0_init_23 : decode cX0_init 23 = .ok (.putfield 22, 3) := by decide +kernel
theorem dX0_init_26 : decode cX0_init 26 = .ok (.aload_n 0, 1) := by decide +kernel
theorem dX0_init_27 : decode cX0_init 27 = .ok (.iconst 0, 1) := by decide +kernel
theorem dX0_init_28 : decode cX0_init 28 = .ok (.putfield 25, 3) := by decide +kernel
theorem dX0_init_31 : decode cX0_init 31 = .ok (.return_, 1) := by decide +kernel
theorem dX0_read_0 : decode cX0_read 0 = .ok (.aload_n 0, 1) := by decide +kernel
theorem dX0_read_1 : decode cX0_read 1 = .ok (.aload_n 1, 1) := by decide +kernel
theorem dX0_read_2 : decode cX0_read 2 = .ok (.getfield 28, 3) := by decide +kernel
theorem dX0_read_5 : decode cX0_read 5 = .ok (.putfield 9, 3) := by decide +kernel
theorem dX0_read_8 : decode cX0_read 8 = .ok (.aload_n 0, 1) := by decide +kernel
theorem dX0_read_9 : decode cX0_read 9 = .ok (.aload_n 1, 1) := by decide +kernel
theorem dX0_read_10 : decode cX0_read 10 = .ok (.getfield 33, 3) := by decide +kernel
theorem dX0_read_13 : decode cX0_read 13 = .ok (.putfield 15, 3) := by decide +kernel
theorem dX0_read_16 : decode cX0_read 16 = .ok (.aload_n 0, 1) := by decide +kernel
theorem dX0_read_17 : decode cX0_read 17 = .ok (.iconst 0, 1) := by decide +kernel
theorem dX0_read_18 : decode cX0_read 18 = .ok (.putfield 19, 3) := by decide +kernel
theorem dX0_read_21 : decode cX0_read 21 = .ok (.aload_n 0, 1) := by decide +kernel
theorem dX0_read_22 : decode cX0_read 22 = .ok (.iconst 0, 1) := by decide +kernel
theorem dX0_read_23 : decode cX0_read 23 = .ok (.putfield 22, 3) := by decide +kernel
theorem dX0_read_26 : decode cX0_read 26 = .ok (.aload_n 0, 1) := by decide +kernel
theorem dX0_read_27 : decode cX0_read 27 = .ok (.iconst 0, 1) := by decide +kernel
theorem dX0_read_28 : decode cX0_read 28 = .ok (.putfield 25, 3) := by decide +kernel
theorem dX0_read_31 : decode cX0_read 31 = .ok (.aload_n 2, 1) := by decide +kernel
theorem dX0_read_32 : decode cX0_read 32 = .ok (.invokevirtual 34, 3) := by decide +kernel
theorem dX0_read_35 : decode cX0_read 35 = .ok (.iconst 0, 1) := by decide +kernel
theorem dX0_read_36 : decode cX0_read 36 = .ok (.istore_n 3, 1) := by decide +kernel
theorem dX0_read_37 : decode cX0_read 37 = .ok (.iload_n 3, 1) := by decide +kernel
theorem dX0_read_38 : decode cX0_read 38 = .ok (.aload_n 0, 1) := by decide +kernel
theorem dX0_read_39 : decode cX0_read 39 = .ok (.getfield 15, 3) := by decide +kernel
theorem dX0_read_42 : decode cX0_read 42 = .ok (.if_icmp .gt 55, 3) := by decide +kernel
theorem dX0_read_45 : decode cX0_read 45 = .ok (.aload_n 0, 1) := by decide +kernel
theorem dX0_read_46 : decode cX0_read 46 = .ok (.invokevirtual 39, 3) := by decide +kernel
theorem dX0_read_49 : decode cX0_read 49 = .ok (.aload_n 0, 1) := by decide +kernel
theorem dX0_read_50 : decode cX0_read 50 = .ok (.getfield 19, 3) := by decide +kernel
theorem dX0_read_53 : decode cX0_read 53 = .ok (.aload_n 0, 1) := by decide +kernel
theorem dX0_read_54 : decode cX0_read 54 = .ok (.getfield 15, 3) := by decide +kernel
theorem dX0_read_57 : decode cX0_read 57 = .ok (.if_icmp .lt 21, 3) := by decide +kernel
theorem dX0_read_60 : decode cX0_read 60 = .ok (.aload_n 0, 1) := by decide +kernel
theorem dX0_read_61 : decode cX0_read 61 = .ok (.getfield 22, 3) := by decide +kernel
theorem dX0_read_64 : decode cX0_read 64 = .ok (.iconst 3, 1) := by decide +kernel
theorem dX0_read_65 : decode cX0_read 65 = .ok (.if_icmp .ne 8, 3) := by decide +kernel
theorem dX0_read_68 : decode cX0_read 68 = .ok (.bipush (-9), 2) := by decide +kernel
theorem dX0_read_70 : decode cX0_read 70 = .ok (.goto 7, 3) := by decide +kernel
theorem dX0_read_73 : decode cX0_read 73 = .ok (.aload_n 0, 1) := by decide +kernel
theorem dX0_read_74 : decode cX0_read 74 = .ok (.getfield 15, 3) := by decide +kernel
theorem dX0_read_77 : decode cX0_read 77 = .ok (.ireturn, 1) := by decide +kernel
theorem dX0_read_78 : decode cX0_read 78 = .ok (.aload_n 0, 1) := by decide +kernel
theorem dX0_read_79 : decode cX0_read 79 = .ok (.aload_n 2, 1) := by decide +kernel
theorem dX0_read_80 : decode cX0_read 80 = .ok (.invokevirtual 42, 3) := by decide +kernel
theorem dX0_read_83 : decode cX0_read 83 = .ok (.ifCond .ne 8, 3) := by decide +kernel
theorem dX0_read_86 : decode cX0_read 86 = .ok (.aload_n 0, 1) := by decide +kernel
theorem dX0_read_87 : decode cX0_read 87 = .ok (.getfield 19, 3) := by decide +kernel
theorem dX0_read_90 : decode cX0_read 90 = .ok (.ireturn, 1) := by decide +kernel
theorem dX0_read_91 : decode cX0_read 91 = .ok (.iinc 3 1, 3) := by decide +kernel
theorem dX0_read_94 : decode cX0_read 94 = .ok (.goto (-57), 3) := by decide +kernel
theorem dX0_read_97 : decode cX0_read 97 = .ok (.aload_n 0, 1) := by decide +kernel
theorem dX0_read_98 : decode cX0_read 98 = .ok (.getfield 15, 3) := by decide +kernel
theorem dX0_read_101 : decode cX0_read 101 = .ok (.ireturn, 1) := by decide +kernel
theorem dX0_skipBlanks_0 : decode cX0_skipBlanks 0 = .ok (.iconst 0, 1) := by decide +kernel
theorem dX0_skipBlanks_1 : decode cX0_skipBlanks 1 = .ok (.istore_n 1, 1) := by decide +kernel
theorem dX0_skipBlanks_2 : decode cX0_skipBlanks 2 = .ok (.iload_n 1, 1) := by decide +kernel
theorem dX0_skipBlanks_3 : decode cX0_skipBlanks 3 = .ok (.aload_n 0, 1) := by decide +kernel
theorem dX0_skipBlanks_4 : decode cX0_skipBlanks 4 = .ok (.getfield 15, 3) := by decide +kernel
theorem dX0_skipBlanks_7 : decode cX0_skipBlanks 7 = .ok (.if_icmp .ge 44, 3) := by decide +kernel
theorem dX0_skipBlanks_10 : decode cX0_skipBlanks 10 = .ok (.aload_n 0, 1) := by decide +kernel
theorem dX0_skipBlanks_11 : decode cX0_skipBlanks 11 = .ok (.getfield 19, 3) := by decide +kernel
theorem dX0_skipBlanks_14 : decode cX0_skipBlanks 14 = .ok (.aload_n 0, 1) := by decide +kernel
theorem dX0_skipBlanks_15 : decode cX0_skipBlanks 15 = .ok (.getfield 15, 3) := by decide +kernel
theorem dX0_skipBlanks_18 : decode cX0_skipBlanks 18 = .ok (.if_icmp .ge 33, 3) := by decide +kernel
theorem dX0_skipBlanks_21 : decode cX0_skipBlanks 21 = .ok (.aload_n 0, 1) := by decide +kernel
theorem dX0_skipBlanks_22 : decode cX0_skipBlanks 22 = .ok (.getfield 9, 3) := by decide +kernel
theorem dX0_skipBlanks_25 : decode cX0_skipBlanks 25 = .ok (.aload_n 0, 1) := by decide +kernel
theorem dX0_skipBlanks_26 : decode cX0_skipBlanks 26 = .ok (.getfield 19, 3) := by decide +kernel
theorem dX0_skipBlanks_29 : decode cX0_skipBlanks 29 = .ok (.iaload, 1) := by decide +kernel
theorem dX0_skipBlanks_30 : decode cX0_skipBlanks 30 = .ok (.bipush 32, 2) := by decide +kernel
theorem dX0_skipBlanks_32 : decode cX0_skipBlanks 32 = .ok (.if_icmp .ne 19, 3) := by decide +kernel
theorem dX0_skipBlanks_35 : decode cX0_skipBlanks 35 = .ok (.aload_n 0, 1) := by decide +kernel
theorem dX0_skipBlanks_36 : decode cX0_skipBlanks 36 = .ok (.dup, 1) := by decide +kernel
theorem dX0_skipBlanks_37 : decode cX0_skipBlanks 37 = .ok (.getfield 19, 3) := by decide +kernel
theorem dX0_skipBlanks_40 : decode cX0_skipBlanks 40 = .ok (.iconst 1, 1) := by decide +kernel
theorem dX0_skipBlanks_41 : decode cX0_skipBlanks 41 = .ok (.iadd, 1) := by decide +kernel
theorem dX0_skipBlanks_42 : decode cX0_skipBlanks 42 = .ok (.putfield 19, 3) := by decide +kernel
theorem dX0_skipBlanks_45 : decode cX0_skipBlanks 45 = .ok (.iinc 1 1, 3) := by decide +kernel
theorem dX0_skipBlanks_48 : decode cX0_skipBlanks 48 = .ok (.goto (-46), 3) := by decide +kernel
theorem dX0_skipBlanks_51 : decode cX0_skipBlanks 51 = .ok (.return_, 1) := by decide +kernel
theorem dX0_readItem_0 : decode cX0_readItem 0 = .ok (.aload_n 0, 1) := by decide +kernel
theorem dX0_readItem_1 : decode cX0_readItem 1 = .ok (.getfield 9, 3) := by decide +kernel
theorem dX0_readItem_4 : decode cX0_readItem 4 = .ok (.aload_n 0, 1) := by decide +kernel
theorem dX0_readItem_5 : decode cX0_readItem 5 = .ok (.getfield 19, 3) := by decide +kernel
theorem dX0_readItem_8 : decode cX0_readItem 8 = .ok (.iaload, 1) := by decide +kernel
theorem dX0_readItem_9 : decode cX0_readItem 9 = .ok (.istore_n 2, 1) := by decide +kernel
theorem dX0_readItem_10 : decode cX0_readItem 10 = .ok (.iload_n 2, 1) := by decide +kernel
theorem dX0_readItem_11 : decode cX0_readItem 11 = .ok (.bipush 45, 2) := by decide +kernel
theorem dX0_readItem_13 : decode cX0_readItem 13 = .ok (.if_icmp .ne 40, 3) := by decide +kernel
theorem dX0_readItem_16 : decode cX0_readItem 16 = .ok (.aload_n 0, 1) := by decide +kernel
theorem dX0_readItem_17 : decode cX0_readItem 17 = .ok (.aload_n 1, 1) := by decide +kernel
theorem dX0_readItem_18 : decode cX0_readItem 18 = .ok (.iconst 1, 1) := by decide +kernel
theorem dX0_readItem_19 : decode cX0_readItem 19 = .ok (.aload_n 0, 1) := by decide +kernel
theorem dX0_readItem_20 : decode cX0_readItem 20 = .ok (.getfield 25, 3) := by decide +kernel
theorem dX0_readItem_23 : decode cX0_readItem 23 = .ok (.bipush 14, 2) := by decide +kernel
theorem dX0_readItem_25 : decode cX0_readItem 25 = .ok (.if_icmp .ge 7, 3) := by decide +kernel
theorem dX0_readItem_28 : decode cX0_readItem 28 = .ok (.iconst 1, 1) := by decide +kernel
theorem dX0_readItem_29 : decode cX0_readItem 29 = .ok (.goto 4, 3) := by decide +kernel
theorem dX0_readItem_32 : decode cX0_readItem 32 = .ok (.iconst 0, 1) := by decide +kernel
theorem dX0_readItem_33 : decode cX0_readItem 33 = .ok (.invokevirtual 46, 3) := by decide +kernel
theorem dX0_readItem_36 : decode cX0_readItem 36 = .ok (.ifCond .eq 15, 3) := by decide +kernel
theorem dX0_readItem_39 : decode cX0_readItem 39 = .ok (.aload_n 0, 1) := by decide +kernel
theorem dX0_readItem_40 : decode cX0_readItem 40 = .ok (.aload_n 1, 1) := by decide +kernel
theorem dX0_readItem_41 : decode cX0_readItem 41 = .ok (.invokevirtual 50, 3) := by decide +kernel
theorem dX0_readItem_44 : decode cX0_readItem 44 = .ok (.ifCond .eq 7, 3) := by decide +kernel
theorem dX0_readItem_47 : decode cX0_readItem 47 = .ok (.iconst 1, 1) := by decide +kernel
theorem dX0_readItem_48 : decode cX0_readItem 48 = .ok (.goto 4, 3) := by decide +kernel
theorem dX0_readItem_51 : decode cX0_readItem 51 = .ok (.iconst 0, 1) := by decide +kernel
theorem dX0_readItem_52 : decode cX0_readItem 52 = .ok (.ireturn, 1) := by decide +kernel
theorem dX0_readItem_53 : decode cX0_readItem 53 = .ok (.iload_n 2, 1) := by decide +kernel
theorem dX0_readItem_54 : decode cX0_readItem 54 = .ok (.bipush 118, 2) := by decide +kernel
theorem dX0_readItem_56 : decode cX0_readItem 56 = .ok (.if_icmp .ne 39, 3) := by decide +kernel
theorem dX0_readItem_59 : decode cX0_readItem 59 = .ok (.aload_n 0, 1) := by decide +kernel
theorem dX0_readItem_60 : decode cX0_readItem 60 = .ok (.aload_n 1, 1) := by decide +kernel
theorem dX0_readItem_61 : decode cX0_readItem 61 = .ok (.iconst 2, 1) := by decide +kernel
theorem dX0_readItem_62 : decode cX0_readItem 62 = .ok (.aload_n 1, 1) := by decide +kernel
theorem dX0_readItem_63 : decode cX0_readItem 63 = .ok (.getfield 53, 3) := by decide +kernel
theorem dX0_readItem_66 : decode cX0_readItem 66 = .ok (.iconst 4, 1) := by decide +kernel
theorem dX0_readItem_67 : decode cX0_readItem 67 = .ok (.if_icmp .ge 7, 3) := by decide +kernel
theorem dX0_readItem_70 : decode cX0_readItem 70 = .ok (.iconst 1, 1) := by decide +kernel
theorem dX0_readItem_71 : decode cX0_readItem 71 = .ok (.goto 4, 3) := by decide +kernel
theorem dX0_readItem_74 : decode cX0_readItem 74 = .ok (.iconst 0, 1) := by decide +kernel
theorem dX0_readItem_75 : decode cX0_readItem 75 = .ok (.invokevirtual 46, 3) := by decide +kernel
theorem dX0_readItem_78 : decode cX0_readItem 78 = .ok (.ifCond .eq 15, 3) := by decide +kernel
theorem dX0_readItem_81 : decode cX0_readItem 81 = .ok (.aload_n 0, 1) := by decide +kernel
theorem dX0_readItem_82 : decode cX0_readItem 82 = .ok (.aload_n 1, 1) := by decide +kernel
theorem dX0_readItem_83 : decode cX0_readItem 83 = .ok (.invokevirtual 56, 3) := by decide +kernel
theorem dX0_readItem_86 : decode cX0_readItem 86 = .ok (.ifCond .eq 7, 3) := by decide +kernel
theorem dX0_readItem_89 : decode cX0_readItem 89 = .ok (.iconst 1, 1) := by decide +kernel
theorem dX0_readItem_90 : decode cX0_readItem 90 = .ok (.goto 4, 3) := by decide +kernel
theorem dX0_readItem_93 : decode cX0_readItem 93 = .ok (.iconst 0, 1) := by decide +kernel
theorem dX0_readItem_94 : decode cX0_readItem 94 = .ok (.ireturn, 1) := by decide +kernel
theorem dX0_readItem_95 : decode cX0_readItem 95 = .ok (.iload_n 2, 1) := by decide +kernel
theorem dX0_readItem_96 : decode cX0_readItem 96 = .ok (.bipush 107, 2) := by decide +kernel
theorem dX0_readItem_98 : decode cX0_readItem 98 = .ok (.if_icmp .ne 39, 3) := by decide +kernel
theorem dX0_readItem_101 : decode cX0_readItem 101 = .ok (.aload_n 0, 1) := by decide +kernel
theorem dX0_readItem_102 : decode cX0_readItem 102 = .ok (.aload_n 1, 1) := by decide +kernel
theorem dX0_readItem_103 : decode cX0_readItem 103 = .ok (.iconst 3, 1) := by decide +kernel
theorem dX0_readItem_104 : decode cX0_readItem 104 = .ok (.aload_n 0, 1) := by decide +kernel
theorem dX0_readItem_105 : decode cX0_readItem 105 = .ok (.getfield 22, 3) := by decide +kernel
theorem dX0_readItem_108 : decode cX0_readItem 108 = .ok (.iconst 3, 1) := by decide +kernel
theorem dX0_readItem_109 : decode cX0_readItem 109 = .ok (.if_icmp .eq 7, 3) := by decide +kernel
theorem dX0_readItem_112 : decode cX0_readItem 112 = .ok (.iconst 1, 1) := by decide +kernel
theorem dX0_readItem_113 : decode cX0_readItem 113 = .ok (.goto 4, 3) := by decide +kernel
theorem dX0_readItem_116 : decode cX0_readItem 116 = .ok (.iconst 0, 1) := by decide +kernel
theorem dX0_readItem_117 : decode cX0_readItem 117 = .ok (.invokevirtual 46, 3) := by decide +kernel
theorem dX0_readItem_120 : decode cX0_readItem 120 = .ok (.ifCond .eq 15, 3) := by decide +kernel
theorem dX0_readItem_123 : decode cX0_readItem 123 = .ok (.aload_n 0, 1) := by decide +kernel
theorem dX0_readItem_124 : decode cX0_readItem 124 = .ok (.aload_n 1, 1) := by decide +kernel
theorem dX0_readItem_125 : decode cX0_readItem 125 = .ok (.invokevirtual 59, 3) := by decide +kernel
theorem dX0_readItem_128 : decode cX0_readItem 128 = .ok (.ifCond .eq 7, 3) := by decide +kernel
theorem dX0_readItem_131 : decode cX0_readItem 131 = .ok (.iconst 1, 1) := by decide +kernel
theorem dX0_readItem_132 : decode cX0_readItem 132 = .ok (.goto 4, 3) := by decide +kernel
theorem dX0_readItem_135 : decode cX0_readItem 135 = .ok (.iconst 0, 1) := by decide +kernel
theorem dX0_readItem_136 : decode cX0_readItem 136 = .ok (.ireturn, 1) := by decide +kernel
theorem dX0_readItem_137 : decode cX0_readItem 137 = .ok (.iload_n 2, 1) := by decide +kernel
theorem dX0_readItem_138 : decode cX0_readItem 138 = .ok (.invokestatic 62, 3) := by decide +kernel
theorem dX0_readItem_141 : decode cX0_readItem 141 = .ok (.istore_n 3, 1) := by decide +kernel
theorem dX0_readItem_142 : decode cX0_readItem 142 = .ok (.iload_n 3, 1) := by decide +kernel
theorem dX0_readItem_143 : decode cX0_readItem 143 = .ok (.bipush (-9), 2) := by decide +kernel
theorem dX0_readItem_145 : decode cX0_readItem 145 = .ok (.if_icmp .eq 19, 3) := by decide +kernel
theorem dX0_readItem_148 : decode cX0_readItem 148 = .ok (.aload_n 0, 1) := by decide +kernel
theorem dX0_readItem_149 : decode cX0_readItem 149 = .ok (.getfield 22, 3) := by decide +kernel
theorem dX0_readItem_152 : decode cX0_readItem 152 = .ok (.ifCond .ne 12, 3) := by decide +kernel
theorem dX0_readItem_155 : decode cX0_readItem 155 = .ok (.aload_n 1, 1) := by decide +kernel
theorem dX0_readItem_156 : decode cX0_readItem 156 = .ok (.getfield 66, 3) := by decide +kernel
theorem dX0_readItem_159 : decode cX0_readItem 159 = .ok (.bipush 8, 2) := by decide +kernel
theorem dX0_readItem_161 : decode cX0_readItem 161 = .ok (.if_icmp .lt 5, 3) := by decide +kernel
theorem dX0_readItem_164 : decode cX0_readItem 164 = .ok (.iconst 0, 1) := by decide +kernel
theorem dX0_readItem_165 : decode cX0_readItem 165 = .ok (.ireturn, 1) := by decide +kernel
theorem dX0_readItem_166 : decode cX0_readItem 166 = .ok (.aload_n 1, 1) := by decide +kernel
theorem dX0_readItem_167 : decode cX0_readItem 167 = .ok (.iload_n 3, 1) := by decide +kernel
theorem dX0_readItem_168 : decode cX0_readItem 168 = .ok (.invokevirtual 69, 3) := by decide +kernel
theorem dX0_readItem_171 : decode cX0_readItem 171 = .ok (.aload_n 0, 1) := by decide +kernel
theorem dX0_readItem_172 : decode cX0_readItem 172 = .ok (.dup, 1) := by decide +kernel
theorem dX0_readItem_173 : decode cX0_readItem 173 = .ok (.getfield 19, 3) := by decide +kernel
theorem dX0_readItem_176 : decode cX0_readItem 176 = .ok (.iconst 1, 1) := by decide +kernel
theorem dX0_readItem_177 : decode cX0_readItem 177 = .ok (.iadd, 1) := by decide +kernel
theorem dX0_readItem_178 : decode cX0_readItem 178 = .ok (.putfield 19, 3) := by decide +kernel
theorem dX0_readItem_181 : decode cX0_readItem 181 = .ok (.iconst 1, 1) := by decide +kernel
theorem dX0_readItem_182 : decode cX0_readItem 182 = .ok (.ireturn, 1) := by decide +kernel
theorem dX0_kindOf_0 : decode cX0_kindOf 0 = .ok (.iconst 0, 1) := by decide +kernel
theorem dX0_kindOf_1 : decode cX0_kindOf 1 = .ok (.istore_n 1, 1) := by decide +kernel
theorem dX0_kindOf_2 : decode cX0_kindOf 2 = .ok (.iload_n 1, 1) := by decide +kernel
theorem dX0_kindOf_3 : decode cX0_kindOf 3 = .ok (.bipush 6, 2) := by decide +kernel
theorem dX0_kindOf_5 : decode cX0_kindOf 5 = .ok (.if_icmp .ge 20, 3) := by decide +kernel
theorem dX0_kindOf_8 : decode cX0_kindOf 8 = .ok (.getstatic 73, 3) := by decide +kernel
theorem dX0_kindOf_11 : decode cX0_kindOf 11 = .ok (.iload_n 1, 1) := by decide +kernel
theorem dX0_kindOf_12 : decode cX0_kindOf 12 = .ok (.iaload, 1) := by decide +kernel
theorem dX0_kindOf_13 : decode cX0_kindOf 13 = .ok (.iload_n 0, 1) := by decide +kernel
theorem dX0_kindOf_14 : decode cX0_kindOf 14 = .ok (.if_icmp .ne 5, 3) := by decide +kernel
theorem dX0_kindOf_17 : decode cX0_kindOf 17 = .ok (.iload_n 1, 1) := by decide +kernel
theorem dX0_kindOf_18 : decode cX0_kindOf 18 = .ok (.ireturn, 1) := by decide +kernel
theorem dX0_kindOf_19 : decode cX0_kindOf 19 = .ok (.iinc 1 1, 3) := by decide +kernel
theorem dX0_kindOf_22 : decode cX0_kindOf 22 = .ok (.goto (-20), 3) := by decide +kernel
theorem dX0_kindOf_25 : decode cX0_kindOf 25 = .ok (.bipush (-9), 2) := by decide +kernel
theorem dX0_kindOf_27 : decode cX0_kindOf 27 = .ok (.ireturn, 1) := by decide +kernel
theorem dX0_startsItem_0 : decode cX0_startsItem 0 = .ok (.aload_n 1, 1) := by decide +kernel
theorem dX0_startsItem_1 : decode cX0_startsItem 1 = .ok (.getfield 66, 3) := by decide +kernel
theorem dX0_startsItem_4 : decode cX0_startsItem 4 = .ok (.iconst 2, 1) := by decide +kernel
theorem dX0_startsItem_5 : decode cX0_startsItem 5 = .ok (.if_icmp .lt 15, 3) := by decide +kernel
theorem dX0_startsItem_8 : decode cX0_startsItem 8 = .ok (.aload_n 0, 1) := by decide +kernel
theorem dX0_startsItem_9 : decode cX0_startsItem 9 = .ok (.getfield 22, 3) := by decide +kernel
theorem dX0_startsItem_12 : decode cX0_startsItem 12 = .ok (.iload_n 2, 1) := by decide +kernel
theorem dX0_startsItem_13 : decode cX0_startsItem 13 = .ok (.if_icmp .gt 7, 3) := by decide +kernel
theorem dX0_startsItem_16 : decode cX0_startsItem 16 = .ok (.iload_n 3, 1) := by decide +kernel
theorem dX0_startsItem_17 : decode cX0_startsItem 17 = .ok (.ifCond .ne 5, 3) := by decide +kernel
theorem dX0_startsItem_20 : decode cX0_startsItem 20 = .ok (.iconst 0, 1) := by decide +kernel
theorem dX0_startsItem_21 : decode cX0_startsItem 21 = .ok (.ireturn, 1) := by decide +kernel
theorem dX0_startsItem_22 : decode cX0_startsItem 22 = .ok (.aload_n 0, 1) := by decide +kernel
theorem dX0_startsItem_23 : decode cX0_startsItem 23 = .ok (.iload_n 2, 1) := by decide +kernel
theorem dX0_startsItem_24 : decode cX0_startsItem 24 = .ok (.putfield 22, 3) := by decide +kernel
theorem dX0_startsItem_27 : decode cX0_startsItem 27 = .ok (.aload_n 0, 1) := by decide +kernel
theorem dX0_startsItem_28 : decode cX0_startsItem 28 = .ok (.dup, 1) := by decide +kernel
theorem dX0_startsItem_29 : decode cX0_startsItem 29 = .ok (.getfield 19, 3) := by decide +kernel
theorem dX0_startsItem_32 : decode cX0_startsItem 32 = .ok (.iconst 1, 1) := by decide +kernel
theorem dX0_startsItem_33 : decode cX0_startsItem 33 = .ok (.iadd, 1) := by decide +kernel
theorem dX0_startsItem_34 : decode cX0_startsItem 34 = .ok (.putfield 19, 3) := by decide +kernel
theorem dX0_startsItem_37 : decode cX0_startsItem 37 = .ok (.iconst 1, 1) := by decide +kernel
theorem dX0_startsItem_38 : decode cX0_startsItem 38 = .ok (.ireturn, 1) := by decide +kernel
theorem dX0_figureBelow_0 : decode cX0_figureBelow 0 = .ok (.aload_n 0, 1) := by decide +kernel
theorem dX0_figureBelow_1 : decode cX0_figureBelow 1 = .ok (.getfield 19, 3) := by decide +kernel
theorem dX0_figureBelow_4 : decode cX0_figureBelow 4 = .ok (.aload_n 0, 1) := by decide +kernel
theorem dX0_figureBelow_5 : decode cX0_figureBelow 5 = .ok (.getfield 15, 3) := by decide +kernel
theorem dX0_figureBelow_8 : decode cX0_figureBelow 8 = .ok (.if_icmp .lt 6, 3) := by decide +kernel
theorem dX0_figureBelow_11 : decode cX0_figureBelow 11 = .ok (.bipush (-9), 2) := by decide +kernel
theorem dX0_figureBelow_13 : decode cX0_figureBelow 13 = .ok (.ireturn, 1) := by decide +kernel
theorem dX0_figureBelow_14 : decode cX0_figureBelow 14 = .ok (.aload_n 0, 1) := by decide +kernel
theorem dX0_figureBelow_15 : decode cX0_figureBelow 15 = .ok (.getfield 9, 3) := by decide +kernel
theorem dX0_figureBelow_18 : decode cX0_figureBelow 18 = .ok (.aload_n 0, 1) := by decide +kernel
theorem dX0_figureBelow_19 : decode cX0_figureBelow 19 = .ok (.getfield 19, 3) := by decide +kernel
theorem dX0_figureBelow_22 : decode cX0_figureBelow 22 = .ok (.iaload, 1) := by decide +kernel
theorem dX0_figureBelow_23 : decode cX0_figureBelow 23 = .ok (.bipush 48, 2) := by decide +kernel
theorem dX0_figureBelow_25 : decode cX0_figureBelow 25 = .ok (.isub, 1) := by decide +kernel
theorem dX0_figureBelow_26 : decode cX0_figureBelow 26 = .ok (.istore_n 2, 1) := by decide +kernel
theorem dX0_figureBelow_27 : decode cX0_figureBelow 27 = .ok (.iload_n 2, 1) := by decide +kernel
theorem dX0_figureBelow_28 : decode cX0_figureBelow 28 = .ok (.iload_n 1, 1) := by decide +kernel
theorem dX0_figureBelow_29 : decode cX0_figureBelow 29 = .ok (.invokestatic 76, 3) := by decide +kernel
theorem dX0_figureBelow_32 : decode cX0_figureBelow 32 = .ok (.ifCond .eq 7, 3) := by decide +kernel
theorem dX0_figureBelow_35 : decode cX0_figureBelow 35 = .ok (.iload_n 2, 1) := by decide +kernel
theorem dX0_figureBelow_36 : decode cX0_figureBelow 36 = .ok (.goto 5, 3) := by decide +kernel
theorem dX0_figureBelow_39 : decode cX0_figureBelow 39 = .ok (.bipush (-9), 2) := by decide +kernel
theorem dX0_figureBelow_41 : decode cX0_figureBelow 41 = .ok (.ireturn, 1) := by decide +kernel
theorem dX0_readPath_0 : decode cX0_readPath 0 = .ok (.aload_n 0, 1) := by decide +kernel
theorem dX0_readPath_1 : decode cX0_readPath 1 = .ok (.aload_n 1, 1) := by decide +kernel
theorem dX0_readPath_2 : decode cX0_readPath 2 = .ok (.getfield 66, 3) := by decide +kernel
theorem dX0_readPath_5 : decode cX0_readPath 5 = .ok (.invokevirtual 80, 3) := by decide +kernel
theorem dX0_readPath_8 : decode cX0_readPath 8 = .ok (.istore_n 2, 1) := by decide +kernel
theorem dX0_readPath_9 : decode cX0_readPath 9 = .ok (.iload_n 2, 1) := by decide +kernel
theorem dX0_readPath_10 : decode cX0_readPath 10 = .ok (.bipush (-9), 2) := by decide +kernel
theorem dX0_readPath_12 : decode cX0_readPath 12 = .ok (.if_icmp .ne 5, 3) := by decide +kernel
theorem dX0_readPath_15 : decode cX0_readPath 15 = .ok (.iconst 0, 1) := by decide +kernel
theorem dX0_readPath_16 : decode cX0_readPath 16 = .ok (.ireturn, 1) := by decide +kernel
theorem dX0_readPath_17 : decode cX0_readPath 17 = .ok (.aload_n 0, 1) := by decide +kernel
theorem dX0_readPath_18 : decode cX0_readPath 18 = .ok (.dup, 1) := by decide +kernel
theorem dX0_readPath_19 : decode cX0_readPath 19 = .ok (.getfield 19, 3) := by decide +kernel
theorem dX0_readPath_22 : decode cX0_readPath 22 = .ok (.iconst 1, 1) := by decide +kernel
theorem dX0_readPath_23 : decode cX0_readPath 23 = .ok (.iadd, 1) := by decide +kernel
theorem dX0_readPath_24 : decode cX0_readPath 24 = .ok (.putfield 19, 3) := by decide +kernel
theorem dX0_readPath_27 : decode cX0_readPath 27 = .ok (.aload_n 0, 1) := by decide +kernel
theorem dX0_readPath_28 : decode cX0_readPath 28 = .ok (.aload_n 1, 1) := by decide +kernel
theorem dX0_readPath_29 : decode cX0_readPath 29 = .ok (.getfield 66, 3) := by decide +kernel
theorem dX0_readPath_32 : decode cX0_readPath 32 = .ok (.invokevirtual 80, 3) := by decide +kernel
theorem dX0_readPath_35 : decode cX0_readPath 35 = .ok (.istore_n 3, 1) := by decide +kernel
theorem dX0_readPath_36 : decode cX0_readPath 36 = .ok (.iload_n 3, 1) := by decide +kernel
theorem dX0_readPath_37 : decode cX0_readPath 37 = .ok (.bipush (-9), 2) := by decide +kernel
theorem dX0_readPath_39 : decode cX0_readPath 39 = .ok (.if_icmp .eq 17, 3) := by decide +kernel
theorem dX0_readPath_42 : decode cX0_readPath 42 = .ok (.iload_n 3, 1) := by decide +kernel
theorem dX0_readPath_43 : decode cX0_readPath 43 = .ok (.iload_n 2, 1) := by decide +kernel
theorem dX0_readPath_44 : decode cX0_readPath 44 = .ok (.if_icmp .eq 12, 3) := by decide +kernel
theorem dX0_readPath_47 : decode cX0_readPath 47 = .ok (.aload_n 1, 1) := by decide +kernel
theorem dX0_readPath_48 : decode cX0_readPath 48 = .ok (.iload_n 2, 1) := by decide +kernel
theorem dX0_readPath_49 : decode cX0_readPath 49 = .ok (.iload_n 3, 1) := by decide +kernel
theorem dX0_readPath_50 : decode cX0_readPath 50 = .ok (.invokevirtual 83, 3) := by decide +kernel
theorem dX0_readPath_53 : decode cX0_readPath 53 = .ok (.ifCond .eq 5, 3) := by decide +kernel
theorem dX0_readPath_56 : decode cX0_readPath 56 = .ok (.iconst 0, 1) := by decide +kernel
theorem dX0_readPath_57 : decode cX0_readPath 57 = .ok (.ireturn, 1) := by decide +kernel
theorem dX0_readPath_58 : decode cX0_readPath 58 = .ok (.aload_n 0, 1) := by decide +kernel
theorem dX0_readPath_59 : decode cX0_readPath 59 = .ok (.dup, 1) := by decide +kernel
theorem dX0_readPath_60 : decode cX0_readPath 60 = .ok (.getfield 19, 3) := by decide +kernel
theorem dX0_readPath_63 : decode cX0_readPath 63 = .ok (.iconst 1, 1) := by decide +kernel
theorem dX0_readPath_64 : decode cX0_readPath 64 = .ok (.iadd, 1) := by decide +kernel
theorem dX0_readPath_65 : decode cX0_readPath 65 = .ok (.putfield 19, 3) := by decide +kernel
theorem dX0_readPath_68 : decode cX0_readPath 68 = .ok (.aload_n 0, 1) := by decide +kernel
theorem dX0_readPath_69 : decode cX0_readPath 69 = .ok (.dup, 1) := by decide +kernel
theorem dX0_readPath_70 : decode cX0_readPath 70 = .ok (.getfield 25, 3) := by decide +kernel
theorem dX0_readPath_73 : decode cX0_readPath 73 = .ok (.iconst 1, 1) := by decide +kernel
theorem dX0_readPath_74 : decode cX0_readPath 74 = .ok (.iadd, 1) := by decide +kernel
theorem dX0_readPath_75 : decode cX0_readPath 75 = .ok (.putfield 25, 3) := by decide +kernel
theorem dX0_readPath_78 : decode cX0_readPath 78 = .ok (.aload_n 1, 1) := by decide +kernel
theorem dX0_readPath_79 : decode cX0_readPath 79 = .ok (.iload_n 2, 1) := by decide +kernel
theorem dX0_readPath_80 : decode cX0_readPath 80 = .ok (.iload_n 3, 1) := by decide +kernel
theorem dX0_readPath_81 : decode cX0_readPath 81 = .ok (.iconst 1, 1) := by decide +kernel
theorem dX0_readPath_82 : decode cX0_readPath 82 = .ok (.invokevirtual 86, 3) := by decide +kernel
theorem dX0_readPath_85 : decode cX0_readPath 85 = .ok (.iconst 1, 1) := by decide +kernel
theorem dX0_readPath_86 : decode cX0_readPath 86 = .ok (.ireturn, 1) := by decide +kernel
theorem dX0_readBird_0 : decode cX0_readBird 0 = .ok (.aload_n 0, 1) := by decide +kernel
theorem dX0_readBird_1 : decode cX0_readBird 1 = .ok (.aload_n 1, 1) := by decide +kernel
theorem dX0_readBird_2 : decode cX0_readBird 2 = .ok (.getfield 66, 3) := by decide +kernel
theorem dX0_readBird_5 : decode cX0_readBird 5 = .ok (.invokevirtual 80, 3) := by decide +kernel
theorem dX0_readBird_8 : decode cX0_readBird 8 = .ok (.istore_n 2, 1) := by decide +kernel
theorem dX0_readBird_9 : decode cX0_readBird 9 = .ok (.iload_n 2, 1) := by decide +kernel
theorem dX0_readBird_10 : decode cX0_readBird 10 = .ok (.bipush (-9), 2) := by decide +kernel
theorem dX0_readBird_12 : decode cX0_readBird 12 = .ok (.if_icmp .ne 5, 3) := by decide +kernel
theorem dX0_readBird_15 : decode cX0_readBird 15 = .ok (.iconst 0, 1) := by decide +kernel
theorem dX0_readBird_16 : decode cX0_readBird 16 = .ok (.ireturn, 1) := by decide +kernel
theorem dX0_readBird_17 : decode cX0_readBird 17 = .ok (.aload_n 0, 1) := by decide +kernel
theorem dX0_readBird_18 : decode cX0_readBird 18 = .ok (.dup, 1) := by decide +kernel
theorem dX0_readBird_19 : decode cX0_readBird 19 = .ok (.getfield 19, 3) := by decide +kernel
theorem dX0_readBird_22 : decode cX0_readBird 22 = .ok (.iconst 1, 1) := by decide +kernel
theorem dX0_readBird_23 : decode cX0_readBird 23 = .ok (.iadd, 1) := by decide +kernel
theorem dX0_readBird_24 : decode cX0_readBird 24 = .ok (.putfield 19, 3) := by decide +kernel
theorem dX0_readBird_27 : decode cX0_readBird 27 = .ok (.aload_n 1, 1) := by decide +kernel
theorem dX0_readBird_28 : decode cX0_readBird 28 = .ok (.iload_n 2, 1) := by decide +kernel
theorem dX0_readBird_29 : decode cX0_readBird 29 = .ok (.invokevirtual 90, 3) := by decide +kernel
theorem dX0_readBird_32 : decode cX0_readBird 32 = .ok (.iconst 1, 1) := by decide +kernel
theorem dX0_readBird_33 : decode cX0_readBird 33 = .ok (.ireturn, 1) := by decide +kernel
theorem dX0_readPockets_0 : decode cX0_readPockets 0 = .ok (.iconst 0, 1) := by decide +kernel
theorem dX0_readPockets_1 : decode cX0_readPockets 1 = .ok (.istore_n 2, 1) := by decide +kernel
theorem dX0_readPockets_2 : decode cX0_readPockets 2 = .ok (.iload_n 2, 1) := by decide +kernel
theorem dX0_readPockets_3 : decode cX0_readPockets 3 = .ok (.iconst 3, 1) := by decide +kernel
theorem dX0_readPockets_4 : decode cX0_readPockets 4 = .ok (.if_icmp .ge 41, 3) := by decide +kernel
theorem dX0_readPockets_7 : decode cX0_readPockets 7 = .ok (.aload_n 0, 1) := by decide +kernel
theorem dX0_readPockets_8 : decode cX0_readPockets 8 = .ok (.bipush 10, 2) := by decide +kernel
theorem dX0_readPockets_10 : decode cX0_readPockets 10 = .ok (.invokevirtual 80, 3) := by decide +kernel
theorem dX0_readPockets_13 : decode cX0_readPockets 13 = .ok (.istore_n 3, 1) := by decide +kernel
theorem dX0_readPockets_14 : decode cX0_readPockets 14 = .ok (.iload_n 3, 1) := by decide +kernel
theorem dX0_readPockets_15 : decode cX0_readPockets 15 = .ok (.bipush (-9), 2) := by decide +kernel
theorem dX0_readPockets_17 : decode cX0_readPockets 17 = .ok (.if_icmp .ne 5, 3) := by decide +kernel
theorem dX0_readPockets_20 : decode cX0_readPockets 20 = .ok (.iconst 0, 1) := by decide +kernel
theorem dX0_readPockets_21 : decode cX0_readPockets 21 = .ok (.ireturn, 1) := by decide +kernel
theorem dX0_readPockets_22 : decode cX0_readPockets 22 = .ok (.aload_n 0, 1) := by decide +kernel
theorem dX0_readPockets_23 : decode cX0_readPockets 23 = .ok (.dup, 1) := by decide +kernel
theorem dX0_readPockets_24 : decode cX0_readPockets 24 = .ok (.getfield 19, 3) := by decide +kernel
theorem dX0_readPockets_27 : decode cX0_readPockets 27 = .ok (.iconst 1, 1) := by decide +kernel
theorem dX0_readPockets_28 : decode cX0_readPockets 28 = .ok (.iadd, 1) := by decide +kernel
theorem dX0_readPockets_29 : decode cX0_readPockets 29 = .ok (.putfield 19, 3) := by decide +kernel
theorem dX0_readPockets_32 : decode cX0_readPockets 32 = .ok (.aload_n 1, 1) := by decide +kernel
theorem dX0_readPockets_33 : decode cX0_readPockets 33 = .ok (.getfield 93, 3) := by decide +kernel
theorem dX0_readPockets_36 : decode cX0_readPockets 36 = .ok (.iload_n 2, 1) := by decide +kernel
theorem dX0_readPockets_37 : decode cX0_readPockets 37 = .ok (.iload_n 3, 1) := by decide +kernel
theorem dX0_readPockets_38 : decode cX0_readPockets 38 = .ok (.iastore, 1) := by decide +kernel
theorem dX0_readPockets_39 : decode cX0_readPockets 39 = .ok (.iinc 2 1, 3) := by decide +kernel
theorem dX0_readPockets_42 : decode cX0_readPockets 42 = .ok (.goto (-40), 3) := by decide +kernel
theorem dX0_readPockets_45 : decode cX0_readPockets 45 = .ok (.iconst 1, 1) := by decide +kernel
theorem dX0_readPockets_46 : decode cX0_readPockets 46 = .ok (.ireturn, 1) := by decide +kernel
theorem dX1_init_0 : decode cX1_init 0 = .ok (.aload_n 0, 1) := by decide +kernel
theorem dX1_init_1 : decode cX1_init 1 = .ok (.invokespecial 3, 3) := by decide +kernel
theorem dX1_init_4 : decode cX1_init 4 = .ok (.aload_n 0, 1) := by decide +kernel
theorem dX1_init_5 : decode cX1_init 5 = .ok (.bipush 8, 2) := by decide +kernel
theorem dX1_init_7 : decode cX1_init 7 = .ok (.newarray .int, 2) := by decide +kernel
theorem dX1_init_9 : decode cX1_init 9 = .ok (.putfield 9, 3) := by decide +kernel
theorem dX1_init_12 : decode cX1_init 12 = .ok (.aload_n 0, 1) := by decide +kernel
theorem dX1_init_13 : decode cX1_init 13 = .ok (.iconst 0, 1) := by decide +kernel
theorem dX1_init_14 : decode cX1_init 14 = .ok (.putfield 15, 3) := by decide +kernel
theorem dX1_init_17 : decode cX1_init 17 = .ok (.aload_n 0, 1) := by decide +kernel
theorem dX1_init_18 : decode cX1_init 18 = .ok (.iconst 0, 1) := by decide +kernel
theorem dX1_init_19 : decode cX1_init 19 = .ok (.putfield 19, 3) := by decide +kernel
theorem dX1_init_22 : decode cX1_init 22 = .ok (.aload_n 0, 1) := by decide +kernel
theorem dX1_init_23 : decode cX1_init 23 = .ok (.iconst 0, 1) := by decide +kernel
theorem dX1_init_24 : decode cX1_init 24 = .ok (.putfield 22, 3) := by decide +kernel
theorem dX1_init_27 : decode cX1_init 27 = .ok (.aload_n 0, 1) := by decide +kernel
theorem dX1_init_28 : decode cX1_init 28 = .ok (.iconst 0, 1) := by decide +kernel
theorem dX1_init_29 : decode cX1_init 29 = .ok (.putfield 25, 3) := by decide +kernel
theorem dX1_init_32 : decode cX1_init 32 = .ok (.aload_n 0, 1) := by decide +kernel
theorem dX1_init_33 : decode cX1_init 33 = .ok (.iconst 0, 1) := by decide +kernel
theorem dX1_init_34 : decode cX1_init 34 = .ok (.putfield 28, 3) := by decide +kernel
theorem dX1_init_37 : decode cX1_init 37 = .ok (.aload_n 0, 1) := by decide +kernel
theorem dX1_init_38 : decode cX1_init 38 = .ok (.iconst 0, 1) := by decide +kernel
theorem dX1_init_39 : decode cX1_init 39 = .ok (.putfield 31, 3) := by decide +kernel
theorem dX1_init_42 : decode cX1_init 42 = .ok (.aload_n 0, 1) := by decide +kernel
theorem dX1_init_43 : decode cX1_init 43 = .ok (.bipush 8, 2) := by decide +kernel
theorem dX1_init_45 : decode cX1_init 45 = .ok (.newarray .int, 2) := by decide +kernel
theorem dX1_init_47 : decode cX1_init 47 = .ok (.putfield 34, 3) := by decide +kernel
theorem dX1_init_50 : decode cX1_init 50 = .ok (.aload_n 0, 1) := by decide +kernel
theorem dX1_init_51 : decode cX1_init 51 = .ok (.iconst 0, 1) := by decide +kernel
theorem dX1_init_52 : decode cX1_init 52 = .ok (.putfield 37, 3) := by decide +kernel
theorem dX1_init_55 : decode cX1_init 55 = .ok (.return_, 1) := by decide +kernel
theorem dX1_look_0 : decode cX1_look 0 = .ok (.aload_n 0, 1) := by decide +kernel
theorem dX1_look_1 : decode cX1_look 1 = .ok (.aload_n 1, 1) := by decide +kernel
theorem dX1_look_2 : decode cX1_look 2 = .ok (.getfield 40, 3) := by decide +kernel
theorem dX1_look_5 : decode cX1_look 5 = .ok (.putfield 9, 3) := by decide +kernel
theorem dX1_look_8 : decode cX1_look 8 = .ok (.aload_n 0, 1) := by decide +kernel
theorem dX1_look_9 : decode cX1_look 9 = .ok (.aload_n 1, 1) := by decide +kernel
theorem dX1_look_10 : decode cX1_look 10 = .ok (.getfield 43, 3) := by decide +kernel
theorem dX1_look_13 : decode cX1_look 13 = .ok (.putfield 15, 3) := by decide +kernel
theorem dX1_look_16 : decode cX1_look 16 = .ok (.aload_n 0, 1) := by decide +kernel
theorem dX1_look_17 : decode cX1_look 17 = .ok (.aload_n 1, 1) := by decide +kernel
theorem dX1_look_18 : decode cX1_look 18 = .ok (.getfield 44, 3) := by decide +kernel
theorem dX1_look_21 : decode cX1_look 21 = .ok (.iconst 5, 1) := by decide +kernel
theorem dX1_look_22 : decode cX1_look 22 = .ok (.iaload, 1) := by decide +kernel
theorem dX1_look_23 : decode cX1_look 23 = .ok (.putfield 19, 3) := by decide +kernel
theorem dX1_look_26 : decode cX1_look 26 = .ok (.aload_n 0, 1) := by decide +kernel
theorem dX1_look_27 : decode cX1_look 27 = .ok (.aload_n 1, 1) := by decide +kernel
theorem dX1_look_28 : decode cX1_look 28 = .ok (.getfield 44, 3) := by decide +kernel
theorem dX1_look_31 : decode cX1_look 31 = .ok (.iconst 4, 1) := by decide +kernel
theorem dX1_look_32 : decode cX1_look 32 = .ok (.iaload, 1) := by decide +kernel
theorem dX1_look_33 : decode cX1_look 33 = .ok (.putfield 22, 3) := by decide +kernel
theorem dX1_look_36 : decode cX1_look 36 = .ok (.aload_n 0, 1) := by decide +kernel
theorem dX1_look_37 : decode cX1_look 37 = .ok (.iconst 0, 1) := by decide +kernel
theorem dX1_look_38 : decode cX1_look 38 = .ok (.putfield 25, 3) := by decide +kernel
theorem dX1_look_41 : decode cX1_look 41 = .ok (.aload_n 0, 1) := by decide +kernel
theorem dX1_look_42 : decode cX1_look 42 = .ok (.iconst 0, 1) := by decide +kernel
theorem dX1_look_43 : decode cX1_look 43 = .ok (.putfield 28, 3) := by decide +kernel
theorem dX1_look_46 : decode cX1_look 46 = .ok (.aload_n 0, 1) := by decide +kernel
theorem dX1_look_47 : decode cX1_look 47 = .ok (.iconst 0, 1) := by decide +kernel
theorem dX1_look_48 : decode cX1_look 48 = .ok (.putfield 31, 3) := by decide +kernel
theorem dX1_look_51 : decode cX1_look 51 = .ok (.iconst 0, 1) := by decide +kernel
theorem dX1_look_52 : decode cX1_look 52 = .ok (.istore_n 2, 1) := by decide +kernel
theorem dX1_look_53 : decode cX1_look 53 = .ok (.iload_n 2, 1) := by decide +kernel
theorem dX1_look_54 : decode cX1_look 54 = .ok (.aload_n 0, 1) := by decide +kernel
theorem dX1_look_55 : decode cX1_look 55 = .ok (.getfield 15, 3) := by decide +kernel
theorem dX1_look_58 : decode cX1_look 58 = .ok (.if_icmp .ge 61, 3) := by decide +kernel
theorem dX1_look_61 : decode cX1_look 61 = .ok (.aload_n 1, 1) := by decide +kernel
theorem dX1_look_62 : decode cX1_look 62 = .ok (.iload_n 2, 1) := by decide +kernel
theorem dX1_look_63 : decode cX1_look 63 = .ok (.invokevirtual 47, 3) := by decide +kernel
theorem dX1_look_66 : decode cX1_look 66 = .ok (.istore_n 3, 1) := by decide +kernel
theorem dX1_look_67 : decode cX1_look 67 = .ok (.aload_n 0, 1) := by decide +kernel
theorem dX1_look_68 : decode cX1_look 68 = .ok (.dup, 1) := by decide +kernel
theorem dX1_look_69 : decode cX1_look 69 = .ok (.getfield 25, 3) := by decide +kernel
theorem dX1_look_72 : decode cX1_look 72 = .ok (.iload_n 3, 1) := by decide +kernel
theorem dX1_look_73 : decode cX1_look 73 = .ok (.iconst 1, 1) := by decide +kernel
theorem dX1_look_74 : decode cX1_look 74 = .ok (.iand, 1) := by decide +kernel
theorem dX1_look_75 : decode cX1_look 75 = .ok (.iload_n 2, 1) := by decide +kernel
theorem dX1_look_76 : decode cX1_look 76 = .ok (.ishl, 1) := by decide +kernel
theorem dX1_look_77 : decode cX1_look 77 = .ok (.ior, 1) := by decide +kernel
theorem dX1_look_78 : decode cX1_look 78 = .ok (.putfield 25, 3) := by decide +kernel
theorem dX1_look_81 : decode cX1_look 81 = .ok (.aload_n 0, 1) := by decide +kernel
theorem dX1_look_82 : decode cX1_look 82 = .ok (.dup, 1) := by decide +kernel
theorem dX1_look_83 : decode cX1_look 83 = .ok (.getfield 28, 3) := by decide +kernel
theorem dX1_look_86 : decode cX1_look 86 = .ok (.iload_n 3, 1) := by decide +kernel
theorem dX1_look_87 : decode cX1_look 87 = .ok (.iconst 1, 1) := by decide +kernel
theorem dX1_look_88 : decode cX1_look 88 = .ok (.ishr, 1) := by decide +kernel
theorem dX1_look_89 : decode cX1_look 89 = .ok (.iconst 1, 1) := by decide +kernel
theorem dX1_look_90 : decode cX1_look 90 = .ok (.iand, 1) := by decide +kernel
theorem dX1_look_91 : decode cX1_look 91 = .ok (.iload_n 2, 1) := by decide +kernel
theorem dX1_look_92 : decode cX1_look 92 = .ok (.ishl, 1) := by decide +kernel
theorem dX1_look_93 : decode cX1_look 93 = .ok (.ior, 1) := by decide +kernel
theorem dX1_look_94 : decode cX1_look 94 = .ok (.putfield 28, 3) := by decide +kernel
theorem dX1_look_97 : decode cX1_look 97 = .ok (.aload_n 0, 1) := by decide +kernel
theorem dX1_look_98 : decode cX1_look 98 = .ok (.dup, 1) := by decide +kernel
theorem dX1_look_99 : decode cX1_look 99 = .ok (.getfield 31, 3) := by decide +kernel
theorem dX1_look_102 : decode cX1_look 102 = .ok (.iload_n 3, 1) := by decide +kernel
theorem dX1_look_103 : decode cX1_look 103 = .ok (.iconst 2, 1) := by decide +kernel
theorem dX1_look_104 : decode cX1_look 104 = .ok (.ishr, 1) := by decide +kernel
theorem dX1_look_105 : decode cX1_look 105 = .ok (.iconst 1, 1) := by decide +kernel
theorem dX1_look_106 : decode cX1_look 106 = .ok (.iand, 1) := by decide +kernel
theorem dX1_look_107 : decode cX1_look 107 = .ok (.iload_n 2, 1) := by decide +kernel
theorem dX1_look_108 : decode cX1_look 108 = .ok (.ishl, 1) := by decide +kernel
theorem dX1_look_109 : decode cX1_look 109 = .ok (.ior, 1) := by decide +kernel
theorem dX1_look_110 : decode cX1_look 110 = .ok (.putfield 31, 3) := by decide +kernel
theorem dX1_look_113 : decode cX1_look 113 = .ok (.iinc 2 1, 3) := by decide +kernel
theorem dX1_look_116 : decode cX1_look 116 = .ok (.goto (-63), 3) := by decide +kernel
theorem dX1_look_119 : decode cX1_look 119 = .ok (.return_, 1) := by decide +kernel
theorem dX1_findsHome_0 : decode cX1_findsHome 0 = .ok (.aload_n 0, 1) := by decide +kernel
theorem dX1_findsHome_1 : decode cX1_findsHome 1 = .ok (.aload_n 1, 1) := by decide +kernel
theorem dX1_findsHome_2 : decode cX1_findsHome 2 = .ok (.invokevirtual 51, 3) := by decide +kernel
theorem dX1_findsHome_5 : decode cX1_findsHome 5 = .ok (.aload_n 0, 1) := by decide +kernel
theorem dX1_findsHome_6 : decode cX1_findsHome 6 = .ok (.aload_n 1, 1) := by decide +kernel
theorem dX1_findsHome_7 : decode cX1_findsHome 7 = .ok (.invokevirtual 55, 3) := by decide +kernel
theorem dX1_findsHome_10 : decode cX1_findsHome 10 = .ok (.aload_n 0, 1) := by decide +kernel
theorem dX1_findsHome_11 : decode cX1_findsHome 11 = .ok (.getfield 28, 3) := by decide +kernel
theorem dX1_findsHome_14 : decode cX1_findsHome 14 = .ok (.aload_n 0, 1) := by decide +kernel
theorem dX1_findsHome_15 : decode cX1_findsHome 15 = .ok (.getfield 31, 3) := by decide +kernel
theorem dX1_findsHome_18 : decode cX1_findsHome 18 = .ok (.aload_n 0, 1) := by decide +kernel
theorem dX1_findsHome_19 : decode cX1_findsHome 19 = .ok (.getfield 25, 3) := by decide +kernel
theorem dX1_findsHome_22 : decode cX1_findsHome 22 = .ok (.invokevirtual 59, 3) := by decide +kernel
theorem dX1_findsHome_25 : decode cX1_findsHome 25 = .ok (.ireturn, 1) := by decide +kernel
theorem dX1_follow_0 : decode cX1_follow 0 = .ok (.iload_n 1, 1) := by decide +kernel
theorem dX1_follow_1 : decode cX1_follow 1 = .ok (.istore 5, 2) := by decide +kernel
theorem dX1_follow_3 : decode cX1_follow 3 = .ok (.iconst 1, 1) := by decide +kernel
theorem dX1_follow_4 : decode cX1_follow 4 = .ok (.iload_n 1, 1) := by decide +kernel
theorem dX1_follow_5 : decode cX1_follow 5 = .ok (.ishl, 1) := by decide +kernel
theorem dX1_follow_6 : decode cX1_follow 6 = .ok (.iconst (-1), 1) := by decide +kernel
theorem dX1_follow_7 : decode cX1_follow 7 = .ok (.ixor, 1) := by decide +kernel
theorem dX1_follow_8 : decode cX1_follow 8 = .ok (.istore 6, 2) := by decide +kernel
theorem dX1_follow_10 : decode cX1_follow 10 = .ok (.aload_n 0, 1) := by decide +kernel
theorem dX1_follow_11 : decode cX1_follow 11 = .ok (.getfield 34, 3) := by decide +kernel
theorem dX1_follow_14 : decode cX1_follow 14 = .ok (.iconst 0, 1) := by decide +kernel
theorem dX1_follow_15 : decode cX1_follow 15 = .ok (.iload_n 1, 1) := by decide +kernel
theorem dX1_follow_16 : decode cX1_follow 16 = .ok (.iastore, 1) := by decide +kernel
theorem dX1_follow_17 : decode cX1_follow 17 = .ok (.aload_n 0, 1) := by decide +kernel
theorem dX1_follow_18 : decode cX1_follow 18 = .ok (.iconst 0, 1) := by decide +kernel
theorem dX1_follow_19 : decode cX1_follow 19 = .ok (.putfield 37, 3) := by decide +kernel
theorem dX1_follow_22 : decode cX1_follow 22 = .ok (.iconst 1, 1) := by decide +kernel
theorem dX1_follow_23 : decode cX1_follow 23 = .ok (.istore 7, 2) := by decide +kernel
theorem dX1_follow_25 : decode cX1_follow 25 = .ok (.iload 7, 2) := by decide +kernel
theorem dX1_follow_27 : decode cX1_follow 27 = .ok (.bipush 8, 2) := by decide +kernel
theorem dX1_follow_29 : decode cX1_follow 29 = .ok (.if_icmp .ge 106, 3) := by decide +kernel
theorem dX1_follow_32 : decode cX1_follow 32 = .ok (.iload 5, 2) := by decide +kernel
theorem dX1_follow_34 : decode cX1_follow 34 = .ok (.ifCond .eq 101, 3) := by decide +kernel
theorem dX1_follow_37 : decode cX1_follow 37 = .ok (.aload_n 0, 1) := by decide +kernel
theorem dX1_follow_38 : decode cX1_follow 38 = .ok (.getfield 9, 3) := by decide +kernel
theorem dX1_follow_41 : decode cX1_follow 41 = .ok (.iload 5, 2) := by decide +kernel
theorem dX1_follow_43 : decode cX1_follow 43 = .ok (.iaload, 1) := by decide +kernel
theorem dX1_follow_44 : decode cX1_follow 44 = .ok (.iload 6, 2) := by decide +kernel
theorem dX1_follow_46 : decode cX1_follow 46 = .ok (.iand, 1) := by decide +kernel
theorem dX1_follow_47 : decode cX1_follow 47 = .ok (.istore 8, 2) := by decide +kernel
theorem dX1_follow_49 : decode cX1_follow 49 = .ok (.iload 8, 2) := by decide +kernel
theorem dX1_follow_51 : decode cX1_follow 51 = .ok (.iconst 1, 1) := by decide +kernel
theorem dX1_follow_52 : decode cX1_follow 52 = .ok (.iand, 1) := by decide +kernel
theorem dX1_follow_53 : decode cX1_follow 53 = .ok (.istore 9, 2) := by decide +kernel
theorem dX1_follow_55 : decode cX1_follow 55 = .ok (.iload 9, 2) := by decide +kernel
theorem dX1_follow_57 : decode cX1_follow 57 = .ok (.ifCond .ne 9, 3) := by decide +kernel
theorem dX1_follow_60 : decode cX1_follow 60 = .ok (.iload 8, 2) := by decide +kernel
theorem dX1_follow_62 : decode cX1_follow 62 = .ok (.iload_n 2, 1) := by decide +kernel
theorem dX1_follow_63 : decode cX1_follow 63 = .ok (.iand, 1) := by decide +kernel
theorem dX1_follow_64 : decode cX1_follow 64 = .ok (.istore 9, 2) := by decide +kernel
theorem dX1_follow_66 : decode cX1_follow 66 = .ok (.iload 9, 2) := by decide +kernel
theorem dX1_follow_68 : decode cX1_follow 68 = .ok (.ifCond .ne 9, 3) := by decide +kernel
theorem dX1_follow_71 : decode cX1_follow 71 = .ok (.iload 8, 2) := by decide +kernel
theorem dX1_follow_73 : decode cX1_follow 73 = .ok (.iload_n 3, 1) := by decide +kernel
theorem dX1_follow_74 : decode cX1_follow 74 = .ok (.iand, 1) := by decide +kernel
theorem dX1_follow_75 : decode cX1_follow 75 = .ok (.istore 9, 2) := by decide +kernel
theorem dX1_follow_77 : decode cX1_follow 77 = .ok (.iload 9, 2) := by decide +kernel
theorem dX1_follow_79 : decode cX1_follow 79 = .ok (.ifCond .ne 10, 3) := by decide +kernel
theorem dX1_follow_82 : decode cX1_follow 82 = .ok (.iload 8, 2) := by decide +kernel
theorem dX1_follow_84 : decode cX1_follow 84 = .ok (.iload 4, 2) := by decide +kernel
theorem dX1_follow_86 : decode cX1_follow 86 = .ok (.iand, 1) := by decide +kernel
theorem dX1_follow_87 : decode cX1_follow 87 = .ok (.istore 9, 2) := by decide +kernel
theorem dX1_follow_89 : decode cX1_follow 89 = .ok (.iload 9, 2) := by decide +kernel
theorem dX1_follow_91 : decode cX1_follow 91 = .ok (.ifCond .ne 5, 3) := by decide +kernel
theorem dX1_follow_94 : decode cX1_follow 94 = .ok (.iconst 0, 1) := by decide +kernel
theorem dX1_follow_95 : decode cX1_follow 95 = .ok (.ireturn, 1) := by decide +kernel
theorem dX1_follow_96 : decode cX1_follow 96 = .ok (.iload 9, 2) := by decide +kernel
theorem dX1_follow_98 : decode cX1_follow 98 = .ok (.invokestatic 63, 3) := by decide +kernel
theorem dX1_follow_101 : decode cX1_follow 101 = .ok (.istore 5, 2) := by decide +kernel
theorem dX1_follow_103 : decode cX1_follow 103 = .ok (.iload 6, 2) := by decide +kernel
theorem dX1_follow_105 : decode cX1_follow 105 = .ok (.iconst 1, 1) := by decide +kernel
theorem dX1_follow_106 : decode cX1_follow 106 = .ok (.iload 5, 2) := by decide +kernel
theorem dX1_follow_108 : decode cX1_follow 108 = .ok (.ishl, 1) := by decide +kernel
theorem dX1_follow_109 : decode cX1_follow 109 = .ok (.iconst (-1), 1) := by decide +kernel
theorem dX1_follow_110 : decode cX1_follow 110 = .ok (.ixor, 1) := by decide +kernel
theorem dX1_follow_111 : decode cX1_follow 111 = .ok (.iand, 1) := by decide +kernel
theorem dX1_follow_112 : decode cX1_follow 112 = .ok (.istore 6, 2) := by decide +kernel
theorem dX1_follow_114 : decode cX1_follow 114 = .ok (.aload_n 0, 1) := by decide +kernel
theorem dX1_follow_115 : decode cX1_follow 115 = .ok (.getfield 34, 3) := by decide +kernel
theorem dX1_follow_118 : decode cX1_follow 118 = .ok (.iload 7, 2) := by decide +kernel
theorem dX1_follow_120 : decode cX1_follow 120 = .ok (.iload 5, 2) := by decide +kernel
theorem dX1_follow_122 : decode cX1_follow 122 = .ok (.iastore, 1) := by decide +kernel
theorem dX1_follow_123 : decode cX1_follow 123 = .ok (.aload_n 0, 1) := by decide +kernel
theorem dX1_follow_124 : decode cX1_follow 124 = .ok (.iload 7, 2) := by decide +kernel
theorem dX1_follow_126 : decode cX1_follow 126 = .ok (.putfield 37, 3) := by decide +kernel
theorem dX1_follow_129 : decode cX1_follow 129 = .ok (.iinc 7 1, 3) := by decide +kernel
theorem dX1_follow_132 : decode cX1_follow 132 = .ok (.goto (-107), 3) := by decide +kernel
theorem dX1_follow_135 : decode cX1_follow 135 = .ok (.iload 5, 2) := by decide +kernel
theorem dX1_follow_137 : decode cX1_follow 137 = .ok (.ifCond .ne 7, 3) := by decide +kernel
theorem dX1_follow_140 : decode cX1_follow 140 = .ok (.iconst 1, 1) := by decide +kernel
theorem dX1_follow_141 : decode cX1_follow 141 = .ok (.goto 4, 3) := by decide +kernel
theorem dX1_follow_144 : decode cX1_follow 144 = .ok (.iconst 0, 1) := by decide +kernel
theorem dX1_follow_145 : decode cX1_follow 145 = .ok (.ireturn, 1) := by decide +kernel
theorem dX1_stonesWith_0 : decode cX1_stonesWith 0 = .ok (.aload_n 0, 1) := by decide +kernel
theorem dX1_stonesWith_1 : decode cX1_stonesWith 1 = .ok (.getfield 28, 3) := by decide +kernel
theorem dX1_stonesWith_4 : decode cX1_stonesWith 4 = .ok (.iload_n 1, 1) := by decide +kernel
theorem dX1_stonesWith_5 : decode cX1_stonesWith 5 = .ok (.aload_n 0, 1) := by decide +kernel
theorem dX1_stonesWith_6 : decode cX1_stonesWith 6 = .ok (.getfield 19, 3) := by decide +kernel
theorem dX1_stonesWith_9 : decode cX1_stonesWith 9 = .ok (.iconst (-1), 1) := by decide +kernel
theorem dX1_stonesWith_10 : decode cX1_stonesWith 10 = .ok (.ixor, 1) := by decide +kernel
theorem dX1_stonesWith_11 : decode cX1_stonesWith 11 = .ok (.iand, 1) := by decide +kernel
theorem dX1_stonesWith_12 : decode cX1_stonesWith 12 = .ok (.ior, 1) := by decide +kernel
theorem dX1_stonesWith_13 : decode cX1_stonesWith 13 = .ok (.ireturn, 1) := by decide +kernel
theorem dX1_homeWithStone_0 : decode cX1_homeWithStone 0 = .ok (.aload_n 0, 1) := by decide +kernel
theorem dX1_homeWithStone_1 : decode cX1_homeWithStone 1 = .ok (.aload_n 1, 1) := by decide +kernel
theorem dX1_homeWithStone_2 : decode cX1_homeWithStone 2 = .ok (.invokevirtual 51, 3) := by decide +kernel
theorem dX1_homeWithStone_5 : decode cX1_homeWithStone 5 = .ok (.iconst 0, 1) := by decide +kernel
theorem dX1_homeWithStone_6 : decode cX1_homeWithStone 6 = .ok (.istore_n 2, 1) := by decide +kernel
theorem dX1_homeWithStone_7 : decode cX1_homeWithStone 7 = .ok (.iconst 0, 1) := by decide +kernel
theorem dX1_homeWithStone_8 : decode cX1_homeWithStone 8 = .ok (.istore_n 3, 1) := by decide +kernel
theorem dX1_homeWithStone_9 : decode cX1_homeWithStone 9 = .ok (.iload_n 3, 1) := by decide +kernel
theorem dX1_homeWithStone_10 : decode cX1_homeWithStone 10 = .ok (.aload_n 0, 1) := by decide +kernel
theorem dX1_homeWithStone_11 : decode cX1_homeWithStone 11 = .ok (.getfield 15, 3) := by decide +kernel
theorem dX1_homeWithStone_14 : decode cX1_homeWithStone 14 = .ok (.if_icmp .ge 41, 3) := by decide +kernel
theorem dX1_homeWithStone_17 : decode cX1_homeWithStone 17 = .ok (.aload_n 0, 1) := by decide +kernel
theorem dX1_homeWithStone_18 : decode cX1_homeWithStone 18 = .ok (.aload_n 1, 1) := by decide +kernel
theorem dX1_homeWithStone_19 : decode cX1_homeWithStone 19 = .ok (.invokevirtual 55, 3) := by decide +kernel
theorem dX1_homeWithStone_22 : decode cX1_homeWithStone 22 = .ok (.aload_n 0, 1) := by decide +kernel
theorem dX1_homeWithStone_23 : decode cX1_homeWithStone 23 = .ok (.iconst 1, 1) := by decide +kernel
theorem dX1_homeWithStone_24 : decode cX1_homeWithStone 24 = .ok (.iload_n 3, 1) := by decide +kernel
theorem dX1_homeWithStone_25 : decode cX1_homeWithStone 25 = .ok (.ishl, 1) := by decide +kernel
theorem dX1_homeWithStone_26 : decode cX1_homeWithStone 26 = .ok (.invokevirtual 66, 3) := by decide +kernel
theorem dX1_homeWithStone_29 : decode cX1_homeWithStone 29 = .ok (.aload_n 0, 1) := by decide +kernel
theorem dX1_homeWithStone_30 : decode cX1_homeWithStone 30 = .ok (.getfield 31, 3) := by decide +kernel
theorem dX1_homeWithStone_33 : decode cX1_homeWithStone 33 = .ok (.aload_n 0, 1) := by decide +kernel
theorem dX1_homeWithStone_34 : decode cX1_homeWithStone 34 = .ok (.getfield 25, 3) := by decide +kernel
theorem dX1_homeWithStone_37 : decode cX1_homeWithStone 37 = .ok (.invokevirtual 59, 3) := by decide +kernel
theorem dX1_homeWithStone_40 : decode cX1_homeWithStone 40 = .ok (.ifCond .eq 9, 3) := by decide +kernel
theorem dX1_homeWithStone_43 : decode cX1_homeWithStone 43 = .ok (.iload_n 2, 1) := by decide +kernel
theorem dX1_homeWithStone_44 : decode cX1_homeWithStone 44 = .ok (.iconst 1, 1) := by decide +kernel
theorem dX1_homeWithStone_45 : decode cX1_homeWithStone 45 = .ok (.iload_n 3, 1) := by decide +kernel
theorem dX1_homeWithStone_46 : decode cX1_homeWithStone 46 = .ok (.ishl, 1) := by decide +kernel
theorem dX1_homeWithStone_47 : decode cX1_homeWithStone 47 = .ok (.ior, 1) := by decide +kernel
theorem dX1_homeWithStone_48 : decode cX1_homeWithStone 48 = .ok (.istore_n 2, 1) := by decide +kernel
theorem dX1_homeWithStone_49 : decode cX1_homeWithStone 49 = .ok (.iinc 3 1, 3) := by decide +kernel
theorem dX1_homeWithStone_52 : decode cX1_homeWithStone 52 = .ok (.goto (-43), 3) := by decide +kernel
theorem dX1_homeWithStone_55 : decode cX1_homeWithStone 55 = .ok (.iload_n 2, 1) := by decide +kernel
theorem dX1_homeWithStone_56 : decode cX1_homeWithStone 56 = .ok (.ireturn, 1) := by decide +kernel
theorem dX1_fewestStones_0 : decode cX1_fewestStones 0 = .ok (.bipush (-9), 2) := by decide +kernel
theorem dX1_fewestStones_2 : decode cX1_fewestStones 2 = .ok (.istore 4, 2) := by decide +kernel
theorem dX1_fewestStones_4 : decode cX1_fewestStones 4 = .ok (.bipush 9, 2) := by decide +kernel
theorem dX1_fewestStones_6 : decode cX1_fewestStones 6 = .ok (.istore 5, 2) := by decide +kernel
theorem dX1_fewestStones_8 : decode cX1_fewestStones 8 = .ok (.iconst 0, 1) := by decide +kernel
theorem dX1_fewestStones_9 : decode cX1_fewestStones 9 = .ok (.istore 6, 2) := by decide +kernel
theorem dX1_fewestStones_11 : decode cX1_fewestStones 11 = .ok (.iload 6, 2) := by decide +kernel
theorem dX1_fewestStones_13 : decode cX1_fewestStones 13 = .ok (.iload_n 2, 1) := by decide +kernel
theorem dX1_fewestStones_14 : decode cX1_fewestStones 14 = .ok (.if_icmp .gt 50, 3) := by decide +kernel
theorem dX1_fewestStones_17 : decode cX1_fewestStones 17 = .ok (.iload 6, 2) := by decide +kernel
theorem dX1_fewestStones_19 : decode cX1_fewestStones 19 = .ok (.iload_n 2, 1) := by decide +kernel
theorem dX1_fewestStones_20 : decode cX1_fewestStones 20 = .ok (.iconst (-1), 1) := by decide +kernel
theorem dX1_fewestStones_21 : decode cX1_fewestStones 21 = .ok (.ixor, 1) := by decide +kernel
theorem dX1_fewestStones_22 : decode cX1_fewestStones 22 = .ok (.iand, 1) := by decide +kernel
theorem dX1_fewestStones_23 : decode cX1_fewestStones 23 = .ok (.ifCond .ne 35, 3) := by decide +kernel
theorem dX1_fewestStones_26 : decode cX1_fewestStones 26 = .ok (.iload 6, 2) := by decide +kernel
theorem dX1_fewestStones_28 : decode cX1_fewestStones 28 = .ok (.invokestatic 69, 3) := by decide +kernel
theorem dX1_fewestStones_31 : decode cX1_fewestStones 31 = .ok (.iload 5, 2) := by decide +kernel
theorem dX1_fewestStones_33 : decode cX1_fewestStones 33 = .ok (.if_icmp .ge 25, 3) := by decide +kernel
theorem dX1_fewestStones_36 : decode cX1_fewestStones 36 = .ok (.aload_n 0, 1) := by decide +kernel
theorem dX1_fewestStones_37 : decode cX1_fewestStones 37 = .ok (.iload_n 1, 1) := by decide +kernel
theorem dX1_fewestStones_38 : decode cX1_fewestStones 38 = .ok (.iload 6, 2) := by decide +kernel
theorem dX1_fewestStones_40 : decode cX1_fewestStones 40 = .ok (.iload_n 3, 1) := by decide +kernel
theorem dX1_fewestStones_41 : decode cX1_fewestStones 41 = .ok (.invokevirtual 74, 3) := by decide +kernel
theorem dX1_fewestStones_44 : decode cX1_fewestStones 44 = .ok (.ifCond .eq 14, 3) := by decide +kernel
theorem dX1_fewestStones_47 : decode cX1_fewestStones 47 = .ok (.iload 6, 2) := by decide +kernel
theorem dX1_fewestStones_49 : decode cX1_fewestStones 49 = .ok (.istore 4, 2) := by decide +kernel
theorem dX1_fewestStones_51 : decode cX1_fewestStones 51 = .ok (.iload 6, 2) := by decide +kernel
theorem dX1_fewestStones_53 : decode cX1_fewestStones 53 = .ok (.invokestatic 69, 3) := by decide +kernel
theorem dX1_fewestStones_56 : decode cX1_fewestStones 56 = .ok (.istore 5, 2) := by decide +kernel
theorem dX1_fewestStones_58 : decode cX1_fewestStones 58 = .ok (.iinc 6 1, 3) := by decide +kernel
theorem dX1_fewestStones_61 : decode cX1_fewestStones 61 = .ok (.goto (-50), 3) := by decide +kernel
theorem dX1_fewestStones_64 : decode cX1_fewestStones 64 = .ok (.iload 4, 2) := by decide +kernel
theorem dX1_fewestStones_66 : decode cX1_fewestStones 66 = .ok (.ireturn, 1) := by decide +kernel
theorem dX1_leadsHome_0 : decode cX1_leadsHome 0 = .ok (.aload_n 0, 1) := by decide +kernel
theorem dX1_leadsHome_1 : decode cX1_leadsHome 1 = .ok (.iload_n 2, 1) := by decide +kernel
theorem dX1_leadsHome_2 : decode cX1_leadsHome 2 = .ok (.invokevirtual 66, 3) := by decide +kernel
theorem dX1_leadsHome_5 : decode cX1_leadsHome 5 = .ok (.istore 4, 2) := by decide +kernel
theorem dX1_leadsHome_7 : decode cX1_leadsHome 7 = .ok (.aload_n 0, 1) := by decide +kernel
theorem dX1_leadsHome_8 : decode cX1_leadsHome 8 = .ok (.iload_n 1, 1) := by decide +kernel
theorem dX1_leadsHome_9 : decode cX1_leadsHome 9 = .ok (.iload 4, 2) := by decide +kernel
theorem dX1_leadsHome_11 : decode cX1_leadsHome 11 = .ok (.aload_n 0, 1) := by decide +kernel
theorem dX1_leadsHome_12 : decode cX1_leadsHome 12 = .ok (.getfield 31, 3) := by decide +kernel
theorem dX1_leadsHome_15 : decode cX1_leadsHome 15 = .ok (.aload_n 0, 1) := by decide +kernel
theorem dX1_leadsHome_16 : decode cX1_leadsHome 16 = .ok (.getfield 25, 3) := by decide +kernel
theorem dX1_leadsHome_19 : decode cX1_leadsHome 19 = .ok (.invokevirtual 59, 3) := by decide +kernel
theorem dX1_leadsHome_22 : decode cX1_leadsHome 22 = .ok (.ifCond .ne 5, 3) := by decide +kernel
theorem dX1_leadsHome_25 : decode cX1_leadsHome 25 = .ok (.iconst 0, 1) := by decide +kernel
theorem dX1_leadsHome_26 : decode cX1_leadsHome 26 = .ok (.ireturn, 1) := by decide +kernel
theorem dX1_leadsHome_27 : decode cX1_leadsHome 27 = .ok (.iconst 0, 1) := by decide +kernel
theorem dX1_leadsHome_28 : decode cX1_leadsHome 28 = .ok (.istore 5, 2) := by decide +kernel
theorem dX1_leadsHome_30 : decode cX1_leadsHome 30 = .ok (.iload 5, 2) := by decide +kernel
theorem dX1_leadsHome_32 : decode cX1_leadsHome 32 = .ok (.aload_n 0, 1) := by decide +kernel
theorem dX1_leadsHome_33 : decode cX1_leadsHome 33 = .ok (.getfield 15, 3) := by decide +kernel
theorem dX1_leadsHome_36 : decode cX1_leadsHome 36 = .ok (.if_icmp .ge 55, 3) := by decide +kernel
theorem dX1_leadsHome_39 : decode cX1_leadsHome 39 = .ok (.iload_n 3, 1) := by decide +kernel
theorem dX1_leadsHome_40 : decode cX1_leadsHome 40 = .ok (.ifCond .eq 51, 3) := by decide +kernel
theorem dX1_leadsHome_43 : decode cX1_leadsHome 43 = .ok (.iconst 1, 1) := by decide +kernel
theorem dX1_leadsHome_44 : decode cX1_leadsHome 44 = .ok (.iload 5, 2) := by decide +kernel
theorem dX1_leadsHome_46 : decode cX1_leadsHome 46 = .ok (.ishl, 1) := by decide +kernel
theorem dX1_leadsHome_47 : decode cX1_leadsHome 47 = .ok (.iconst (-1), 1) := by decide +kernel
theorem dX1_leadsHome_48 : decode cX1_leadsHome 48 = .ok (.ixor, 1) := by decide +kernel
theorem dX1_leadsHome_49 : decode cX1_leadsHome 49 = .ok (.istore 6, 2) := by decide +kernel
theorem dX1_leadsHome_51 : decode cX1_leadsHome 51 = .ok (.aload_n 0, 1) := by decide +kernel
theorem dX1_leadsHome_52 : decode cX1_leadsHome 52 = .ok (.iload_n 1, 1) := by decide +kernel
theorem dX1_leadsHome_53 : decode cX1_leadsHome 53 = .ok (.iload 4, 2) := by decide +kernel
theorem dX1_leadsHome_55 : decode cX1_leadsHome 55 = .ok (.iload 6, 2) := by decide +kernel
theorem dX1_leadsHome_57 : decode cX1_leadsHome 57 = .ok (.iand, 1) := by decide +kernel
theorem dX1_leadsHome_58 : decode cX1_leadsHome 58 = .ok (.aload_n 0, 1) := by decide +kernel
theorem dX1_leadsHome_59 : decode cX1_leadsHome 59 = .ok (.getfield 31, 3) := by decide +kernel
theorem dX1_leadsHome_62 : decode cX1_leadsHome 62 = .ok (.iload 6, 2) := by decide +kernel
theorem dX1_leadsHome_64 : decode cX1_leadsHome 64 = .ok (.iand, 1) := by decide +kernel
theorem dX1_leadsHome_65 : decode cX1_leadsHome 65 = .ok (.aload_n 0, 1) := by decide +kernel
theorem dX1_leadsHome_66 : decode cX1_leadsHome 66 = .ok (.getfield 22, 3) := by decide +kernel
theorem dX1_leadsHome_69 : decode cX1_leadsHome 69 = .ok (.ior, 1) := by decide +kernel
theorem dX1_leadsHome_70 : decode cX1_leadsHome 70 = .ok (.aload_n 0, 1) := by decide +kernel
theorem dX1_leadsHome_71 : decode cX1_leadsHome 71 = .ok (.getfield 25, 3) := by decide +kernel
theorem dX1_leadsHome_74 : decode cX1_leadsHome 74 = .ok (.iload 6, 2) := by decide +kernel
theorem dX1_leadsHome_76 : decode cX1_leadsHome 76 = .ok (.iand, 1) := by decide +kernel
theorem dX1_leadsHome_77 : decode cX1_leadsHome 77 = .ok (.invokevirtual 59, 3) := by decide +kernel
theorem dX1_leadsHome_80 : decode cX1_leadsHome 80 = .ok (.ifCond .ne 5, 3) := by decide +kernel
theorem dX1_leadsHome_83 : decode cX1_leadsHome 83 = .ok (.iconst 0, 1) := by decide +kernel
theorem dX1_leadsHome_84 : decode cX1_leadsHome 84 = .ok (.ireturn, 1) := by decide +kernel
theorem dX1_leadsHome_85 : decode cX1_leadsHome 85 = .ok (.iinc 5 1, 3) := by decide +kernel
theorem dX1_leadsHome_88 : decode cX1_leadsHome 88 = .ok (.goto (-58), 3) := by decide +kernel
theorem dX1_leadsHome_91 : decode cX1_leadsHome 91 = .ok (.iconst 1, 1) := by decide +kernel
theorem dX1_leadsHome_92 : decode cX1_leadsHome 92 = .ok (.ireturn, 1) := by decide +kernel
theorem dX1_cases_0 : decode cX1_cases 0 = .ok (.iconst 1, 1) := by decide +kernel
theorem dX1_cases_1 : decode cX1_cases 1 = .ok (.aload_n 0, 1) := by decide +kernel
theorem dX1_cases_2 : decode cX1_cases 2 = .ok (.getfield 25, 3) := by decide +kernel
theorem dX1_cases_5 : decode cX1_cases 5 = .ok (.invokestatic 69, 3) := by decide +kernel
theorem dX1_cases_8 : decode cX1_cases 8 = .ok (.ishl, 1) := by decide +kernel
theorem dX1_cases_9 : decode cX1_cases 9 = .ok (.ireturn, 1) := by decide +kernel
theorem dX1_luckyCases_0 : decode cX1_luckyCases 0 = .ok (.aload_n 0, 1) := by decide +kernel
theorem dX1_luckyCases_1 : decode cX1_luckyCases 1 = .ok (.iload_n 2, 1) := by decide +kernel
theorem dX1_luckyCases_2 : decode cX1_luckyCases 2 = .ok (.invokevirtual 66, 3) := by decide +kernel
theorem dX1_luckyCases_5 : decode cX1_luckyCases 5 = .ok (.istore_n 3, 1) := by decide +kernel
theorem dX1_luckyCases_6 : decode cX1_luckyCases 6 = .ok (.aload_n 0, 1) := by decide +kernel
theorem dX1_luckyCases_7 : decode cX1_luckyCases 7 = .ok (.invokevirtual 78, 3) := by decide +kernel
theorem dX1_luckyCases_10 : decode cX1_luckyCases 10 = .ok (.istore 4, 2) := by decide +kernel
theorem dX1_luckyCases_12 : decode cX1_luckyCases 12 = .ok (.iconst 0, 1) := by decide +kernel
theorem dX1_luckyCases_13 : decode cX1_luckyCases 13 = .ok (.istore 5, 2) := by decide +kernel
theorem dX1_luckyCases_15 : decode cX1_luckyCases 15 = .ok (.aload_n 0, 1) := by decide +kernel
theorem dX1_luckyCases_16 : decode cX1_luckyCases 16 = .ok (.getfield 25, 3) := by decide +kernel
theorem dX1_luckyCases_19 : decode cX1_luckyCases 19 = .ok (.istore 6, 2) := by decide +kernel
theorem dX1_luckyCases_21 : decode cX1_luckyCases 21 = .ok (.iconst 0, 1) := by decide +kernel
theorem dX1_luckyCases_22 : decode cX1_luckyCases 22 = .ok (.istore 7, 2) := by decide +kernel
theorem dX1_luckyCases_24 : decode cX1_luckyCases 24 = .ok (.iload 7, 2) := by decide +kernel
theorem dX1_luckyCases_26 : decode cX1_luckyCases 26 = .ok (.iload 4, 2) := by decide +kernel
theorem dX1_luckyCases_28 : decode cX1_luckyCases 28 = .ok (.if_icmp .ge 38, 3) := by decide +kernel
theorem dX1_luckyCases_31 : decode cX1_luckyCases 31 = .ok (.aload_n 0, 1) := by decide +kernel
theorem dX1_luckyCases_32 : decode cX1_luckyCases 32 = .ok (.iload_n 1, 1) := by decide +kernel
theorem dX1_luckyCases_33 : decode cX1_luckyCases 33 = .ok (.iload_n 3, 1) := by decide +kernel
theorem dX1_luckyCases_34 : decode cX1_luckyCases 34 = .ok (.aload_n 0, 1) := by decide +kernel
theorem dX1_luckyCases_35 : decode cX1_luckyCases 35 = .ok (.getfield 31, 3) := by decide +kernel
theorem dX1_luckyCases_38 : decode cX1_luckyCases 38 = .ok (.iload 6, 2) := by decide +kernel
theorem dX1_luckyCases_40 : decode cX1_luckyCases 40 = .ok (.invokevirtual 59, 3) := by decide +kernel
theorem dX1_luckyCases_43 : decode cX1_luckyCases 43 = .ok (.ifCond .eq 6, 3) := by decide +kernel
theorem dX1_luckyCases_46 : decode cX1_luckyCases 46 = .ok (.iinc 5 1, 3) := by decide +kernel
theorem dX1_luckyCases_49 : decode cX1_luckyCases 49 = .ok (.iload 6, 2) := by decide +kernel
theorem dX1_luckyCases_51 : decode cX1_luckyCases 51 = .ok (.iconst 1, 1) := by decide +kernel
theorem dX1_luckyCases_52 : decode cX1_luckyCases 52 = .ok (.isub, 1) := by decide +kernel
theorem dX1_luckyCases_53 : decode cX1_luckyCases 53 = .ok (.aload_n 0, 1) := by decide +kernel
theorem dX1_luckyCases_54 : decode cX1_luckyCases 54 = .ok (.getfield 25, 3) := by decide +kernel
theorem dX1_luckyCases_57 : decode cX1_luckyCases 57 = .ok (.iand, 1) := by decide +kernel
theorem dX1_luckyCases_58 : decode cX1_luckyCases 58 = .ok (.istore 6, 2) := by decide +kernel
theorem dX1_luckyCases_60 : decode cX1_luckyCases 60 = .ok (.iinc 7 1, 3) := by decide +kernel
theorem dX1_luckyCases_63 : decode cX1_luckyCases 63 = .ok (.goto (-39), 3) := by decide +kernel
theorem dX1_luckyCases_66 : decode cX1_luckyCases 66 = .ok (.iload 5, 2) := by decide +kernel
theorem dX1_luckyCases_68 : decode cX1_luckyCases 68 = .ok (.ireturn, 1) := by decide +kernel
theorem dX2_init_0 : decode cX2_init 0 = .ok (.aload_n 0, 1) := by decide +kernel
theorem dX2_init_1 : decode cX2_init 1 = .ok (.invokespecial 3, 3) := by decide +kernel
theorem dX2_init_4 : decode cX2_init 4 = .ok (.aload_n 0, 1) := by decide +kernel
theorem dX2_init_5 : decode cX2_init 5 = .ok (.iconst (-1), 1) := by decide +kernel
theorem dX2_init_6 : decode cX2_init 6 = .ok (.putfield 9, 3) := by decide +kernel
theorem dX2_init_9 : decode cX2_init 9 = .ok (.aload_n 0, 1) := by decide +kernel
theorem dX2_init_10 : decode cX2_init 10 = .ok (.iload_n 1, 1) := by decide +kernel
theorem dX2_init_11 : decode cX2_init 11 = .ok (.iconst 0, 1) := by decide +kernel
theorem dX2_init_12 : decode cX2_init 12 = .ok (.invokestatic 15, 3) := by decide +kernel
theorem dX2_init_15 : decode cX2_init 15 = .ok (.newarray .int, 2) := by decide +kernel
theorem dX2_init_17 : decode cX2_init 17 = .ok (.putfield 21, 3) := by decide +kernel
theorem dX2_init_20 : decode cX2_init 20 = .ok (.return_, 1) := by decide +kernel
theorem dX2_isMissing_0 : decode cX2_isMissing 0 = .ok (.aload_n 0, 1) := by decide +kernel
theorem dX2_isMissing_1 : decode cX2_isMissing 1 = .ok (.getfield 9, 3) := by decide +kernel
theorem dX2_isMissing_4 : decode cX2_isMissing 4 = .ok (.ifCond .ge 7, 3) := by decide +kernel
theorem dX2_isMissing_7 : decode cX2_isMissing 7 = .ok (.iconst 1, 1) := by decide +kernel
theorem dX2_isMissing_8 : decode cX2_isMissing 8 = .ok (.goto 4, 3) := by decide +kernel
theorem dX2_isMissing_11 : decode cX2_isMissing 11 = .ok (.iconst 0, 1) := by decide +kernel
theorem dX2_isMissing_12 : decode cX2_isMissing 12 = .ok (.ireturn, 1) := by decide +kernel
theorem dX2_lackOf_0 : decode cX2_lackOf 0 = .ok (.aload_n 0, 1) := by decide +kernel
theorem dX2_lackOf_1 : decode cX2_lackOf 1 = .ok (.invokevirtual 25, 3) := by decide +kernel
theorem dX2_lackOf_4 : decode cX2_lackOf 4 = .ok (.ifCond .eq 5, 3) := by decide +kernel
theorem dX2_lackOf_7 : decode cX2_lackOf 7 = .ok (.iconst 1, 1) := by decide +kernel
theorem dX2_lackOf_8 : decode cX2_lackOf 8 = .ok (.ireturn, 1) := by decide +kernel
theorem dX2_lackOf_9 : decode cX2_lackOf 9 = .ok (.iload_n 1, 1) := by decide +kernel
theorem dX2_lackOf_10 : decode cX2_lackOf 10 = .ok (.aload_n 0, 1) := by decide +kernel
theorem dX2_lackOf_11 : decode cX2_lackOf 11 = .ok (.getfield 9, 3) := by decide +kernel
theorem dX2_lackOf_14 : decode cX2_lackOf 14 = .ok (.invokestatic 29, 3) := by decide +kernel
theorem dX2_lackOf_17 : decode cX2_lackOf 17 = .ok (.ifCond .eq 7, 3) := by decide +kernel
theorem dX2_lackOf_20 : decode cX2_lackOf 20 = .ok (.iconst 0, 1) := by decide +kernel
theorem dX2_lackOf_21 : decode cX2_lackOf 21 = .ok (.goto 4, 3) := by decide +kernel
theorem dX2_lackOf_24 : decode cX2_lackOf 24 = .ok (.iconst 2, 1) := by decide +kernel
theorem dX2_lackOf_25 : decode cX2_lackOf 25 = .ok (.ireturn, 1) := by decide +kernel
theorem dX2_hasRun_0 : decode cX2_hasRun 0 = .ok (.iload_n 1, 1) := by decide +kernel
theorem dX2_hasRun_1 : decode cX2_hasRun 1 = .ok (.ifCond .lt 17, 3) := by decide +kernel
theorem dX2_hasRun_4 : decode cX2_hasRun 4 = .ok (.iload_n 1, 1) := by decide +kernel
theorem dX2_hasRun_5 : decode cX2_hasRun 5 = .ok (.aload_n 0, 1) := by decide +kernel
theorem dX2_hasRun_6 : decode cX2_hasRun 6 = .ok (.getfield 9, 3) := by decide +kernel
theorem dX2_hasRun_9 : decode cX2_hasRun 9 = .ok (.iload_n 2, 1) := by decide +kernel
theorem dX2_hasRun_10 : decode cX2_hasRun 10 = .ok (.isub, 1) := by decide +kernel
theorem dX2_hasRun_11 : decode cX2_hasRun 11 = .ok (.if_icmp .gt 7, 3) := by decide +kernel
theorem dX2_hasRun_14 : decode cX2_hasRun 14 = .ok (.iconst 1, 1) := by decide +kernel
theorem dX2_hasRun_15 : decode cX2_hasRun 15 = .ok (.goto 4, 3) := by decide +kernel
theorem dX2_hasRun_18 : decode cX2_hasRun 18 = .ok (.iconst 0, 1) := by decide +kernel
theorem dX2_hasRun_19 : decode cX2_hasRun 19 = .ok (.ireturn, 1) := by decide +kernel
theorem dX2_renew_0 : decode cX2_renew 0 = .ok (.aload_n 0, 1) := by decide +kernel
theorem dX2_renew_1 : decode cX2_renew 1 = .ok (.iload_n 1, 1) := by decide +kernel
theorem dX2_renew_2 : decode cX2_renew 2 = .ok (.aload_n 0, 1) := by decide +kernel
theorem dX2_renew_3 : decode cX2_renew 3 = .ok (.getfield 21, 3) := by decide +kernel
theorem dX2_renew_6 : decode cX2_renew 6 = .ok (.arraylength, 1) := by decide +kernel
theorem dX2_renew_7 : decode cX2_renew 7 = .ok (.invokestatic 33, 3) := by decide +kernel
theorem dX2_renew_10 : decode cX2_renew 10 = .ok (.putfield 9, 3) := by decide +kernel
theorem dX2_renew_13 : decode cX2_renew 13 = .ok (.iconst 0, 1) := by decide +kernel
theorem dX2_renew_14 : decode cX2_renew 14 = .ok (.istore_n 3, 1) := by decide +kernel
theorem dX2_renew_15 : decode cX2_renew 15 = .ok (.iload_n 3, 1) := by decide +kernel
theorem dX2_renew_16 : decode cX2_renew 16 = .ok (.aload_n 0, 1) := by decide +kernel
theorem dX2_renew_17 : decode cX2_renew 17 = .ok (.getfield 9, 3) := by decide +kernel
theorem dX2_renew_20 : decode cX2_renew 20 = .ok (.if_icmp .ge 16, 3) := by decide +kernel
theorem dX2_renew_23 : decode cX2_renew 23 = .ok (.aload_n 0, 1) := by decide +kernel
theorem dX2_renew_24 : decode cX2_renew 24 = .ok (.getfield 21, 3) := by decide +kernel
theorem dX2_renew_27 : decode cX2_renew 27 = .ok (.iload_n 3, 1) := by decide +kernel
theorem dX2_renew_28 : decode cX2_renew 28 = .ok (.iload_n 2, 1) := by decide +kernel
theorem dX2_renew_29 : decode cX2_renew 29 = .ok (.iastore, 1) := by decide +kernel
theorem dX2_renew_30 : decode cX2_renew 30 = .ok (.iinc 3 1, 3) := by decide +kernel
theorem dX2_renew_33 : decode cX2_renew 33 = .ok (.goto (-18), 3) := by decide +kernel
theorem dX2_renew_36 : decode cX2_renew 36 = .ok (.return_, 1) := by decide +kernel
theorem dX2_fillFrom_0 : decode cX2_fillFrom 0 = .ok (.aload_n 0, 1) := by decide +kernel
theorem dX2_fillFrom_1 : decode cX2_fillFrom 1 = .ok (.iload_n 2, 1) := by decide +kernel
theorem dX2_fillFrom_2 : decode cX2_fillFrom 2 = .ok (.aload_n 1, 1) := by decide +kernel
theorem dX2_fillFrom_3 : decode cX2_fillFrom 3 = .ok (.arraylength, 1) := by decide +kernel
theorem dX2_fillFrom_4 : decode cX2_fillFrom 4 = .ok (.aload_n 0, 1) := by decide +kernel
theorem dX2_fillFrom_5 : decode cX2_fillFrom 5 = .ok (.getfield 21, 3) := by decide +kernel
theorem dX2_fillFrom_8 : decode cX2_fillFrom 8 = .ok (.arraylength, 1) := by decide +kernel
theorem dX2_fillFrom_9 : decode cX2_fillFrom 9 = .ok (.invokestatic 33, 3) := by decide +kernel
theorem dX2_fillFrom_12 : decode cX2_fillFrom 12 = .ok (.invokestatic 33, 3) := by decide +kernel
theorem dX2_fillFrom_15 : decode cX2_fillFrom 15 = .ok (.putfield 9, 3) := by decide +kernel
theorem dX2_fillFrom_18 : decode cX2_fillFrom 18 = .ok (.iconst 0, 1) := by decide +kernel
theorem dX2_fillFrom_19 : decode cX2_fillFrom 19 = .ok (.istore_n 3, 1) := by decide +kernel
theorem dX2_fillFrom_20 : decode cX2_fillFrom 20 = .ok (.iload_n 3, 1) := by decide +kernel
theorem dX2_fillFrom_21 : decode cX2_fillFrom 21 = .ok (.aload_n 0, 1) := by decide +kernel
theorem dX2_fillFrom_22 : decode cX2_fillFrom 22 = .ok (.getfield 9, 3) := by decide +kernel
theorem dX2_fillFrom_25 : decode cX2_fillFrom 25 = .ok (.if_icmp .ge 18, 3) := by decide +kernel
theorem dX2_fillFrom_28 : decode cX2_fillFrom 28 = .ok (.aload_n 0, 1) := by decide +kernel
theorem dX2_fillFrom_29 : decode cX2_fillFrom 29 = .ok (.getfield 21, 3) := by decide +kernel
theorem dX2_fillFrom_32 : decode cX2_fillFrom 32 = .ok (.iload_n 3, 1) := by decide +kernel
theorem dX2_fillFrom_33 : decode cX2_fillFrom 33 = .ok (.aload_n 1, 1) := by decide +kernel
theorem dX2_fillFrom_34 : decode cX2_fillFrom 34 = .ok (.iload_n 3, 1) := by decide +kernel
theorem dX2_fillFrom_35 : decode cX2_fillFrom 35 = .ok (.iaload, 1) := by decide +kernel
theorem dX2_fillFrom_36 : decode cX2_fillFrom 36 = .ok (.iastore, 1) := by decide +kernel
theorem dX2_fillFrom_37 : decode cX2_fillFrom 37 = .ok (.iinc 3 1, 3) := by decide +kernel
theorem dX2_fillFrom_40 : decode cX2_fillFrom 40 = .ok (.goto (-20), 3) := by decide +kernel
theorem dX2_fillFrom_43 : decode cX2_fillFrom 43 = .ok (.aload_n 0, 1) := by decide +kernel
theorem dX2_fillFrom_44 : decode cX2_fillFrom 44 = .ok (.getfield 9, 3) := by decide +kernel
theorem dX2_fillFrom_47 : decode cX2_fillFrom 47 = .ok (.ireturn, 1) := by decide +kernel
theorem dX2_sum_0 : decode cX2_sum 0 = .ok (.lconst 0, 1) := by decide +kernel
theorem dX2_sum_1 : decode cX2_sum 1 = .ok (.lstore_n 1, 1) := by decide +kernel
theorem dX2_sum_2 : decode cX2_sum 2 = .ok (.iconst 0, 1) := by decide +kernel
theorem dX2_sum_3 : decode cX2_sum 3 = .ok (.istore_n 3, 1) := by decide +kernel
theorem dX2_sum_4 : decode cX2_sum 4 = .ok (.iload_n 3, 1) := by decide +kernel
theorem dX2_sum_5 : decode cX2_sum 5 = .ok (.aload_n 0, 1) := by decide +kernel
theorem dX2_sum_6 : decode cX2_sum 6 = .ok (.getfield 9, 3) := by decide +kernel
theorem dX2_sum_9 : decode cX2_sum 9 = .ok (.if_icmp .ge 19, 3) := by decide +kernel
theorem dX2_sum_12 : decode cX2_sum 12 = .ok (.lload_n 1, 1) := by decide +kernel
theorem dX2_sum_13 : decode cX2_sum 13 = .ok (.aload_n 0, 1) := by decide +kernel
theorem dX2_sum_14 : decode cX2_sum 14 = .ok (.getfield 21, 3) := by decide +kernel
theorem dX2_sum_17 : decode cX2_sum 17 = .ok (.iload_n 3, 1) := by decide +kernel
theorem dX2_sum_18 : decode cX2_sum 18 = .ok (.iaload, 1) := by decide +kernel
theorem dX2_sum_19 : decode cX2_sum 19 = .ok (.i2l, 1) := by decide +kernel
theorem dX2_sum_20 : decode cX2_sum 20 = .ok (.ladd, 1) := by decide +kernel
theorem dX2_sum_21 : decode cX2_sum 21 = .ok (.lstore_n 1, 1) := by decide +kernel
theorem dX2_sum_22 : decode cX2_sum 22 = .ok (.iinc 3 1, 3) := by decide +kernel
theorem dX2_sum_25 : decode cX2_sum 25 = .ok (.goto (-21), 3) := by decide +kernel
theorem dX2_sum_28 : decode cX2_sum 28 = .ok (.lload_n 1, 1) := by decide +kernel
theorem dX2_sum_29 : decode cX2_sum 29 = .ok (.lreturn, 1) := by decide +kernel
theorem dX2_digestOn_0 : decode cX2_digestOn 0 = .ok (.ldc2_w 36, 3) := by decide +kernel
theorem dX2_digestOn_3 : decode cX2_digestOn 3 = .ok (.lload_n 1, 1) := by decide +kernel
theorem dX2_digestOn_4 : decode cX2_digestOn 4 = .ok (.lmul, 1) := by decide +kernel
theorem dX2_digestOn_5 : decode cX2_digestOn 5 = .ok (.aload_n 0, 1) := by decide +kernel
theorem dX2_digestOn_6 : decode cX2_digestOn 6 = .ok (.getfield 9, 3) := by decide +kernel
theorem dX2_digestOn_9 : decode cX2_digestOn 9 = .ok (.i2l, 1) := by decide +kernel
theorem dX2_digestOn_10 : decode cX2_digestOn 10 = .ok (.ladd, 1) := by decide +kernel
theorem dX2_digestOn_11 : decode cX2_digestOn 11 = .ok (.lstore_n 3, 1) := by decide +kernel
theorem dX2_digestOn_12 : decode cX2_digestOn 12 = .ok (.iconst 0, 1) := by decide +kernel
theorem dX2_digestOn_13 : decode cX2_digestOn 13 = .ok (.istore 5, 2) := by decide +kernel
theorem dX2_digestOn_15 : decode cX2_digestOn 15 = .ok (.iload 5, 2) := by decide +kernel
theorem dX2_digestOn_17 : decode cX2_digestOn 17 = .ok (.aload_n 0, 1) := by decide +kernel
theorem dX2_digestOn_18 : decode cX2_digestOn 18 = .ok (.getfield 9, 3) := by decide +kernel
theorem dX2_digestOn_21 : decode cX2_digestOn 21 = .ok (.if_icmp .ge 24, 3) := by decide +kernel
theorem dX2_digestOn_24 : decode cX2_digestOn 24 = .ok (.ldc2_w 36, 3) := by decide +kernel
theorem dX2_digestOn_27 : decode cX2_digestOn 27 = .ok (.lload_n 3, 1) := by decide +kernel
theorem dX2_digestOn_28 : decode cX2_digestOn 28 = .ok (.lmul, 1) := by decide +kernel
theorem dX2_digestOn_29 : decode cX2_digestOn 29 = .ok (.aload_n 0, 1) := by decide +kernel
theorem dX2_digestOn_30 : decode cX2_digestOn 30 = .ok (.getfield 21, 3) := by decide +kernel
theorem dX2_digestOn_33 : decode cX2_digestOn 33 = .ok (.iload 5, 2) := by decide +kernel
theorem dX2_digestOn_35 : decode cX2_digestOn 35 = .ok (.iaload, 1) := by decide +kernel
theorem dX2_digestOn_36 : decode cX2_digestOn 36 = .ok (.i2l, 1) := by decide +kernel
theorem dX2_digestOn_37 : decode cX2_digestOn 37 = .ok (.ladd, 1) := by decide +kernel
theorem dX2_digestOn_38 : decode cX2_digestOn 38 = .ok (.lstore_n 3, 1) := by decide +kernel
theorem dX2_digestOn_39 : decode cX2_digestOn 39 = .ok (.iinc 5 1, 3) := by decide +kernel
theorem dX2_digestOn_42 : decode cX2_digestOn 42 = .ok (.goto (-27), 3) := by decide +kernel
theorem dX2_digestOn_45 : decode cX2_digestOn 45 = .ok (.lload_n 3, 1) := by decide +kernel
theorem dX2_digestOn_46 : decode cX2_digestOn 46 = .ok (.lreturn, 1) := by decide +kernel
theorem dX3_init_0 : decode cX3_init 0 = .ok (.aload_n 0, 1) := by decide +kernel
theorem dX3_init_1 : decode cX3_init 1 = .ok (.invokespecial 3, 3) := by decide +kernel
theorem dX3_init_4 : decode cX3_init 4 = .ok (.aload_n 0, 1) := by decide +kernel
theorem dX3_init_5 : decode cX3_init 5 = .ok (.bipush 8, 2) := by decide +kernel
theorem dX3_init_7 : decode cX3_init 7 = .ok (.newarray .int, 2) := by decide +kernel
theorem dX3_init_9 : decode cX3_init 9 = .ok (.putfield 9, 3) := by decide +kernel
theorem dX3_init_12 : decode cX3_init 12 = .ok (.aload_n 0, 1) := by decide +kernel
theorem dX3_init_13 : decode cX3_init 13 = .ok (.bipush 8, 2) := by decide +kernel
theorem dX3_init_15 : decode cX3_init 15 = .ok (.newarray .int, 2) := by decide +kernel
theorem dX3_init_17 : decode cX3_init 17 = .ok (.putfield 15, 3) := by decide +kernel
theorem dX3_init_20 : decode cX3_init 20 = .ok (.aload_n 0, 1) := by decide +kernel
theorem dX3_init_21 : decode cX3_init 21 = .ok (.bipush (-9), 2) := by decide +kernel
theorem dX3_init_23 : decode cX3_init 23 = .ok (.putfield 18, 3) := by decide +kernel
theorem dX3_init_26 : decode cX3_init 26 = .ok (.return_, 1) := by decide +kernel
theorem dX3_numberOf_0 : decode cX3_numberOf 0 = .ok (.iconst 0, 1) := by decide +kernel
theorem dX3_numberOf_1 : decode cX3_numberOf 1 = .ok (.istore 4, 2) := by decide +kernel
theorem dX3_numberOf_3 : decode cX3_numberOf 3 = .ok (.iload 4, 2) := by decide +kernel
theorem dX3_numberOf_5 : decode cX3_numberOf 5 = .ok (.bipush 8, 2) := by decide +kernel
theorem dX3_numberOf_7 : decode cX3_numberOf 7 = .ok (.if_icmp .ge 30, 3) := by decide +kernel
theorem dX3_numberOf_10 : decode cX3_numberOf 10 = .ok (.aload_n 0, 1) := by decide +kernel
theorem dX3_numberOf_11 : decode cX3_numberOf 11 = .ok (.getfield 9, 3) := by decide +kernel
theorem dX3_numberOf_14 : decode cX3_numberOf 14 = .ok (.iload 4, 2) := by decide +kernel
theorem dX3_numberOf_16 : decode cX3_numberOf 16 = .ok (.iload 4, 2) := by decide +kernel
theorem dX3_numberOf_18 : decode cX3_numberOf 18 = .ok (.aload_n 1, 1) := by decide +kernel
theorem dX3_numberOf_19 : decode cX3_numberOf 19 = .ok (.invokevirtual 22, 3) := by decide +kernel
theorem dX3_numberOf_22 : decode cX3_numberOf 22 = .ok (.if_icmp .ne 7, 3) := by decide +kernel
theorem dX3_numberOf_25 : decode cX3_numberOf 25 = .ok (.iconst 1, 1) := by decide +kernel
theorem dX3_numberOf_26 : decode cX3_numberOf 26 = .ok (.goto 4, 3) := by decide +kernel
theorem dX3_numberOf_29 : decode cX3_numberOf 29 = .ok (.iconst 0, 1) := by decide +kernel
theorem dX3_numberOf_30 : decode cX3_numberOf 30 = .ok (.iastore, 1) := by decide +kernel
theorem dX3_numberOf_31 : decode cX3_numberOf 31 = .ok (.iinc 4 1, 3) := by decide +kernel
theorem dX3_numberOf_34 : decode cX3_numberOf 34 = .ok (.goto (-31), 3) := by decide +kernel
theorem dX3_numberOf_37 : decode cX3_numberOf 37 = .ok (.aload_n 0, 1) := by decide +kernel
theorem dX3_numberOf_38 : decode cX3_numberOf 38 = .ok (.bipush (-9), 2) := by decide +kernel
theorem dX3_numberOf_40 : decode cX3_numberOf 40 = .ok (.putfield 18, 3) := by decide +kernel
theorem dX3_numberOf_43 : decode cX3_numberOf 43 = .ok (.iconst 0, 1) := by decide +kernel
theorem dX3_numberOf_44 : decode cX3_numberOf 44 = .ok (.istore 4, 2) := by decide +kernel
theorem dX3_numberOf_46 : decode cX3_numberOf 46 = .ok (.iload 4, 2) := by decide +kernel
theorem dX3_numberOf_48 : decode cX3_numberOf 48 = .ok (.iload_n 2, 1) := by decide +kernel
theorem dX3_numberOf_49 : decode cX3_numberOf 49 = .ok (.if_icmp .ge 31, 3) := by decide +kernel
theorem dX3_numberOf_52 : decode cX3_numberOf 52 = .ok (.aload_n 0, 1) := by decide +kernel
theorem dX3_numberOf_53 : decode cX3_numberOf 53 = .ok (.aload_n 0, 1) := by decide +kernel
theorem dX3_numberOf_54 : decode cX3_numberOf 54 = .ok (.aload_n 1, 1) := by decide +kernel
theorem dX3_numberOf_55 : decode cX3_numberOf 55 = .ok (.getfield 28, 3) := by decide +kernel
theorem dX3_numberOf_58 : decode cX3_numberOf 58 = .ok (.iconst 0, 1) := by decide +kernel
theorem dX3_numberOf_59 : decode cX3_numberOf 59 = .ok (.iaload, 1) := by decide +kernel
theorem dX3_numberOf_60 : decode cX3_numberOf 60 = .ok (.iload_n 3, 1) := by decide +kernel
theorem dX3_numberOf_61 : decode cX3_numberOf 61 = .ok (.iand, 1) := by decide +kernel
theorem dX3_numberOf_62 : decode cX3_numberOf 62 = .ok (.invokevirtual 31, 3) := by decide +kernel
theorem dX3_numberOf_65 : decode cX3_numberOf 65 = .ok (.putfield 18, 3) := by decide +kernel
theorem dX3_numberOf_68 : decode cX3_numberOf 68 = .ok (.aload_n 0, 1) := by decide +kernel
theorem dX3_numberOf_69 : decode cX3_numberOf 69 = .ok (.aload_n 1, 1) := by decide +kernel
theorem dX3_numberOf_70 : decode cX3_numberOf 70 = .ok (.iload_n 3, 1) := by decide +kernel
theorem dX3_numberOf_71 : decode cX3_numberOf 71 = .ok (.invokevirtual 35, 3) := by decide +kernel
theorem dX3_numberOf_74 : decode cX3_numberOf 74 = .ok (.iinc 4 1, 3) := by decide +kernel
theorem dX3_numberOf_77 : decode cX3_numberOf 77 = .ok (.goto (-31), 3) := by decide +kernel
theorem dX3_numberOf_80 : decode cX3_numberOf 80 = .ok (.aload_n 0, 1) := by decide +kernel
theorem dX3_numberOf_81 : decode cX3_numberOf 81 = .ok (.getfield 9, 3) := by decide +kernel
theorem dX3_numberOf_84 : decode cX3_numberOf 84 = .ok (.iconst 0, 1) := by decide +kernel
theorem dX3_numberOf_85 : decode cX3_numberOf 85 = .ok (.iaload, 1) := by decide +kernel
theorem dX3_numberOf_86 : decode cX3_numberOf 86 = .ok (.ireturn, 1) := by decide +kernel
theorem dX3_leastOpen_0 : decode cX3_leastOpen 0 = .ok (.iconst 0, 1) := by decide +kernel
theorem dX3_leastOpen_1 : decode cX3_leastOpen 1 = .ok (.istore_n 2, 1) := by decide +kernel
theorem dX3_leastOpen_2 : decode cX3_leastOpen 2 = .ok (.iload_n 2, 1) := by decide +kernel
theorem dX3_leastOpen_3 : decode cX3_leastOpen 3 = .ok (.bipush 8, 2) := by decide +kernel
theorem dX3_leastOpen_5 : decode cX3_leastOpen 5 = .ok (.if_icmp .ge 29, 3) := by decide +kernel
theorem dX3_leastOpen_8 : decode cX3_leastOpen 8 = .ok (.iload_n 1, 1) := by decide +kernel
theorem dX3_leastOpen_9 : decode cX3_leastOpen 9 = .ok (.iload_n 2, 1) := by decide +kernel
theorem dX3_leastOpen_10 : decode cX3_leastOpen 10 = .ok (.ishr, 1) := by decide +kernel
theorem dX3_leastOpen_11 : decode cX3_leastOpen 11 = .ok (.iconst 1, 1) := by decide +kernel
theorem dX3_leastOpen_12 : decode cX3_leastOpen 12 = .ok (.iand, 1) := by decide +kernel
theorem dX3_leastOpen_13 : decode cX3_leastOpen 13 = .ok (.iconst 1, 1) := by decide +kernel
theorem dX3_leastOpen_14 : decode cX3_leastOpen 14 = .ok (.if_icmp .ne 14, 3) := by decide +kernel
theorem dX3_leastOpen_17 : decode cX3_leastOpen 17 = .ok (.aload_n 0, 1) := by decide +kernel
theorem dX3_leastOpen_18 : decode cX3_leastOpen 18 = .ok (.getfield 9, 3) := by decide +kernel
theorem dX3_leastOpen_21 : decode cX3_leastOpen 21 = .ok (.iload_n 2, 1) := by decide +kernel
theorem dX3_leastOpen_22 : decode cX3_leastOpen 22 = .ok (.iaload, 1) := by decide +kernel
theorem dX3_leastOpen_23 : decode cX3_leastOpen 23 = .ok (.ifCond .le 5, 3) := by decide +kernel
theorem dX3_leastOpen_26 : decode cX3_leastOpen 26 = .ok (.iload_n 2, 1) := by decide +kernel
theorem dX3_leastOpen_27 : decode cX3_leastOpen 27 = .ok (.ireturn, 1) := by decide +kernel
theorem dX3_leastOpen_28 : decode cX3_leastOpen 28 = .ok (.iinc 2 1, 3) := by decide +kernel
theorem dX3_leastOpen_31 : decode cX3_leastOpen 31 = .ok (.goto (-29), 3) := by decide +kernel
theorem dX3_leastOpen_34 : decode cX3_leastOpen 34 = .ok (.bipush (-9), 2) := by decide +kernel
theorem dX3_leastOpen_36 : decode cX3_leastOpen 36 = .ok (.ireturn, 1) := by decide +kernel
theorem dX3_lengthen_0 : decode cX3_lengthen 0 = .ok (.iconst 0, 1) := by decide +kernel
theorem dX3_lengthen_1 : decode cX3_lengthen 1 = .ok (.istore_n 3, 1) := by decide +kernel
theorem dX3_lengthen_2 : decode cX3_lengthen 2 = .ok (.iload_n 3, 1) := by decide +kernel
theorem dX3_lengthen_3 : decode cX3_lengthen 3 = .ok (.aload_n 1, 1) := by decide +kernel
theorem dX3_lengthen_4 : decode cX3_lengthen 4 = .ok (.getfield 39, 3) := by decide +kernel
theorem dX3_lengthen_7 : decode cX3_lengthen 7 = .ok (.if_icmp .ge 71, 3) := by decide +kernel
theorem dX3_lengthen_10 : decode cX3_lengthen 10 = .ok (.aload_n 1, 1) := by decide +kernel
theorem dX3_lengthen_11 : decode cX3_lengthen 11 = .ok (.getfield 28, 3) := by decide +kernel
theorem dX3_lengthen_14 : decode cX3_lengthen 14 = .ok (.iload_n 3, 1) := by decide +kernel
theorem dX3_lengthen_15 : decode cX3_lengthen 15 = .ok (.iaload, 1) := by decide +kernel
theorem dX3_lengthen_16 : decode cX3_lengthen 16 = .ok (.iload_n 2, 1) := by decide +kernel
theorem dX3_lengthen_17 : decode cX3_lengthen 17 = .ok (.iand, 1) := by decide +kernel
theorem dX3_lengthen_18 : decode cX3_lengthen 18 = .ok (.istore 4, 2) := by decide +kernel
theorem dX3_lengthen_20 : decode cX3_lengthen 20 = .ok (.iconst 0, 1) := by decide +kernel
theorem dX3_lengthen_21 : decode cX3_lengthen 21 = .ok (.istore 5, 2) := by decide +kernel
theorem dX3_lengthen_23 : decode cX3_lengthen 23 = .ok (.iconst 0, 1) := by decide +kernel
theorem dX3_lengthen_24 : decode cX3_lengthen 24 = .ok (.istore 6, 2) := by decide +kernel
theorem dX3_lengthen_26 : decode cX3_lengthen 26 = .ok (.iload 6, 2) := by decide +kernel
theorem dX3_lengthen_28 : decode cX3_lengthen 28 = .ok (.aload_n 1, 1) := by decide +kernel
theorem dX3_lengthen_29 : decode cX3_lengthen 29 = .ok (.getfield 39, 3) := by decide +kernel
theorem dX3_lengthen_32 : decode cX3_lengthen 32 = .ok (.if_icmp .ge 32, 3) := by decide +kernel
theorem dX3_lengthen_35 : decode cX3_lengthen 35 = .ok (.iload 4, 2) := by decide +kernel
theorem dX3_lengthen_37 : decode cX3_lengthen 37 = .ok (.iload 6, 2) := by decide +kernel
theorem dX3_lengthen_39 : decode cX3_lengthen 39 = .ok (.ishr, 1) := by decide +kernel
theorem dX3_lengthen_40 : decode cX3_lengthen 40 = .ok (.iconst 1, 1) := by decide +kernel
theorem dX3_lengthen_41 : decode cX3_lengthen 41 = .ok (.iand, 1) := by decide +kernel
theorem dX3_lengthen_42 : decode cX3_lengthen 42 = .ok (.iconst 1, 1) := by decide +kernel
theorem dX3_lengthen_43 : decode cX3_lengthen 43 = .ok (.if_icmp .ne 15, 3) := by decide +kernel
theorem dX3_lengthen_46 : decode cX3_lengthen 46 = .ok (.iload 5, 2) := by decide +kernel
theorem dX3_lengthen_48 : decode cX3_lengthen 48 = .ok (.aload_n 0, 1) := by decide +kernel
theorem dX3_lengthen_49 : decode cX3_lengthen 49 = .ok (.getfield 9, 3) := by decide +kernel
theorem dX3_lengthen_52 : decode cX3_lengthen 52 = .ok (.iload 6, 2) := by decide +kernel
theorem dX3_lengthen_54 : decode cX3_lengthen 54 = .ok (.iaload, 1) := by decide +kernel
theorem dX3_lengthen_55 : decode cX3_lengthen 55 = .ok (.iadd, 1) := by decide +kernel
theorem dX3_lengthen_56 : decode cX3_lengthen 56 = .ok (.istore 5, 2) := by decide +kernel
theorem dX3_lengthen_58 : decode cX3_lengthen 58 = .ok (.iinc 6 1, 3) := by decide +kernel
theorem dX3_lengthen_61 : decode cX3_lengthen 61 = .ok (.goto (-35), 3) := by decide +kernel
theorem dX3_lengthen_64 : decode cX3_lengthen 64 = .ok (.aload_n 0, 1) := by decide +kernel
theorem dX3_lengthen_65 : decode cX3_lengthen 65 = .ok (.getfield 15, 3) := by decide +kernel
theorem dX3_lengthen_68 : decode cX3_lengthen 68 = .ok (.iload_n 3, 1) := by decide +kernel
theorem dX3_lengthen_69 : decode cX3_lengthen 69 = .ok (.iload 5, 2) := by decide +kernel
theorem dX3_lengthen_71 : decode cX3_lengthen 71 = .ok (.iastore, 1) := by decide +kernel
theorem dX3_lengthen_72 : decode cX3_lengthen 72 = .ok (.iinc 3 1, 3) := by decide +kernel
theorem dX3_lengthen_75 : decode cX3_lengthen 75 = .ok (.goto (-73), 3) := by decide +kernel
theorem dX3_lengthen_78 : decode cX3_lengthen 78 = .ok (.aload_n 0, 1) := by decide +kernel
theorem dX3_lengthen_79 : decode cX3_lengthen 79 = .ok (.getfield 15, 3) := by decide +kernel
theorem dX3_lengthen_82 : decode cX3_lengthen 82 = .ok (.iconst 0, 1) := by decide +kernel
theorem dX3_lengthen_83 : decode cX3_lengthen 83 = .ok (.aload_n 0, 1) := by decide +kernel
theorem dX3_lengthen_84 : decode cX3_lengthen 84 = .ok (.getfield 9, 3) := by decide +kernel
theorem dX3_lengthen_87 : decode cX3_lengthen 87 = .ok (.iconst 0, 1) := by decide +kernel
theorem dX3_lengthen_88 : decode cX3_lengthen 88 = .ok (.bipush 8, 2) := by decide +kernel
theorem dX3_lengthen_90 : decode cX3_lengthen 90 = .ok (.invokestatic 42, 3) := by decide +kernel
theorem dX3_lengthen_93 : decode cX3_lengthen 93 = .ok (.return_, 1) := by decide +kernel
theorem dX3_commonPlaces_0 : decode cX3_commonPlaces 0 = .ok (.aload_n 0, 1) := by decide +kernel
theorem dX3_commonPlaces_1 : decode cX3_commonPlaces 1 = .ok (.aload_n 1, 1) := by decide +kernel
theorem dX3_commonPlaces_2 : decode cX3_commonPlaces 2 = .ok (.iload_n 2, 1) := by decide +kernel
theorem dX3_commonPlaces_3 : decode cX3_commonPlaces 3 = .ok (.iload_n 3, 1) := by decide +kernel
theorem dX3_commonPlaces_4 : decode cX3_commonPlaces 4 = .ok (.invokevirtual 48, 3) := by decide +kernel
theorem dX3_commonPlaces_7 : decode cX3_commonPlaces 7 = .ok (.ifCond .ne 5, 3) := by decide +kernel
theorem dX3_commonPlaces_10 : decode cX3_commonPlaces 10 = .ok (.iconst 0, 1) := by decide +kernel
theorem dX3_commonPlaces_11 : decode cX3_commonPlaces 11 = .ok (.ireturn, 1) := by decide +kernel
theorem dX3_commonPlaces_12 : decode cX3_commonPlaces 12 = .ok (.iconst 1, 1) := by decide +kernel
theorem dX3_commonPlaces_13 : decode cX3_commonPlaces 13 = .ok (.iconst 1, 1) := by decide +kernel
theorem dX3_commonPlaces_14 : decode cX3_commonPlaces 14 = .ok (.aload_n 1, 1) := by decide +kernel
theorem dX3_commonPlaces_15 : decode cX3_commonPlaces 15 = .ok (.invokevirtual 22, 3) := by decide +kernel
theorem dX3_commonPlaces_18 : decode cX3_commonPlaces 18 = .ok (.ishl, 1) := by decide +kernel
theorem dX3_commonPlaces_19 : decode cX3_commonPlaces 19 = .ok (.ior, 1) := by decide +kernel
theorem dX3_commonPlaces_20 : decode cX3_commonPlaces 20 = .ok (.istore 4, 2) := by decide +kernel
theorem dX3_commonPlaces_22 : decode cX3_commonPlaces 22 = .ok (.iload 4, 2) := by decide +kernel
theorem dX3_commonPlaces_24 : decode cX3_commonPlaces 24 = .ok (.istore 5, 2) := by decide +kernel
theorem dX3_commonPlaces_26 : decode cX3_commonPlaces 26 = .ok (.iconst 0, 1) := by decide +kernel
theorem dX3_commonPlaces_27 : decode cX3_commonPlaces 27 = .ok (.istore 6, 2) := by decide +kernel
theorem dX3_commonPlaces_29 : decode cX3_commonPlaces 29 = .ok (.iload 6, 2) := by decide +kernel
theorem dX3_commonPlaces_31 : decode cX3_commonPlaces 31 = .ok (.aload_n 1, 1) := by decide +kernel
theorem dX3_commonPlaces_32 : decode cX3_commonPlaces 32 = .ok (.getfield 39, 3) := by decide +kernel
theorem dX3_commonPlaces_35 : decode cX3_commonPlaces 35 = .ok (.if_icmp .ge 45, 3) := by decide +kernel
theorem dX3_commonPlaces_38 : decode cX3_commonPlaces 38 = .ok (.iconst 1, 1) := by decide +kernel
theorem dX3_commonPlaces_39 : decode cX3_commonPlaces 39 = .ok (.iload 6, 2) := by decide +kernel
theorem dX3_commonPlaces_41 : decode cX3_commonPlaces 41 = .ok (.ishl, 1) := by decide +kernel
theorem dX3_commonPlaces_42 : decode cX3_commonPlaces 42 = .ok (.istore 7, 2) := by decide +kernel
theorem dX3_commonPlaces_44 : decode cX3_commonPlaces 44 = .ok (.iload 4, 2) := by decide +kernel
theorem dX3_commonPlaces_46 : decode cX3_commonPlaces 46 = .ok (.iload 7, 2) := by decide +kernel
theorem dX3_commonPlaces_48 : decode cX3_commonPlaces 48 = .ok (.iand, 1) := by decide +kernel
theorem dX3_commonPlaces_49 : decode cX3_commonPlaces 49 = .ok (.ifCond .ne 25, 3) := by decide +kernel
theorem dX3_commonPlaces_52 : decode cX3_commonPlaces 52 = .ok (.aload_n 0, 1) := by decide +kernel
theorem dX3_commonPlaces_53 : decode cX3_commonPlaces 53 = .ok (.aload_n 1, 1) := by decide +kernel
theorem dX3_commonPlaces_54 : decode cX3_commonPlaces 54 = .ok (.iload_n 2, 1) := by decide +kernel
theorem dX3_commonPlaces_55 : decode cX3_commonPlaces 55 = .ok (.iload_n 3, 1) := by decide +kernel
theorem dX3_commonPlaces_56 : decode cX3_commonPlaces 56 = .ok (.iload 7, 2) := by decide +kernel
theorem dX3_commonPlaces_58 : decode cX3_commonPlaces 58 = .ok (.iconst (-1), 1) := by decide +kernel
theorem dX3_commonPlaces_59 : decode cX3_commonPlaces 59 = .ok (.ixor, 1) := by decide +kernel
theorem dX3_commonPlaces_60 : decode cX3_commonPlaces 60 = .ok (.iand, 1) := by decide +kernel
theorem dX3_commonPlaces_61 : decode cX3_commonPlaces 61 = .ok (.invokevirtual 48, 3) := by decide +kernel
theorem dX3_commonPlaces_64 : decode cX3_commonPlaces 64 = .ok (.ifCond .ne 10, 3) := by decide +kernel
theorem dX3_commonPlaces_67 : decode cX3_commonPlaces 67 = .ok (.iload 5, 2) := by decide +kernel
theorem dX3_commonPlaces_69 : decode cX3_commonPlaces 69 = .ok (.iload 7, 2) := by decide +kernel
theorem dX3_commonPlaces_71 : decode cX3_commonPlaces 71 = .ok (.ior, 1) := by decide +kernel
theorem dX3_commonPlaces_72 : decode cX3_commonPlaces 72 = .ok (.istore 5, 2) := by decide +kernel
theorem dX3_commonPlaces_74 : decode cX3_commonPlaces 74 = .ok (.iinc 6 1, 3) := by decide +kernel
theorem dX3_commonPlaces_77 : decode cX3_commonPlaces 77 = .ok (.goto (-48), 3) := by decide +kernel
theorem dX3_commonPlaces_80 : decode cX3_commonPlaces 80 = .ok (.iload 5, 2) := by decide +kernel
theorem dX3_commonPlaces_82 : decode cX3_commonPlaces 82 = .ok (.ireturn, 1) := by decide +kernel
theorem dX4_init_0 : decode cX4_init 0 = .ok (.aload_n 0, 1) := by decide +kernel
theorem dX4_init_1 : decode cX4_init 1 = .ok (.invokespecial 3, 3) := by decide +kernel
theorem dX4_init_4 : decode cX4_init 4 = .ok (.aload_n 0, 1) := by decide +kernel
theorem dX4_init_5 : decode cX4_init 5 = .ok (.iconst 0, 1) := by decide +kernel
theorem dX4_init_6 : decode cX4_init 6 = .ok (.putfield 9, 3) := by decide +kernel
theorem dX4_init_9 : decode cX4_init 9 = .ok (.aload_n 0, 1) := by decide +kernel
theorem dX4_init_10 : decode cX4_init 10 = .ok (.iconst 0, 1) := by decide +kernel
theorem dX4_init_11 : decode cX4_init 11 = .ok (.putfield 15, 3) := by decide +kernel
theorem dX4_init_14 : decode cX4_init 14 = .ok (.aload_n 0, 1) := by decide +kernel
theorem dX4_init_15 : decode cX4_init 15 = .ok (.iconst 0, 1) := by decide +kernel
theorem dX4_init_16 : decode cX4_init 16 = .ok (.putfield 18, 3) := by decide +kernel
theorem dX4_init_19 : decode cX4_init 19 = .ok (.aload_n 0, 1) := by decide +kernel
theorem dX4_init_20 : decode cX4_init 20 = .ok (.bipush 8, 2) := by decide +kernel
theorem dX4_init_22 : decode cX4_init 22 = .ok (.newarray .int, 2) := by decide +kernel
theorem dX4_init_24 : decode cX4_init 24 = .ok (.putfield 21, 3) := by decide +kernel
theorem dX4_init_27 : decode cX4_init 27 = .ok (.aload_n 0, 1) := by decide +kernel
theorem dX4_init_28 : decode cX4_init 28 = .ok (.bipush 6, 2) := by decide +kernel
theorem dX4_init_30 : decode cX4_init 30 = .ok (.newarray .int, 2) := by decide +kernel
theorem dX4_init_32 : decode cX4_init 32 = .ok (.putfield 25, 3) := by decide +kernel
theorem dX4_init_35 : decode cX4_init 35 = .ok (.aload_n 0, 1) := by decide +kernel
theorem dX4_init_36 : decode cX4_init 36 = .ok (.bipush 8, 2) := by decide +kernel
theorem dX4_init_38 : decode cX4_init 38 = .ok (.newarray .int, 2) := by decide +kernel
theorem dX4_init_40 : decode cX4_init 40 = .ok (.putfield 28, 3) := by decide +kernel
theorem dX4_init_43 : decode cX4_init 43 = .ok (.aload_n 0, 1) := by decide +kernel
theorem dX4_init_44 : decode cX4_init 44 = .ok (.iconst 3, 1) := by decide +kernel
theorem dX4_init_45 : decode cX4_init 45 = .ok (.bipush 8, 2) := by decide +kernel
theorem dX4_init_47 : decode cX4_init 47 = .ok (.multianewarray 31 2, 4) := by decide +kernel
theorem dX4_init_51 : decode cX4_init 51 = .ok (.putfield 33, 3) := by decide +kernel
theorem dX4_init_54 : decode cX4_init 54 = .ok (.aload_n 0, 1) := by decide +kernel
theorem dX4_init_55 : decode cX4_init 55 = .ok (.bipush 8, 2) := by decide +kernel
theorem dX4_init_57 : decode cX4_init 57 = .ok (.newarray .int, 2) := by decide +kernel
theorem dX4_init_59 : decode cX4_init 59 = .ok (.putfield 36, 3) := by decide +kernel
theorem dX4_init_62 : decode cX4_init 62 = .ok (.aload_n 0, 1) := by decide +kernel
theorem dX4_init_63 : decode cX4_init 63 = .ok (.iconst 4, 1) := by decide +kernel
theorem dX4_init_64 : decode cX4_init 64 = .ok (.newarray .int, 2) := by decide +kernel
theorem dX4_init_66 : decode cX4_init 66 = .ok (.putfield 39, 3) := by decide +kernel
theorem dX4_init_69 : decode cX4_init 69 = .ok (.aload_n 0, 1) := by decide +kernel
theorem dX4_init_70 : decode cX4_init 70 = .ok (.iconst 3, 1) := by decide +kernel
theorem dX4_init_71 : decode cX4_init 71 = .ok (.newarray .int, 2) := by decide +kernel
theorem dX4_init_73 : decode cX4_init 73 = .ok (.putfield 42, 3) := by decide +kernel
theorem dX4_init_76 : decode cX4_init 76 = .ok (.aload_n 0, 1) := by decide +kernel
theorem dX4_init_77 : decode cX4_init 77 = .ok (.bipush 31, 2) := by decide +kernel
theorem dX4_init_79 : decode cX4_init 79 = .ok (.newarray .int, 2) := by decide +kernel
theorem dX4_init_81 : decode cX4_init 81 = .ok (.putfield 45, 3) := by decide +kernel
theorem dX4_init_84 : decode cX4_init 84 = .ok (.return_, 1) := by decide +kernel
theorem dX4_clear_0 : decode cX4_clear 0 = .ok (.aload_n 0, 1) := by decide +kernel
theorem dX4_clear_1 : decode cX4_clear 1 = .ok (.iconst 0, 1) := by decide +kernel
theorem dX4_clear_2 : decode cX4_clear 2 = .ok (.putfield 9, 3) := by decide +kernel
theorem dX4_clear_5 : decode cX4_clear 5 = .ok (.aload_n 0, 1) := by decide +kernel
theorem dX4_clear_6 : decode cX4_clear 6 = .ok (.iconst 0, 1) := by decide +kernel
theorem dX4_clear_7 : decode cX4_clear 7 = .ok (.putfield 15, 3) := by decide +kernel
theorem dX4_clear_10 : decode cX4_clear 10 = .ok (.aload_n 0, 1) := by decide +kernel
theorem dX4_clear_11 : decode cX4_clear 11 = .ok (.iconst 0, 1) := by decide +kernel
theorem dX4_clear_12 : decode cX4_clear 12 = .ok (.putfield 18, 3) := by decide +kernel
theorem dX4_clear_15 : decode cX4_clear 15 = .ok (.aload_n 0, 1) := by decide +kernel
theorem dX4_clear_16 : decode cX4_clear 16 = .ok (.getfield 45, 3) := by decide +kernel
theorem dX4_clear_19 : decode cX4_clear 19 = .ok (.iconst 0, 1) := by decide +kernel
theorem dX4_clear_20 : decode cX4_clear 20 = .ok (.iconst 0, 1) := by decide +kernel
theorem dX4_clear_21 : decode cX4_clear 21 = .ok (.iastore, 1) := by decide +kernel
theorem dX4_clear_22 : decode cX4_clear 22 = .ok (.iconst 0, 1) := by decide +kernel
theorem dX4_clear_23 : decode cX4_clear 23 = .ok (.istore_n 1, 1) := by decide +kernel
theorem dX4_clear_24 : decode cX4_clear 24 = .ok (.iload_n 1, 1) := by decide +kernel
theorem dX4_clear_25 : decode cX4_clear 25 = .ok (.bipush 6, 2) := by decide +kernel
theorem dX4_clear_27 : decode cX4_clear 27 = .ok (.if_icmp .ge 16, 3) := by decide +kernel
theorem dX4_clear_30 : decode cX4_clear 30 = .ok (.aload_n 0, 1) := by decide +kernel
theorem dX4_clear_31 : decode cX4_clear 31 = .ok (.getfield 25, 3) := by decide +kernel
theorem dX4_clear_34 : decode cX4_clear 34 = .ok (.iload_n 1, 1) := by decide +kernel
theorem dX4_clear_35 : decode cX4_clear 35 = .ok (.iconst 0, 1) := by decide +kernel
theorem dX4_clear_36 : decode cX4_clear 36 = .ok (.iastore, 1) := by decide +kernel
theorem dX4_clear_37 : decode cX4_clear 37 = .ok (.iinc 1 1, 3) := by decide +kernel
theorem dX4_clear_40 : decode cX4_clear 40 = .ok (.goto (-16), 3) := by decide +kernel
theorem dX4_clear_43 : decode cX4_clear 43 = .ok (.iconst 0, 1) := by decide +kernel
theorem dX4_clear_44 : decode cX4_clear 44 = .ok (.istore_n 1, 1) := by decide +kernel
theorem dX4_clear_45 : decode cX4_clear 45 = .ok (.iload_n 1, 1) := by decide +kernel
theorem dX4_clear_46 : decode cX4_clear 46 = .ok (.iconst 3, 1) := by decide +kernel
theorem dX4_clear_47 : decode cX4_clear 47 = .ok (.if_icmp .ge 16, 3) := by decide +kernel
theorem dX4_clear_50 : decode cX4_clear 50 = .ok (.aload_n 0, 1) := by decide +kernel
theorem dX4_clear_51 : decode cX4_clear 51 = .ok (.getfield 42, 3) := by decide +kernel
theorem dX4_clear_54 : decode cX4_clear 54 = .ok (.iload_n 1, 1) := by decide +kernel
theorem dX4_clear_55 : decode cX4_clear 55 = .ok (.iconst 0, 1) := by decide +kernel
theorem dX4_clear_56 : decode cX4_clear 56 = .ok (.iastore, 1) := by decide +kernel
theorem dX4_clear_57 : decode cX4_clear 57 = .ok (.iinc 1 1, 3) := by decide +kernel
theorem dX4_clear_60 : decode cX4_clear 60 = .ok (.goto (-15), 3) := by decide +kernel
theorem dX4_clear_63 : decode cX4_clear 63 = .ok (.return_, 1) := by decide +kernel
theorem dX4_become_0 : decode cX4_become 0 = .ok (.aload_n 0, 1) := by decide +kernel
theorem dX4_become_1 : decode cX4_become 1 = .ok (.aload_n 1, 1) := by decide +kernel
theorem dX4_become_2 : decode cX4_become 2 = .ok (.getfield 9, 3) := by decide +kernel
theorem dX4_become_5 : decode cX4_become 5 = .ok (.putfield 9, 3) := by decide +kernel
theorem dX4_become_8 : decode cX4_become 8 = .ok (.aload_n 0, 1) := by decide +kernel
theorem dX4_become_9 : decode cX4_become 9 = .ok (.aload_n 1, 1) := by decide +kernel
theorem dX4_become_10 : decode cX4_become 10 = .ok (.getfield 15, 3) := by decide +kernel
theorem dX4_become_13 : decode cX4_become 13 = .ok (.putfield 15, 3) := by decide +kernel
theorem dX4_become_16 : decode cX4_become 16 = .ok (.aload_n 0, 1) := by decide +kernel
theorem dX4_become_17 : decode cX4_become 17 = .ok (.aload_n 1, 1) := by decide +kernel
theorem dX4_become_18 : decode cX4_become 18 = .ok (.getfield 18, 3) := by decide +kernel
theorem dX4_become_21 : decode cX4_become 21 = .ok (.putfield 18, 3) := by decide +kernel
theorem dX4_become_24 : decode cX4_become 24 = .ok (.aload_n 1, 1) := by decide +kernel
theorem dX4_become_25 : decode cX4_become 25 = .ok (.getfield 21, 3) := by decide +kernel
theorem dX4_become_28 : decode cX4_become 28 = .ok (.iconst 0, 1) := by decide +kernel
theorem dX4_become_29 : decode cX4_become 29 = .ok (.aload_n 0, 1) := by decide +kernel
theorem dX4_become_30 : decode cX4_become 30 = .ok (.getfield 21, 3) := by decide +kernel
theorem dX4_become_33 : decode cX4_become 33 = .ok (.iconst 0, 1) := by decide +kernel
theorem dX4_become_34 : decode cX4_become 34 = .ok (.bipush 8, 2) := by decide +kernel
theorem dX4_become_36 : decode cX4_become 36 = .ok (.invokestatic 48, 3) := by decide +kernel
theorem dX4_become_39 : decode cX4_become 39 = .ok (.aload_n 1, 1) := by decide +kernel
theorem dX4_become_40 : decode cX4_become 40 = .ok (.getfield 25, 3) := by decide +kernel
theorem dX4_become_43 : decode cX4_become 43 = .ok (.iconst 0, 1) := by decide +kernel
theorem dX4_become_44 : decode cX4_become 44 = .ok (.aload_n 0, 1) := by decide +kernel
theorem dX4_become_45 : decode cX4_become 45 = .ok (.getfield 25, 3) := by decide +kernel
theorem dX4_become_48 : decode cX4_become 48 = .ok (.iconst 0, 1) := by decide +kernel
theorem dX4_become_49 : decode cX4_become 49 = .ok (.bipush 6, 2) := by decide +kernel
theorem dX4_become_51 : decode cX4_become 51 = .ok (.invokestatic 48, 3) := by decide +kernel
theorem dX4_become_54 : decode cX4_become 54 = .ok (.aload_n 1, 1) := by decide +kernel
theorem dX4_become_55 : decode cX4_become 55 = .ok (.getfield 28, 3) := by decide +kernel
theorem dX4_become_58 : decode cX4_become 58 = .ok (.iconst 0, 1) := by decide +kernel
theorem dX4_become_59 : decode cX4_become 59 = .ok (.aload_n 0, 1) := by decide +kernel
theorem dX4_become_60 : decode cX4_become 60 = .ok (.getfield 28, 3) := by decide +kernel
theorem dX4_become_63 : decode cX4_become 63 = .ok (.iconst 0, 1) := by decide +kernel
theorem dX4_become_64 : decode cX4_become 64 = .ok (.bipush 8, 2) := by decide +kernel
theorem dX4_become_66 : decode cX4_become 66 = .ok (.invokestatic 48, 3) := by decide +kernel
theorem dX4_become_69 : decode cX4_become 69 = .ok (.iconst 0, 1) := by decide +kernel
theorem dX4_become_70 : decode cX4_become 70 = .ok (.istore_n 2, 1) := by decide +kernel
theorem dX4_become_71 : decode cX4_become 71 = .ok (.iload_n 2, 1) := by decide +kernel
theorem dX4_become_72 : decode cX4_become 72 = .ok (.iconst 3, 1) := by decide +kernel
theorem dX4_become_73 : decode cX4_become 73 = .ok (.if_icmp .ge 28, 3) := by decide +kernel
theorem dX4_become_76 : decode cX4_become 76 = .ok (.aload_n 1, 1) := by decide +kernel
theorem dX4_become_77 : decode cX4_become 77 = .ok (.getfield 33, 3) := by decide +kernel
theorem dX4_become_80 : decode cX4_become 80 = .ok (.iload_n 2, 1) := by decide +kernel
theorem dX4_become_81 : decode cX4_become 81 = .ok (.aaload, 1) := by decide +kernel
theorem dX4_become_82 : decode cX4_become 82 = .ok (.iconst 0, 1) := by decide +kernel
theorem dX4_become_83 : decode cX4_become 83 = .ok (.aload_n 0, 1) := by decide +kernel
theorem dX4_become_84 : decode cX4_become 84 = .ok (.getfield 33, 3) := by decide +kernel
theorem dX4_become_87 : decode cX4_become 87 = .ok (.iload_n 2, 1) := by decide +kernel
theorem dX4_become_88 : decode cX4_become 88 = .ok (.aaload, 1) := by decide +kernel
theorem dX4_become_89 : decode cX4_become 89 = .ok (.iconst 0, 1) := by decide +kernel
theorem dX4_become_90 : decode cX4_become 90 = .ok (.bipush 8, 2) := by decide +kernel
theorem dX4_become_92 : decode cX4_become 92 = .ok (.invokestatic 48, 3) := by decide +kernel
theorem dX4_become_95 : decode cX4_become 95 = .ok (.iinc 2 1, 3) := by decide +kernel
theorem dX4_become_98 : decode cX4_become 98 = .ok (.goto (-27), 3) := by decide +kernel
theorem dX4_become_101 : decode cX4_become 101 = .ok (.aload_n 1, 1) := by decide +kernel
theorem dX4_become_102 : decode cX4_become 102 = .ok (.getfield 36, 3) := by decide +kernel
theorem dX4_become_105 : decode cX4_become 105 = .ok (.iconst 0, 1) := by decide +kernel
theorem dX4_become_106 : decode cX4_become 106 = .ok (.aload_n 0, 1) := by decide +kernel
theorem dX4_become_107 : decode cX4_become 107 = .ok (.getfield 36, 3) := by decide +kernel
theorem dX4_become_110 : decode cX4_become 110 = .ok (.iconst 0, 1) := by decide +kernel
theorem dX4_become_111 : decode cX4_become 111 = .ok (.bipush 8, 2) := by decide +kernel
theorem dX4_become_113 : decode cX4_become 113 = .ok (.invokestatic 48, 3) := by decide +kernel
theorem dX4_become_116 : decode cX4_become 116 = .ok (.aload_n 1, 1) := by decide +kernel
theorem dX4_become_117 : decode cX4_become 117 = .ok (.getfield 39, 3) := by decide +kernel
theorem dX4_become_120 : decode cX4_become 120 = .ok (.iconst 0, 1) := by decide +kernel
theorem dX4_become_121 : decode cX4_become 121 = .ok (.aload_n 0, 1) := by decide +kernel
theorem dX4_become_122 : decode cX4_become 122 = .ok (.getfield 39, 3) := by decide +kernel
theorem dX4_become_125 : decode cX4_become 125 = .ok (.iconst 0, 1) := by decide +kernel
theorem dX4_become_126 : decode cX4_become 126 = .ok (.iconst 4, 1) := by decide +kernel
theorem dX4_become_127 : decode cX4_become 127 = .ok (.invokestatic 48, 3) := by decide +kernel
theorem dX4_become_130 : decode cX4_become 130 = .ok (.aload_n 1, 1) := by decide +kernel
theorem dX4_become_131 : decode cX4_become 131 = .ok (.getfield 42, 3) := by decide +kernel
theorem dX4_become_134 : decode cX4_become 134 = .ok (.iconst 0, 1) := by decide +kernel
theorem dX4_become_135 : decode cX4_become 135 = .ok (.aload_n 0, 1) := by decide +kernel
theorem dX4_become_136 : decode cX4_become 136 = .ok (.getfield 42, 3) := by decide +kernel
theorem dX4_become_139 : decode cX4_become 139 = .ok (.iconst 0, 1) := by decide +kernel
theorem dX4_become_140 : decode cX4_become 140 = .ok (.iconst 3, 1) := by decide +kernel
theorem dX4_become_141 : decode cX4_become 141 = .ok (.invokestatic 48, 3) := by decide +kernel
theorem dX4_become_144 : decode cX4_become 144 = .ok (.aload_n 1, 1) := by decide +kernel
theorem dX4_become_145 : decode cX4_become 145 = .ok (.getfield 45, 3) := by decide +kernel
theorem dX4_become_148 : decode cX4_become 148 = .ok (.iconst 0, 1) := by decide +kernel
theorem dX4_become_149 : decode cX4_become 149 = .ok (.aload_n 0, 1) := by decide +kernel
theorem dX4_become_150 : decode cX4_become 150 = .ok (.getfield 45, 3) := by decide +kernel
theorem dX4_become_153 : decode cX4_become 153 = .ok (.iconst 0, 1) := by decide +kernel
theorem dX4_become_154 : decode cX4_become 154 = .ok (.bipush 31, 2) := by decide +kernel
theorem dX4_become_156 : decode cX4_become 156 = .ok (.invokestatic 48, 3) := by decide +kernel
theorem dX4_become_159 : decode cX4_become 159 = .ok (.return_, 1) := by decide +kernel
theorem dX4_addPlace_0 : decode cX4_addPlace 0 = .ok (.aload_n 0, 1) := by decide +kernel
theorem dX4_addPlace_1 : decode cX4_addPlace 1 = .ok (.getfield 9, 3) := by decide +kernel
theorem dX4_addPlace_4 : decode cX4_addPlace 4 = .ok (.istore_n 2, 1) := by decide +kernel
theorem dX4_addPlace_5 : decode cX4_addPlace 5 = .ok (.aload_n 0, 1) := by decide +kernel
theorem dX4_addPlace_6 : decode cX4_addPlace 6 = .ok (.dup, 1) := by decide +kernel
theorem dX4_addPlace_7 : decode cX4_addPlace 7 = .ok (.getfield 9, 3) := by decide +kernel
theorem dX4_addPlace_10 : decode cX4_addPlace 10 = .ok (.iconst 1, 1) := by decide +kernel
theorem dX4_addPlace_11 : decode cX4_addPlace 11 = .ok (.iadd, 1) := by decide +kernel
theorem dX4_addPlace_12 : decode cX4_addPlace 12 = .ok (.putfield 9, 3) := by decide +kernel
theorem dX4_addPlace_15 : decode cX4_addPlace 15 = .ok (.aload_n 0, 1) := by decide +kernel
theorem dX4_addPlace_16 : decode cX4_addPlace 16 = .ok (.getfield 21, 3) := by decide +kernel
theorem dX4_addPlace_19 : decode cX4_addPlace 19 = .ok (.iload_n 2, 1) := by decide +kernel
theorem dX4_addPlace_20 : decode cX4_addPlace 20 = .ok (.iload_n 1, 1) := by decide +kernel
theorem dX4_addPlace_21 : decode cX4_addPlace 21 = .ok (.iastore, 1) := by decide +kernel
theorem dX4_addPlace_22 : decode cX4_addPlace 22 = .ok (.aload_n 0, 1) := by decide +kernel
theorem dX4_addPlace_23 : decode cX4_addPlace 23 = .ok (.getfield 28, 3) := by decide +kernel
theorem dX4_addPlace_26 : decode cX4_addPlace 26 = .ok (.iload_n 2, 1) := by decide +kernel
theorem dX4_addPlace_27 : decode cX4_addPlace 27 = .ok (.iconst 0, 1) := by decide +kernel
theorem dX4_addPlace_28 : decode cX4_addPlace 28 = .ok (.iastore, 1) := by decide +kernel
theorem dX4_addPlace_29 : decode cX4_addPlace 29 = .ok (.aload_n 0, 1) := by decide +kernel
theorem dX4_addPlace_30 : decode cX4_addPlace 30 = .ok (.getfield 36, 3) := by decide +kernel
theorem dX4_addPlace_33 : decode cX4_addPlace 33 = .ok (.iload_n 2, 1) := by decide +kernel
theorem dX4_addPlace_34 : decode cX4_addPlace 34 = .ok (.iconst 0, 1) := by decide +kernel
theorem dX4_addPlace_35 : decode cX4_addPlace 35 = .ok (.iastore, 1) := by decide +kernel
theorem dX4_addPlace_36 : decode cX4_addPlace 36 = .ok (.iconst 0, 1) := by decide +kernel
theorem dX4_addPlace_37 : decode cX4_addPlace 37 = .ok (.istore_n 3, 1) := by decide +kernel
theorem dX4_addPlace_38 : decode cX4_addPlace 38 = .ok (.iload_n 3, 1) := by decide +kernel
theorem dX4_addPlace_39 : decode cX4_addPlace 39 = .ok (.iconst 3, 1) := by decide +kernel
theorem dX4_addPlace_40 : decode cX4_addPlace 40 = .ok (.if_icmp .ge 18, 3) := by decide +kernel
theorem dX4_addPlace_43 : decode cX4_addPlace 43 = .ok (.aload_n 0, 1) := by decide +kernel
theorem dX4_addPlace_44 : decode cX4_addPlace 44 = .ok (.getfield 33, 3) := by decide +kernel
theorem dX4_addPlace_47 : decode cX4_addPlace 47 = .ok (.iload_n 3, 1) := by decide +kernel
theorem dX4_addPlace_48 : decode cX4_addPlace 48 = .ok (.aaload, 1) := by decide +kernel
theorem dX4_addPlace_49 : decode cX4_addPlace 49 = .ok (.iload_n 2, 1) := by decide +kernel
theorem dX4_addPlace_50 : decode cX4_addPlace 50 = .ok (.iconst 0, 1) := by decide +kernel
theorem dX4_addPlace_51 : decode cX4_addPlace 51 = .ok (.iastore, 1) := by decide +kernel
theorem dX4_addPlace_52 : decode cX4_addPlace 52 = .ok (.iinc 3 1, 3) := by decide +kernel
theorem dX4_addPlace_55 : decode cX4_addPlace 55 = .ok (.goto (-17), 3) := by decide +kernel
theorem dX4_addPlace_58 : decode cX4_addPlace 58 = .ok (.aload_n 0, 1) := by decide +kernel
theorem dX4_addPlace_59 : decode cX4_addPlace 59 = .ok (.getfield 25, 3) := by decide +kernel
theorem dX4_addPlace_62 : decode cX4_addPlace 62 = .ok (.iload_n 1, 1) := by decide +kernel
theorem dX4_addPlace_63 : decode cX4_addPlace 63 = .ok (.dup2, 1) := by decide +kernel
theorem dX4_addPlace_64 : decode cX4_addPlace 64 = .ok (.iaload, 1) := by decide +kernel
theorem dX4_addPlace_65 : decode cX4_addPlace 65 = .ok (.iconst 1, 1) := by decide +kernel
theorem dX4_addPlace_66 : decode cX4_addPlace 66 = .ok (.iload_n 2, 1) := by decide +kernel
theorem dX4_addPlace_67 : decode cX4_addPlace 67 = .ok (.ishl, 1) := by decide +kernel
theorem dX4_addPlace_68 : decode cX4_addPlace 68 = .ok (.ior, 1) := by decide +kernel
theorem dX4_addPlace_69 : decode cX4_addPlace 69 = .ok (.iastore, 1) := by decide +kernel
theorem dX4_addPlace_70 : decode cX4_addPlace 70 = .ok (.aload_n 0, 1) := by decide +kernel
theorem dX4_addPlace_71 : decode cX4_addPlace 71 = .ok (.getfield 25, 3) := by decide +kernel
theorem dX4_addPlace_74 : decode cX4_addPlace 74 = .ok (.getstatic 54, 3) := by decide +kernel
theorem dX4_addPlace_77 : decode cX4_addPlace 77 = .ok (.iload_n 1, 1) := by decide +kernel
theorem dX4_addPlace_78 : decode cX4_addPlace 78 = .ok (.iaload, 1) := by decide +kernel
theorem dX4_addPlace_79 : decode cX4_addPlace 79 = .ok (.dup2, 1) := by decide +kernel
theorem dX4_addPlace_80 : decode cX4_addPlace 80 = .ok (.iaload, 1) := by decide +kernel
theorem dX4_addPlace_81 : decode cX4_addPlace 81 = .ok (.iconst 1, 1) := by decide +kernel
theorem dX4_addPlace_82 : decode cX4_addPlace 82 = .ok (.iload_n 2, 1) := by decide +kernel
theorem dX4_addPlace_83 : decode cX4_addPlace 83 = .ok (.ishl, 1) := by decide +kernel
theorem dX4_addPlace_84 : decode cX4_addPlace 84 = .ok (.ior, 1) := by decide +kernel
theorem dX4_addPlace_85 : decode cX4_addPlace 85 = .ok (.iastore, 1) := by decide +kernel
theorem dX4_addPlace_86 : decode cX4_addPlace 86 = .ok (.aload_n 0, 1) := by decide +kernel
theorem dX4_addPlace_87 : decode cX4_addPlace 87 = .ok (.getfield 25, 3) := by decide +kernel
theorem dX4_addPlace_90 : decode cX4_addPlace 90 = .ok (.iconst 0, 1) := by decide +kernel
theorem dX4_addPlace_91 : decode cX4_addPlace 91 = .ok (.dup2, 1) := by decide +kernel
theorem dX4_addPlace_92 : decode cX4_addPlace 92 = .ok (.iaload, 1) := by decide +kernel
theorem dX4_addPlace_93 : decode cX4_addPlace 93 = .ok (.iconst 1, 1) := by decide +kernel
theorem dX4_addPlace_94 : decode cX4_addPlace 94 = .ok (.iload_n 2, 1) := by decide +kernel
theorem dX4_addPlace_95 : decode cX4_addPlace 95 = .ok (.ishl, 1) := by decide +kernel
theorem dX4_addPlace_96 : decode cX4_addPlace 96 = .ok (.ior, 1) := by decide +kernel
theorem dX4_addPlace_97 : decode cX4_addPlace 97 = .ok (.iastore, 1) := by decide +kernel
theorem dX4_addPlace_98 : decode cX4_addPlace 98 = .ok (.return_, 1) := by decide +kernel
theorem dX4_addBird_0 : decode cX4_addBird 0 = .ok (.aload_n 0, 1) := by decide +kernel
theorem dX4_addBird_1 : decode cX4_addBird 1 = .ok (.getfield 39, 3) := by decide +kernel
theorem dX4_addBird_4 : decode cX4_addBird 4 = .ok (.aload_n 0, 1) := by decide +kernel
theorem dX4_addBird_5 : decode cX4_addBird 5 = .ok (.getfield 15, 3) := by decide +kernel
theorem dX4_addBird_8 : decode cX4_addBird 8 = .ok (.iload_n 1, 1) := by decide +kernel
theorem dX4_addBird_9 : decode cX4_addBird 9 = .ok (.iastore, 1) := by decide +kernel
theorem dX4_addBird_10 : decode cX4_addBird 10 = .ok (.aload_n 0, 1) := by decide +kernel
theorem dX4_addBird_11 : decode cX4_addBird 11 = .ok (.dup, 1) := by decide +kernel
theorem dX4_addBird_12 : decode cX4_addBird 12 = .ok (.getfield 15, 3) := by decide +kernel
theorem dX4_addBird_15 : decode cX4_addBird 15 = .ok (.iconst 1, 1) := by decide +kernel
theorem dX4_addBird_16 : decode cX4_addBird 16 = .ok (.iadd, 1) := by decide +kernel
theorem dX4_addBird_17 : decode cX4_addBird 17 = .ok (.putfield 15, 3) := by decide +kernel
theorem dX4_addBird_20 : decode cX4_addBird 20 = .ok (.return_, 1) := by decide +kernel
theorem dX4_isEmpty_0 : decode cX4_isEmpty 0 = .ok (.aload_n 0, 1) := by decide +kernel
theorem dX4_isEmpty_1 : decode cX4_isEmpty 1 = .ok (.getfield 9, 3) := by decide +kernel
theorem dX4_isEmpty_4 : decode cX4_isEmpty 4 = .ok (.ifCond .ne 7, 3) := by decide +kernel
theorem dX4_isEmpty_7 : decode cX4_isEmpty 7 = .ok (.iconst 1, 1) := by decide +kernel
theorem dX4_isEmpty_8 : decode cX4_isEmpty 8 = .ok (.goto 4, 3) := by decide +kernel
theorem dX4_isEmpty_11 : decode cX4_isEmpty 11 = .ok (.iconst 0, 1) := by decide +kernel
theorem dX4_isEmpty_12 : decode cX4_isEmpty 12 = .ok (.ireturn, 1) := by decide +kernel
theorem dX4_hasPlace_0 : decode cX4_hasPlace 0 = .ok (.iload_n 1, 1) := by decide +kernel
theorem dX4_hasPlace_1 : decode cX4_hasPlace 1 = .ok (.aload_n 0, 1) := by decide +kernel
theorem dX4_hasPlace_2 : decode cX4_hasPlace 2 = .ok (.getfield 9, 3) := by decide +kernel
theorem dX4_hasPlace_5 : decode cX4_hasPlace 5 = .ok (.invokestatic 57, 3) := by decide +kernel
theorem dX4_hasPlace_8 : decode cX4_hasPlace 8 = .ok (.ireturn, 1) := by decide +kernel
theorem dX4_isOf_0 : decode cX4_isOf 0 = .ok (.aload_n 0, 1) := by decide +kernel
theorem dX4_isOf_1 : decode cX4_isOf 1 = .ok (.getfield 25, 3) := by decide +kernel
theorem dX4_isOf_4 : decode cX4_isOf 4 = .ok (.iload_n 2, 1) := by decide +kernel
theorem dX4_isOf_5 : decode cX4_isOf 5 = .ok (.iaload, 1) := by decide +kernel
theorem dX4_isOf_6 : decode cX4_isOf 6 = .ok (.iload_n 1, 1) := by decide +kernel
theorem dX4_isOf_7 : decode cX4_isOf 7 = .ok (.ishr, 1) := by decide +kernel
theorem dX4_isOf_8 : decode cX4_isOf 8 = .ok (.iconst 1, 1) := by decide +kernel
theorem dX4_isOf_9 : decode cX4_isOf 9 = .ok (.iand, 1) := by decide +kernel
theorem dX4_isOf_10 : decode cX4_isOf 10 = .ok (.iconst 1, 1) := by decide +kernel
theorem dX4_isOf_11 : decode cX4_isOf 11 = .ok (.if_icmp .ne 7, 3) := by decide +kernel
theorem dX4_isOf_14 : decode cX4_isOf 14 = .ok (.iconst 1, 1) := by decide +kernel
theorem dX4_isOf_15 : decode cX4_isOf 15 = .ok (.goto 4, 3) := by decide +kernel
theorem dX4_isOf_18 : decode cX4_isOf 18 = .ok (.iconst 0, 1) := by decide +kernel
theorem dX4_isOf_19 : decode cX4_isOf 19 = .ok (.ireturn, 1) := by decide +kernel
theorem dX4_isBeside_0 : decode cX4_isBeside 0 = .ok (.aload_n 0, 1) := by decide +kernel
theorem dX4_isBeside_1 : decode cX4_isBeside 1 = .ok (.getfield 28, 3) := by decide +kernel
theorem dX4_isBeside_4 : decode cX4_isBeside 4 = .ok (.iload_n 1, 1) := by decide +kernel
theorem dX4_isBeside_5 : decode cX4_isBeside 5 = .ok (.iaload, 1) := by decide +kernel
theorem dX4_isBeside_6 : decode cX4_isBeside 6 = .ok (.iload_n 2, 1) := by decide +kernel
theorem dX4_isBeside_7 : decode cX4_isBeside 7 = .ok (.ishr, 1) := by decide +kernel
theorem dX4_isBeside_8 : decode cX4_isBeside 8 = .ok (.iconst 1, 1) := by decide +kernel
theorem dX4_isBeside_9 : decode cX4_isBeside 9 = .ok (.iand, 1) := by decide +kernel
theorem dX4_isBeside_10 : decode cX4_isBeside 10 = .ok (.iconst 1, 1) := by decide +kernel
theorem dX4_isBeside_11 : decode cX4_isBeside 11 = .ok (.if_icmp .ne 7, 3) := by decide +kernel
theorem dX4_isBeside_14 : decode cX4_isBeside 14 = .ok (.iconst 1, 1) := by decide +kernel
theorem dX4_isBeside_15 : decode cX4_isBeside 15 = .ok (.goto 4, 3) := by decide +kernel
theorem dX4_isBeside_18 : decode cX4_isBeside 18 = .ok (.iconst 0, 1) := by decide +kernel
theorem dX4_isBeside_19 : decode cX4_isBeside 19 = .ok (.ireturn, 1) := by decide +kernel
theorem dX4_all_0 : decode cX4_all 0 = .ok (.aload_n 0, 1) := by decide +kernel
theorem dX4_all_1 : decode cX4_all 1 = .ok (.getfield 25, 3) := by decide +kernel
theorem dX4_all_4 : decode cX4_all 4 = .ok (.iconst 0, 1) := by decide +kernel
theorem dX4_all_5 : decode cX4_all 5 = .ok (.iaload, 1) := by decide +kernel
theorem dX4_all_6 : decode cX4_all 6 = .ok (.ireturn, 1) := by decide +kernel
theorem dX4_standing_0 : decode cX4_standing 0 = .ok (.aload_n 0, 1) := by decide +kernel
theorem dX4_standing_1 : decode cX4_standing 1 = .ok (.getfield 45, 3) := by decide +kernel
theorem dX4_standing_4 : decode cX4_standing 4 = .ok (.aload_n 0, 1) := by decide +kernel
theorem dX4_standing_5 : decode cX4_standing 5 = .ok (.getfield 18, 3) := by decide +kernel
theorem dX4_standing_8 : decode cX4_standing 8 = .ok (.iaload, 1) := by decide +kernel
theorem dX4_standing_9 : decode cX4_standing 9 = .ok (.ireturn, 1) := by decide +kernel
theorem dX4_join_0 : decode cX4_join 0 = .ok (.iload_n 3, 1) := by decide +kernel
theorem dX4_join_1 : decode cX4_join 1 = .ok (.ifCond .eq 30, 3) := by decide +kernel
theorem dX4_join_4 : decode cX4_join 4 = .ok (.aload_n 0, 1) := by decide +kernel
theorem dX4_join_5 : decode cX4_join 5 = .ok (.getfield 28, 3) := by decide +kernel
theorem dX4_join_8 : decode cX4_join 8 = .ok (.iload_n 1, 1) := by decide +kernel
theorem dX4_join_9 : decode cX4_join 9 = .ok (.dup2, 1) := by decide +kernel
theorem dX4_join_10 : decode cX4_join 10 = .ok (.iaload, 1) := by decide +kernel
theorem dX4_join_11 : decode cX4_join 11 = .ok (.iconst 1, 1) := by decide +kernel
theorem dX4_join_12 : decode cX4_join 12 = .ok (.iload_n 2, 1) := by decide +kernel
theorem dX4_join_13 : decode cX4_join 13 = .ok (.ishl, 1) := by decide +kernel
theorem dX4_join_14 : decode cX4_join 14 = .ok (.ior, 1) := by decide +kernel
theorem dX4_join_15 : decode cX4_join 15 = .ok (.iastore, 1) := by decide +kernel
theorem dX4_join_16 : decode cX4_join 16 = .ok (.aload_n 0, 1) := by decide +kernel
theorem dX4_join_17 : decode cX4_join 17 = .ok (.getfield 28, 3) := by decide +kernel
theorem dX4_join_20 : decode cX4_join 20 = .ok (.iload_n 2, 1) := by decide +kernel
theorem dX4_join_21 : decode cX4_join 21 = .ok (.dup2, 1) := by decide +kernel
theorem dX4_join_22 : decode cX4_join 22 = .ok (.iaload, 1) := by decide +kernel
theorem dX4_join_23 : decode cX4_join 23 = .ok (.iconst 1, 1) := by decide +kernel
theorem dX4_join_24 : decode cX4_join 24 = .ok (.iload_n 1, 1) := by decide +kernel
theorem dX4_join_25 : decode cX4_join 25 = .ok (.ishl, 1) := by decide +kernel
theorem dX4_join_26 : decode cX4_join 26 = .ok (.ior, 1) := by decide +kernel
theorem dX4_join_27 : decode cX4_join 27 = .ok (.iastore, 1) := by decide +kernel
theorem dX4_join_28 : decode cX4_join 28 = .ok (.goto 31, 3) := by decide +kernel
theorem dX4_join_31 : decode cX4_join 31 = .ok (.aload_n 0, 1) := by decide +kernel
theorem dX4_join_32 : decode cX4_join 32 = .ok (.getfield 28, 3) := by decide +kernel
theorem dX4_join_35 : decode cX4_join 35 = .ok (.iload_n 1, 1) := by decide +kernel
theorem dX4_join_36 : decode cX4_join 36 = .ok (.dup2, 1) := by decide +kernel
theorem dX4_join_37 : decode cX4_join 37 = .ok (.iaload, 1) := by decide +kernel
theorem dX4_join_38 : decode cX4_join 38 = .ok (.iconst 1, 1) := by decide +kernel
theorem dX4_join_39 : decode cX4_join 39 = .ok (.iload_n 2, 1) := by decide +kernel
theorem dX4_join_40 : decode cX4_join 40 = .ok (.ishl, 1) := by decide +kernel
theorem dX4_join_41 : decode cX4_join 41 = .ok (.iconst (-1), 1) := by decide +kernel
theorem dX4_join_42 : decode cX4_join 42 = .ok (.ixor, 1) := by decide +kernel
theorem dX4_join_43 : decode cX4_join 43 = .ok (.iand, 1) := by decide +kernel
theorem dX4_join_44 : decode cX4_join 44 = .ok (.iastore, 1) := by decide +kernel
theorem dX4_join_45 : decode cX4_join 45 = .ok (.aload_n 0, 1) := by decide +kernel
theorem dX4_join_46 : decode cX4_join 46 = .ok (.getfield 28, 3) := by decide +kernel
theorem dX4_join_49 : decode cX4_join 49 = .ok (.iload_n 2, 1) := by decide +kernel
theorem dX4_join_50 : decode cX4_join 50 = .ok (.dup2, 1) := by decide +kernel
theorem dX4_join_51 : decode cX4_join 51 = .ok (.iaload, 1) := by decide +kernel
theorem dX4_join_52 : decode cX4_join 52 = .ok (.iconst 1, 1) := by decide +kernel
theorem dX4_join_53 : decode cX4_join 53 = .ok (.iload_n 1, 1) := by decide +kernel
theorem dX4_join_54 : decode cX4_join 54 = .ok (.ishl, 1) := by decide +kernel
theorem dX4_join_55 : decode cX4_join 55 = .ok (.iconst (-1), 1) := by decide +kernel
theorem dX4_join_56 : decode cX4_join 56 = .ok (.ixor, 1) := by decide +kernel
theorem dX4_join_57 : decode cX4_join 57 = .ok (.iand, 1) := by decide +kernel
theorem dX4_join_58 : decode cX4_join 58 = .ok (.iastore, 1) := by decide +kernel
theorem dX4_join_59 : decode cX4_join 59 = .ok (.return_, 1) := by decide +kernel
theorem dX4_stepTo_0 : decode cX4_stepTo 0 = .ok (.aload_n 0, 1) := by decide +kernel
theorem dX4_stepTo_1 : decode cX4_stepTo 1 = .ok (.getfield 18, 3) := by decide +kernel
theorem dX4_stepTo_4 : decode cX4_stepTo 4 = .ok (.bipush 30, 2) := by decide +kernel
theorem dX4_stepTo_6 : decode cX4_stepTo 6 = .ok (.if_icmp .ge 23, 3) := by decide +kernel
theorem dX4_stepTo_9 : decode cX4_stepTo 9 = .ok (.aload_n 0, 1) := by decide +kernel
theorem dX4_stepTo_10 : decode cX4_stepTo 10 = .ok (.dup, 1) := by decide +kernel
theorem dX4_stepTo_11 : decode cX4_stepTo 11 = .ok (.getfield 18, 3) := by decide +kernel
theorem dX4_stepTo_14 : decode cX4_stepTo 14 = .ok (.iconst 1, 1) := by decide +kernel
theorem dX4_stepTo_15 : decode cX4_stepTo 15 = .ok (.iadd, 1) := by decide +kernel
theorem dX4_stepTo_16 : decode cX4_stepTo 16 = .ok (.putfield 18, 3) := by decide +kernel
theorem dX4_stepTo_19 : decode cX4_stepTo 19 = .ok (.aload_n 0, 1) := by decide +kernel
theorem dX4_stepTo_20 : decode cX4_stepTo 20 = .ok (.getfield 45, 3) := by decide +kernel
theorem dX4_stepTo_23 : decode cX4_stepTo 23 = .ok (.aload_n 0, 1) := by decide +kernel
theorem dX4_stepTo_24 : decode cX4_stepTo 24 = .ok (.getfield 18, 3) := by decide +kernel
theorem dX4_stepTo_27 : decode cX4_stepTo 27 = .ok (.iload_n 1, 1) := by decide +kernel
theorem dX4_stepTo_28 : decode cX4_stepTo 28 = .ok (.iastore, 1) := by decide +kernel
theorem dX4_stepTo_29 : decode cX4_stepTo 29 = .ok (.return_, 1) := by decide +kernel
theorem dX4_addMark_0 : decode cX4_addMark 0 = .ok (.iload_n 2, 1) := by decide +kernel
theorem dX4_addMark_1 : decode cX4_addMark 1 = .ok (.ifCond .ne 25, 3) := by decide +kernel
theorem dX4_addMark_4 : decode cX4_addMark 4 = .ok (.aload_n 0, 1) := by decide +kernel
theorem dX4_addMark_5 : decode cX4_addMark 5 = .ok (.iload_n 1, 1) := by decide +kernel
theorem dX4_addMark_6 : decode cX4_addMark 6 = .ok (.iconst 3, 1) := by decide +kernel
theorem dX4_addMark_7 : decode cX4_addMark 7 = .ok (.invokevirtual 61, 3) := by decide +kernel
theorem dX4_addMark_10 : decode cX4_addMark 10 = .ok (.ifCond .eq 16, 3) := by decide +kernel
theorem dX4_addMark_13 : decode cX4_addMark 13 = .ok (.aload_n 0, 1) := by decide +kernel
theorem dX4_addMark_14 : decode cX4_addMark 14 = .ok (.getfield 36, 3) := by decide +kernel
theorem dX4_addMark_17 : decode cX4_addMark 17 = .ok (.iload_n 1, 1) := by decide +kernel
theorem dX4_addMark_18 : decode cX4_addMark 18 = .ok (.dup2, 1) := by decide +kernel
theorem dX4_addMark_19 : decode cX4_addMark 19 = .ok (.iaload, 1) := by decide +kernel
theorem dX4_addMark_20 : decode cX4_addMark 20 = .ok (.iconst 1, 1) := by decide +kernel
theorem dX4_addMark_21 : decode cX4_addMark 21 = .ok (.iadd, 1) := by decide +kernel
theorem dX4_addMark_22 : decode cX4_addMark 22 = .ok (.iastore, 1) := by decide +kernel
theorem dX4_addMark_23 : decode cX4_addMark 23 = .ok (.goto 15, 3) := by decide +kernel
theorem dX4_addMark_26 : decode cX4_addMark 26 = .ok (.aload_n 0, 1) := by decide +kernel
theorem dX4_addMark_27 : decode cX4_addMark 27 = .ok (.getfield 33, 3) := by decide +kernel
theorem dX4_addMark_30 : decode cX4_addMark 30 = .ok (.iload_n 2, 1) := by decide +kernel
theorem dX4_addMark_31 : decode cX4_addMark 31 = .ok (.aaload, 1) := by decide +kernel
theorem dX4_addMark_32 : decode cX4_addMark 32 = .ok (.iload_n 1, 1) := by decide +kernel
theorem dX4_addMark_33 : decode cX4_addMark 33 = .ok (.dup2, 1) := by decide +kernel
theorem dX4_addMark_34 : decode cX4_addMark 34 = .ok (.iaload, 1) := by decide +kernel
theorem dX4_addMark_35 : decode cX4_addMark 35 = .ok (.iconst 1, 1) := by decide +kernel
theorem dX4_addMark_36 : decode cX4_addMark 36 = .ok (.iadd, 1) := by decide +kernel
theorem dX4_addMark_37 : decode cX4_addMark 37 = .ok (.iastore, 1) := by decide +kernel
theorem dX4_addMark_38 : decode cX4_addMark 38 = .ok (.return_, 1) := by decide +kernel
theorem dX4_dropHere_0 : decode cX4_dropHere 0 = .ok (.aload_n 0, 1) := by decide +kernel
theorem dX4_dropHere_1 : decode cX4_dropHere 1 = .ok (.getfield 42, 3) := by decide +kernel
theorem dX4_dropHere_4 : decode cX4_dropHere 4 = .ok (.iload_n 1, 1) := by decide +kernel
theorem dX4_dropHere_5 : decode cX4_dropHere 5 = .ok (.dup2, 1) := by decide +kernel
theorem dX4_dropHere_6 : decode cX4_dropHere 6 = .ok (.iaload, 1) := by decide +kernel
theorem dX4_dropHere_7 : decode cX4_dropHere 7 = .ok (.iconst 1, 1) := by decide +kernel
theorem dX4_dropHere_8 : decode cX4_dropHere 8 = .ok (.isub, 1) := by decide +kernel
theorem dX4_dropHere_9 : decode cX4_dropHere 9 = .ok (.iastore, 1) := by decide +kernel
theorem dX4_dropHere_10 : decode cX4_dropHere 10 = .ok (.aload_n 0, 1) := by decide +kernel
theorem dX4_dropHere_11 : decode cX4_dropHere 11 = .ok (.aload_n 0, 1) := by decide +kernel
theorem dX4_dropHere_12 : decode cX4_dropHere 12 = .ok (.invokevirtual 64, 3) := by decide +kernel
theorem dX4_dropHere_15 : decode cX4_dropHere 15 = .ok (.iload_n 1, 1) := by decide +kernel
theorem dX4_dropHere_16 : decode cX4_dropHere 16 = .ok (.invokevirtual 68, 3) := by decide +kernel
theorem dX4_dropHere_19 : decode cX4_dropHere 19 = .ok (.return_, 1) := by decide +kernel
theorem dX4_seenAt_0 : decode cX4_seenAt 0 = .ok (.aload_n 0, 1) := by decide +kernel
theorem dX4_seenAt_1 : decode cX4_seenAt 1 = .ok (.iload_n 1, 1) := by decide +kernel
theorem dX4_seenAt_2 : decode cX4_seenAt 2 = .ok (.iconst 5, 1) := by decide +kernel
theorem dX4_seenAt_3 : decode cX4_seenAt 3 = .ok (.invokevirtual 61, 3) := by decide +kernel
theorem dX4_seenAt_6 : decode cX4_seenAt 6 = .ok (.ifCond .eq 5, 3) := by decide +kernel
theorem dX4_seenAt_9 : decode cX4_seenAt 9 = .ok (.iconst 0, 1) := by decide +kernel
theorem dX4_seenAt_10 : decode cX4_seenAt 10 = .ok (.ireturn, 1) := by decide +kernel
theorem dX4_seenAt_11 : decode cX4_seenAt 11 = .ok (.aload_n 0, 1) := by decide +kernel
theorem dX4_seenAt_12 : decode cX4_seenAt 12 = .ok (.getfield 33, 3) := by decide +kernel
theorem dX4_seenAt_15 : decode cX4_seenAt 15 = .ok (.iconst 1, 1) := by decide +kernel
theorem dX4_seenAt_16 : decode cX4_seenAt 16 = .ok (.aaload, 1) := by decide +kernel
theorem dX4_seenAt_17 : decode cX4_seenAt 17 = .ok (.iload_n 1, 1) := by decide +kernel
theorem dX4_seenAt_18 : decode cX4_seenAt 18 = .ok (.iaload, 1) := by decide +kernel
theorem dX4_seenAt_19 : decode cX4_seenAt 19 = .ok (.ifCond .le 7, 3) := by decide +kernel
theorem dX4_seenAt_22 : decode cX4_seenAt 22 = .ok (.iconst 2, 1) := by decide +kernel
theorem dX4_seenAt_23 : decode cX4_seenAt 23 = .ok (.goto 4, 3) := by decide +kernel
theorem dX4_seenAt_26 : decode cX4_seenAt 26 = .ok (.iconst 0, 1) := by decide +kernel
theorem dX4_seenAt_27 : decode cX4_seenAt 27 = .ok (.istore_n 2, 1) := by decide +kernel
theorem dX4_seenAt_28 : decode cX4_seenAt 28 = .ok (.aload_n 0, 1) := by decide +kernel
theorem dX4_seenAt_29 : decode cX4_seenAt 29 = .ok (.iload_n 1, 1) := by decide +kernel
theorem dX4_seenAt_30 : decode cX4_seenAt 30 = .ok (.iconst 2, 1) := by decide +kernel
theorem dX4_seenAt_31 : decode cX4_seenAt 31 = .ok (.invokevirtual 61, 3) := by decide +kernel
theorem dX4_seenAt_34 : decode cX4_seenAt 34 = .ok (.ifCond .eq 5, 3) := by decide +kernel
theorem dX4_seenAt_37 : decode cX4_seenAt 37 = .ok (.iload_n 2, 1) := by decide +kernel
theorem dX4_seenAt_38 : decode cX4_seenAt 38 = .ok (.ireturn, 1) := by decide +kernel
theorem dX4_seenAt_39 : decode cX4_seenAt 39 = .ok (.aload_n 0, 1) := by decide +kernel
theorem dX4_seenAt_40 : decode cX4_seenAt 40 = .ok (.getfield 33, 3) := by decide +kernel
theorem dX4_seenAt_43 : decode cX4_seenAt 43 = .ok (.iconst 0, 1) := by decide +kernel
theorem dX4_seenAt_44 : decode cX4_seenAt 44 = .ok (.aaload, 1) := by decide +kernel
theorem dX4_seenAt_45 : decode cX4_seenAt 45 = .ok (.iload_n 1, 1) := by decide +kernel
theorem dX4_seenAt_46 : decode cX4_seenAt 46 = .ok (.iaload, 1) := by decide +kernel
theorem dX4_seenAt_47 : decode cX4_seenAt 47 = .ok (.ifCond .le 7, 3) := by decide +kernel
theorem dX4_seenAt_50 : decode cX4_seenAt 50 = .ok (.iload_n 2, 1) := by decide +kernel
theorem dX4_seenAt_51 : decode cX4_seenAt 51 = .ok (.iconst 1, 1) := by decide +kernel
theorem dX4_seenAt_52 : decode cX4_seenAt 52 = .ok (.ior, 1) := by decide +kernel
theorem dX4_seenAt_53 : decode cX4_seenAt 53 = .ok (.istore_n 2, 1) := by decide +kernel
theorem dX4_seenAt_54 : decode cX4_seenAt 54 = .ok (.aload_n 0, 1) := by decide +kernel
theorem dX4_seenAt_55 : decode cX4_seenAt 55 = .ok (.getfield 33, 3) := by decide +kernel
theorem dX4_seenAt_58 : decode cX4_seenAt 58 = .ok (.iconst 2, 1) := by decide +kernel
theorem dX4_seenAt_59 : decode cX4_seenAt 59 = .ok (.aaload, 1) := by decide +kernel
theorem dX4_seenAt_60 : decode cX4_seenAt 60 = .ok (.iload_n 1, 1) := by decide +kernel
theorem dX4_seenAt_61 : decode cX4_seenAt 61 = .ok (.iaload, 1) := by decide +kernel
theorem dX4_seenAt_62 : decode cX4_seenAt 62 = .ok (.ifCond .gt 12, 3) := by decide +kernel
theorem dX4_seenAt_65 : decode cX4_seenAt 65 = .ok (.aload_n 0, 1) := by decide +kernel
theorem dX4_seenAt_66 : decode cX4_seenAt 66 = .ok (.iload_n 1, 1) := by decide +kernel
theorem dX4_seenAt_67 : decode cX4_seenAt 67 = .ok (.iconst 4, 1) := by decide +kernel
theorem dX4_seenAt_68 : decode cX4_seenAt 68 = .ok (.invokevirtual 61, 3) := by decide +kernel
theorem dX4_seenAt_71 : decode cX4_seenAt 71 = .ok (.ifCond .eq 7, 3) := by decide +kernel
theorem dX4_seenAt_74 : decode cX4_seenAt 74 = .ok (.iload_n 2, 1) := by decide +kernel
theorem dX4_seenAt_75 : decode cX4_seenAt 75 = .ok (.iconst 4, 1) := by decide +kernel
theorem dX4_seenAt_76 : decode cX4_seenAt 76 = .ok (.ior, 1) := by decide +kernel
theorem dX4_seenAt_77 : decode cX4_seenAt 77 = .ok (.istore_n 2, 1) := by decide +kernel
theorem dX4_seenAt_78 : decode cX4_seenAt 78 = .ok (.iload_n 2, 1) := by decide +kernel
theorem dX4_seenAt_79 : decode cX4_seenAt 79 = .ok (.ireturn, 1) := by decide +kernel

theorem dX12_init_0 : decode cX12_init 0 = .ok (.aload_n 0, 1) := by decide +kernel
theorem dX12_init_1 : decode cX12_init 1 = .ok (.invokespecial 1, 3) := by decide +kernel
theorem dX12_init_4 : decode cX12_init 4 = .ok (.aload_n 0, 1) := by decide +kernel
theorem dX12_init_5 : decode cX12_init 5 = .ok (.sipush 772, 3) := by decide +kernel
theorem dX12_init_8 : decode cX12_init 8 = .ok (.newarray .int, 2) := by decide +kernel
theorem dX12_init_10 : decode cX12_init 10 = .ok (.putfield 7, 3) := by decide +kernel
theorem dX12_init_13 : decode cX12_init 13 = .ok (.aload_n 0, 1) := by decide +kernel
theorem dX12_init_14 : decode cX12_init 14 = .ok (.sipush 772, 3) := by decide +kernel
theorem dX12_init_17 : decode cX12_init 17 = .ok (.newarray .int, 2) := by decide +kernel
theorem dX12_init_19 : decode cX12_init 19 = .ok (.putfield 13, 3) := by decide +kernel
theorem dX12_init_22 : decode cX12_init 22 = .ok (.aload_n 0, 1) := by decide +kernel
theorem dX12_init_23 : decode cX12_init 23 = .ok (.sipush 372, 3) := by decide +kernel
theorem dX12_init_26 : decode cX12_init 26 = .ok (.newarray .int, 2) := by decide +kernel
theorem dX12_init_28 : decode cX12_init 28 = .ok (.putfield 16, 3) := by decide +kernel
theorem dX12_init_31 : decode cX12_init 31 = .ok (.aload_n 0, 1) := by decide +kernel
theorem dX12_init_32 : decode cX12_init 32 = .ok (.sipush 4464, 3) := by decide +kernel
theorem dX12_init_35 : decode cX12_init 35 = .ok (.newarray .int, 2) := by decide +kernel
theorem dX12_init_37 : decode cX12_init 37 = .ok (.putfield 19, 3) := by decide +kernel
theorem dX12_init_40 : decode cX12_init 40 = .ok (.aload_n 0, 1) := by decide +kernel
theorem dX12_init_41 : decode cX12_init 41 = .ok (.sipush 400, 3) := by decide +kernel
theorem dX12_init_44 : decode cX12_init 44 = .ok (.newarray .int, 2) := by decide +kernel
theorem dX12_init_46 : decode cX12_init 46 = .ok (.putfield 22, 3) := by decide +kernel
theorem dX12_init_49 : decode cX12_init 49 = .ok (.aload_n 0, 1) := by decide +kernel
theorem dX12_init_50 : decode cX12_init 50 = .ok (.iconst (-1), 1) := by decide +kernel
theorem dX12_init_51 : decode cX12_init 51 = .ok (.putfield 25, 3) := by decide +kernel
theorem dX12_init_54 : decode cX12_init 54 = .ok (.aload_n 0, 1) := by decide +kernel
theorem dX12_init_55 : decode cX12_init 55 = .ok (.bipush 7, 2) := by decide +kernel
theorem dX12_init_57 : decode cX12_init 57 = .ok (.newarray .int, 2) := by decide +kernel
theorem dX12_init_59 : decode cX12_init 59 = .ok (.putfield 29, 3) := by decide +kernel
theorem dX12_init_62 : decode cX12_init 62 = .ok (.aload_n 0, 1) := by decide +kernel
theorem dX12_init_63 : decode cX12_init 63 = .ok (.bipush 7, 2) := by decide +kernel
theorem dX12_init_65 : decode cX12_init 65 = .ok (.newarray .int, 2) := by decide +kernel
theorem dX12_init_67 : decode cX12_init 67 = .ok (.putfield 32, 3) := by decide +kernel
theorem dX12_init_70 : decode cX12_init 70 = .ok (.aload_n 0, 1) := by decide +kernel
theorem dX12_init_71 : decode cX12_init 71 = .ok (.ldc 35, 2) := by decide +kernel
theorem dX12_init_73 : decode cX12_init 73 = .ok (.newarray .int, 2) := by decide +kernel
theorem dX12_init_75 : decode cX12_init 75 = .ok (.putfield 36, 3) := by decide +kernel
theorem dX12_init_78 : decode cX12_init 78 = .ok (.aload_n 0, 1) := by decide +kernel
theorem dX12_init_79 : decode cX12_init 79 = .ok (.sipush 128, 3) := by decide +kernel
theorem dX12_init_82 : decode cX12_init 82 = .ok (.newarray .int, 2) := by decide +kernel
theorem dX12_init_84 : decode cX12_init 84 = .ok (.putfield 39, 3) := by decide +kernel
theorem dX12_init_87 : decode cX12_init 87 = .ok (.aload_n 0, 1) := by decide +kernel
theorem dX12_init_88 : decode cX12_init 88 = .ok (.sipush 1024, 3) := by decide +kernel
theorem dX12_init_91 : decode cX12_init 91 = .ok (.newarray .int, 2) := by decide +kernel
theorem dX12_init_93 : decode cX12_init 93 = .ok (.putfield 42, 3) := by decide +kernel
theorem dX12_init_96 : decode cX12_init 96 = .ok (.aload_n 0, 1) := by decide +kernel
theorem dX12_init_97 : decode cX12_init 97 = .ok (.sipush 144, 3) := by decide +kernel
theorem dX12_init_100 : decode cX12_init 100 = .ok (.newarray .boolean, 2) := by decide +kernel
theorem dX12_init_102 : decode cX12_init 102 = .ok (.putfield 45, 3) := by decide +kernel
theorem dX12_init_105 : decode cX12_init 105 = .ok (.aload_n 0, 1) := by decide +kernel
theorem dX12_init_106 : decode cX12_init 106 = .ok (.bipush 7, 2) := by decide +kernel
theorem dX12_init_108 : decode cX12_init 108 = .ok (.newarray .int, 2) := by decide +kernel
theorem dX12_init_110 : decode cX12_init 110 = .ok (.putfield 49, 3) := by decide +kernel
theorem dX12_init_113 : decode cX12_init 113 = .ok (.aload_n 0, 1) := by decide +kernel
theorem dX12_init_114 : decode cX12_init 114 = .ok (.bipush 7, 2) := by decide +kernel
theorem dX12_init_116 : decode cX12_init 116 = .ok (.newarray .int, 2) := by decide +kernel
theorem dX12_init_118 : decode cX12_init 118 = .ok (.putfield 52, 3) := by decide +kernel
theorem dX12_init_121 : decode cX12_init 121 = .ok (.aload_n 0, 1) := by decide +kernel
theorem dX12_init_122 : decode cX12_init 122 = .ok (.iconst 4, 1) := by decide +kernel
theorem dX12_init_123 : decode cX12_init 123 = .ok (.newarray .int, 2) := by decide +kernel
theorem dX12_init_125 : decode cX12_init 125 = .ok (.putfield 55, 3) := by decide +kernel
theorem dX12_init_128 : decode cX12_init 128 = .ok (.aload_n 0, 1) := by decide +kernel
theorem dX12_init_129 : decode cX12_init 129 = .ok (.getfield 7, 3) := by decide +kernel
theorem dX12_init_132 : decode cX12_init 132 = .ok (.iconst 1, 1) := by decide +kernel
theorem dX12_init_133 : decode cX12_init 133 = .ok (.iconst (-1), 1) := by decide +kernel
theorem dX12_init_134 : decode cX12_init 134 = .ok (.iastore, 1) := by decide +kernel
theorem dX12_init_135 : decode cX12_init 135 = .ok (.aload_n 0, 1) := by decide +kernel
theorem dX12_init_136 : decode cX12_init 136 = .ok (.getfield 7, 3) := by decide +kernel
theorem dX12_init_139 : decode cX12_init 139 = .ok (.bipush 7, 2) := by decide +kernel
theorem dX12_init_141 : decode cX12_init 141 = .ok (.iconst 4, 1) := by decide +kernel
theorem dX12_init_142 : decode cX12_init 142 = .ok (.iastore, 1) := by decide +kernel
theorem dX12_init_143 : decode cX12_init 143 = .ok (.aload_n 0, 1) := by decide +kernel
theorem dX12_init_144 : decode cX12_init 144 = .ok (.getfield 7, 3) := by decide +kernel
theorem dX12_init_147 : decode cX12_init 147 = .ok (.bipush 9, 2) := by decide +kernel
theorem dX12_init_149 : decode cX12_init 149 = .ok (.iconst 4, 1) := by decide +kernel
theorem dX12_init_150 : decode cX12_init 150 = .ok (.iastore, 1) := by decide +kernel
theorem dX12_init_151 : decode cX12_init 151 = .ok (.aload_n 0, 1) := by decide +kernel
theorem dX12_init_152 : decode cX12_init 152 = .ok (.getfield 7, 3) := by decide +kernel
theorem dX12_init_155 : decode cX12_init 155 = .ok (.bipush 11, 2) := by decide +kernel
theorem dX12_init_157 : decode cX12_init 157 = .ok (.iconst 1, 1) := by decide +kernel
theorem dX12_init_158 : decode cX12_init 158 = .ok (.iastore, 1) := by decide +kernel
theorem dX12_init_159 : decode cX12_init 159 = .ok (.iconst 0, 1) := by decide +kernel
theorem dX12_init_160 : decode cX12_init 160 = .ok (.istore_n 1, 1) := by decide +kernel
theorem dX12_init_161 : decode cX12_init 161 = .ok (.iload_n 1, 1) := by decide +kernel
theorem dX12_init_162 : decode cX12_init 162 = .ok (.iconst 4, 1) := by decide +kernel
theorem dX12_init_163 : decode cX12_init 163 = .ok (.if_icmp .ge 20, 3) := by decide +kernel
theorem dX12_init_166 : decode cX12_init 166 = .ok (.aload_n 0, 1) := by decide +kernel
theorem dX12_init_167 : decode cX12_init 167 = .ok (.getfield 7, 3) := by decide +kernel
theorem dX12_init_170 : decode cX12_init 170 = .ok (.bipush 12, 2) := by decide +kernel
theorem dX12_init_172 : decode cX12_init 172 = .ok (.iload_n 1, 1) := by decide +kernel
theorem dX12_init_173 : decode cX12_init 173 = .ok (.iadd, 1) := by decide +kernel
theorem dX12_init_174 : decode cX12_init 174 = .ok (.bipush 20, 2) := by decide +kernel
theorem dX12_init_176 : decode cX12_init 176 = .ok (.iastore, 1) := by decide +kernel
theorem dX12_init_177 : decode cX12_init 177 = .ok (.iinc 1 1, 3) := by decide +kernel
theorem dX12_init_180 : decode cX12_init 180 = .ok (.goto (-19), 3) := by decide +kernel
theorem dX12_init_183 : decode cX12_init 183 = .ok (.return_, 1) := by decide +kernel
theorem dX12_thrown_0 : decode cX12_thrown 0 = .ok (.aload_n 0, 1) := by decide +kernel
theorem dX12_thrown_1 : decode cX12_thrown 1 = .ok (.getfield 58, 3) := by decide +kernel
theorem dX12_thrown_4 : decode cX12_thrown 4 = .ok (.ireturn, 1) := by decide +kernel
theorem dX12_isIn_0 : decode cX12_isIn 0 = .ok (.iload_n 0, 1) := by decide +kernel
theorem dX12_isIn_1 : decode cX12_isIn 1 = .ok (.iload_n 1, 1) := by decide +kernel
theorem dX12_isIn_2 : decode cX12_isIn 2 = .ok (.if_icmp .lt 12, 3) := by decide +kernel
theorem dX12_isIn_5 : decode cX12_isIn 5 = .ok (.iload_n 0, 1) := by decide +kernel
theorem dX12_isIn_6 : decode cX12_isIn 6 = .ok (.iload_n 2, 1) := by decide +kernel
theorem dX12_isIn_7 : decode cX12_isIn 7 = .ok (.if_icmp .gt 7, 3) := by decide +kernel
theorem dX12_isIn_10 : decode cX12_isIn 10 = .ok (.iconst 1, 1) := by decide +kernel
theorem dX12_isIn_11 : decode cX12_isIn 11 = .ok (.goto 4, 3) := by decide +kernel
theorem dX12_isIn_14 : decode cX12_isIn 14 = .ok (.iconst 0, 1) := by decide +kernel
theorem dX12_isIn_15 : decode cX12_isIn 15 = .ok (.ireturn, 1) := by decide +kernel
theorem dX12_lesser_0 : decode cX12_lesser 0 = .ok (.iload_n 0, 1) := by decide +kernel
theorem dX12_lesser_1 : decode cX12_lesser 1 = .ok (.iload_n 1, 1) := by decide +kernel
theorem dX12_lesser_2 : decode cX12_lesser 2 = .ok (.if_icmp .ge 7, 3) := by decide +kernel
theorem dX12_lesser_5 : decode cX12_lesser 5 = .ok (.iload_n 0, 1) := by decide +kernel
theorem dX12_lesser_6 : decode cX12_lesser 6 = .ok (.goto 4, 3) := by decide +kernel
theorem dX12_lesser_9 : decode cX12_lesser 9 = .ok (.iload_n 1, 1) := by decide +kernel
theorem dX12_lesser_10 : decode cX12_lesser 10 = .ok (.ireturn, 1) := by decide +kernel
theorem dX12_greater_0 : decode cX12_greater 0 = .ok (.iload_n 0, 1) := by decide +kernel
theorem dX12_greater_1 : decode cX12_greater 1 = .ok (.iload_n 1, 1) := by decide +kernel
theorem dX12_greater_2 : decode cX12_greater 2 = .ok (.if_icmp .le 7, 3) := by decide +kernel
theorem dX12_greater_5 : decode cX12_greater 5 = .ok (.iload_n 0, 1) := by decide +kernel
theorem dX12_greater_6 : decode cX12_greater 6 = .ok (.goto 4, 3) := by decide +kernel
theorem dX12_greater_9 : decode cX12_greater 9 = .ok (.iload_n 1, 1) := by decide +kernel
theorem dX12_greater_10 : decode cX12_greater 10 = .ok (.ireturn, 1) := by decide +kernel
theorem dX12_isOf_0 : decode cX12_isOf 0 = .ok (.iload_n 0, 1) := by decide +kernel
theorem dX12_isOf_1 : decode cX12_isOf 1 = .ok (.iload_n 1, 1) := by decide +kernel
theorem dX12_isOf_2 : decode cX12_isOf 2 = .ok (.ishr, 1) := by decide +kernel
theorem dX12_isOf_3 : decode cX12_isOf 3 = .ok (.iconst 1, 1) := by decide +kernel
theorem dX12_isOf_4 : decode cX12_isOf 4 = .ok (.iand, 1) := by decide +kernel
theorem dX12_isOf_5 : decode cX12_isOf 5 = .ok (.iconst 1, 1) := by decide +kernel
theorem dX12_isOf_6 : decode cX12_isOf 6 = .ok (.if_icmp .ne 7, 3) := by decide +kernel
theorem dX12_isOf_9 : decode cX12_isOf 9 = .ok (.iconst 1, 1) := by decide +kernel
theorem dX12_isOf_10 : decode cX12_isOf 10 = .ok (.goto 4, 3) := by decide +kernel
theorem dX12_isOf_13 : decode cX12_isOf 13 = .ok (.iconst 0, 1) := by decide +kernel
theorem dX12_isOf_14 : decode cX12_isOf 14 = .ok (.ireturn, 1) := by decide +kernel
theorem dX12_bits_0 : decode cX12_bits 0 = .ok (.iconst 0, 1) := by decide +kernel
theorem dX12_bits_1 : decode cX12_bits 1 = .ok (.istore_n 1, 1) := by decide +kernel
theorem dX12_bits_2 : decode cX12_bits 2 = .ok (.iconst 0, 1) := by decide +kernel
theorem dX12_bits_3 : decode cX12_bits 3 = .ok (.istore_n 2, 1) := by decide +kernel
theorem dX12_bits_4 : decode cX12_bits 4 = .ok (.iload_n 2, 1) := by decide +kernel
theorem dX12_bits_5 : decode cX12_bits 5 = .ok (.bipush 31, 2) := by decide +kernel
theorem dX12_bits_7 : decode cX12_bits 7 = .ok (.if_icmp .ge 17, 3) := by decide +kernel
theorem dX12_bits_10 : decode cX12_bits 10 = .ok (.iload_n 1, 1) := by decide +kernel
theorem dX12_bits_11 : decode cX12_bits 11 = .ok (.iload_n 0, 1) := by decide +kernel
theorem dX12_bits_12 : decode cX12_bits 12 = .ok (.iload_n 2, 1) := by decide +kernel
theorem dX12_bits_13 : decode cX12_bits 13 = .ok (.ishr, 1) := by decide +kernel
theorem dX12_bits_14 : decode cX12_bits 14 = .ok (.iconst 1, 1) := by decide +kernel
theorem dX12_bits_15 : decode cX12_bits 15 = .ok (.iand, 1) := by decide +kernel
theorem dX12_bits_16 : decode cX12_bits 16 = .ok (.iadd, 1) := by decide +kernel
theorem dX12_bits_17 : decode cX12_bits 17 = .ok (.istore_n 1, 1) := by decide +kernel
theorem dX12_bits_18 : decode cX12_bits 18 = .ok (.iinc 2 1, 3) := by decide +kernel
theorem dX12_bits_21 : decode cX12_bits 21 = .ok (.goto (-17), 3) := by decide +kernel
theorem dX12_bits_24 : decode cX12_bits 24 = .ok (.iload_n 1, 1) := by decide +kernel
theorem dX12_bits_25 : decode cX12_bits 25 = .ok (.ireturn, 1) := by decide +kernel
theorem dX12_of_0 : decode cX12_of 0 = .ok (.aload_n 0, 1) := by decide +kernel
theorem dX12_of_1 : decode cX12_of 1 = .ok (.getfield 7, 3) := by decide +kernel
theorem dX12_of_4 : decode cX12_of 4 = .ok (.bipush 16, 2) := by decide +kernel
theorem dX12_of_6 : decode cX12_of 6 = .ok (.bipush 8, 2) := by decide +kernel
theorem dX12_of_8 : decode cX12_of 8 = .ok (.iload_n 1, 1) := by decide +kernel
theorem dX12_of_9 : decode cX12_of 9 = .ok (.imul, 1) := by decide +kernel
theorem dX12_of_10 : decode cX12_of 10 = .ok (.iadd, 1) := by decide +kernel
theorem dX12_of_11 : decode cX12_of 11 = .ok (.iload_n 2, 1) := by decide +kernel
theorem dX12_of_12 : decode cX12_of 12 = .ok (.iadd, 1) := by decide +kernel
theorem dX12_of_13 : decode cX12_of 13 = .ok (.iaload, 1) := by decide +kernel
theorem dX12_of_14 : decode cX12_of 14 = .ok (.ireturn, 1) := by decide +kernel
theorem dX12_lays_0 : decode cX12_lays 0 = .ok (.aload_n 0, 1) := by decide +kernel
theorem dX12_lays_1 : decode cX12_lays 1 = .ok (.getfield 7, 3) := by decide +kernel
theorem dX12_lays_4 : decode cX12_lays 4 = .ok (.bipush 16, 2) := by decide +kernel
theorem dX12_lays_6 : decode cX12_lays 6 = .ok (.bipush 8, 2) := by decide +kernel
theorem dX12_lays_8 : decode cX12_lays 8 = .ok (.iload_n 1, 1) := by decide +kernel
theorem dX12_lays_9 : decode cX12_lays 9 = .ok (.imul, 1) := by decide +kernel
theorem dX12_lays_10 : decode cX12_lays 10 = .ok (.iadd, 1) := by decide +kernel
theorem dX12_lays_11 : decode cX12_lays 11 = .ok (.iload_n 2, 1) := by decide +kernel
theorem dX12_lays_12 : decode cX12_lays 12 = .ok (.iadd, 1) := by decide +kernel
theorem dX12_lays_13 : decode cX12_lays 13 = .ok (.iload_n 3, 1) := by decide +kernel
theorem dX12_lays_14 : decode cX12_lays 14 = .ok (.iastore, 1) := by decide +kernel
theorem dX12_lays_15 : decode cX12_lays 15 = .ok (.return_, 1) := by decide +kernel
theorem dX12_isMonk_0 : decode cX12_isMonk 0 = .ok (.iload_n 1, 1) := by decide +kernel
theorem dX12_isMonk_1 : decode cX12_isMonk 1 = .ok (.iconst 0, 1) := by decide +kernel
theorem dX12_isMonk_2 : decode cX12_isMonk 2 = .ok (.aload_n 0, 1) := by decide +kernel
theorem dX12_isMonk_3 : decode cX12_isMonk 3 = .ok (.getfield 7, 3) := by decide +kernel
theorem dX12_isMonk_6 : decode cX12_isMonk 6 = .ok (.iconst 3, 1) := by decide +kernel
theorem dX12_isMonk_7 : decode cX12_isMonk 7 = .ok (.iaload, 1) := by decide +kernel
theorem dX12_isMonk_8 : decode cX12_isMonk 8 = .ok (.iconst 1, 1) := by decide +kernel
theorem dX12_isMonk_9 : decode cX12_isMonk 9 = .ok (.isub, 1) := by decide +kernel
theorem dX12_isMonk_10 : decode cX12_isMonk 10 = .ok (.invokestatic 61, 3) := by decide +kernel
theorem dX12_isMonk_13 : decode cX12_isMonk 13 = .ok (.ireturn, 1) := by decide +kernel
theorem dX12_isFlag_0 : decode cX12_isFlag 0 = .ok (.iload_n 0, 1) := by decide +kernel
theorem dX12_isFlag_1 : decode cX12_isFlag 1 = .ok (.iconst 0, 1) := by decide +kernel
theorem dX12_isFlag_2 : decode cX12_isFlag 2 = .ok (.bipush 15, 2) := by decide +kernel
theorem dX12_isFlag_4 : decode cX12_isFlag 4 = .ok (.invokestatic 61, 3) := by decide +kernel
theorem dX12_isFlag_7 : decode cX12_isFlag 7 = .ok (.ireturn, 1) := by decide +kernel
theorem dX12_isWalk_0 : decode cX12_isWalk 0 = .ok (.iload_n 0, 1) := by decide +kernel
theorem dX12_isWalk_1 : decode cX12_isWalk 1 = .ok (.iconst 0, 1) := by decide +kernel
theorem dX12_isWalk_2 : decode cX12_isWalk 2 = .ok (.iconst 3, 1) := by decide +kernel
theorem dX12_isWalk_3 : decode cX12_isWalk 3 = .ok (.invokestatic 61, 3) := by decide +kernel
theorem dX12_isWalk_6 : decode cX12_isWalk 6 = .ok (.ireturn, 1) := by decide +kernel
theorem dX12_seasonOf_0 : decode cX12_seasonOf 0 = .ok (.aload_n 0, 1) := by decide +kernel
theorem dX12_seasonOf_1 : decode cX12_seasonOf 1 = .ok (.getfield 7, 3) := by decide +kernel
theorem dX12_seasonOf_4 : decode cX12_seasonOf 4 = .ok (.bipush 7, 2) := by decide +kernel
theorem dX12_seasonOf_6 : decode cX12_seasonOf 6 = .ok (.iaload, 1) := by decide +kernel
theorem dX12_seasonOf_7 : decode cX12_seasonOf 7 = .ok (.iconst 4, 1) := by decide +kernel
theorem dX12_seasonOf_8 : decode cX12_seasonOf 8 = .ok (.if_icmp .ge 13, 3) := by decide +kernel
theorem dX12_seasonOf_11 : decode cX12_seasonOf 11 = .ok (.aload_n 0, 1) := by decide +kernel
theorem dX12_seasonOf_12 : decode cX12_seasonOf 12 = .ok (.getfield 7, 3) := by decide +kernel
theorem dX12_seasonOf_15 : decode cX12_seasonOf 15 = .ok (.bipush 7, 2) := by decide +kernel
theorem dX12_seasonOf_17 : decode cX12_seasonOf 17 = .ok (.iaload, 1) := by decide +kernel
theorem dX12_seasonOf_18 : decode cX12_seasonOf 18 = .ok (.goto 6, 3) := by decide +kernel
theorem dX12_seasonOf_21 : decode cX12_seasonOf 21 = .ok (.iload_n 1, 1) := by decide +kernel
theorem dX12_seasonOf_22 : decode cX12_seasonOf 22 = .ok (.iconst 4, 1) := by decide +kernel
theorem dX12_seasonOf_23 : decode cX12_seasonOf 23 = .ok (.idiv, 1) := by decide +kernel
theorem dX12_seasonOf_24 : decode cX12_seasonOf 24 = .ok (.ireturn, 1) := by decide +kernel
theorem dX12_isLost_0 : decode cX12_isLost 0 = .ok (.aload_n 0, 1) := by decide +kernel
theorem dX12_isLost_1 : decode cX12_isLost 1 = .ok (.iload_n 1, 1) := by decide +kernel
theorem dX12_isLost_2 : decode cX12_isLost 2 = .ok (.iconst 4, 1) := by decide +kernel
theorem dX12_isLost_3 : decode cX12_isLost 3 = .ok (.invokevirtual 65, 3) := by decide +kernel
theorem dX12_isLost_6 : decode cX12_isLost 6 = .ok (.ifCond .le 7, 3) := by decide +kernel
theorem dX12_isLost_9 : decode cX12_isLost 9 = .ok (.iconst 1, 1) := by decide +kernel
theorem dX12_isLost_10 : decode cX12_isLost 10 = .ok (.goto 4, 3) := by decide +kernel
theorem dX12_isLost_13 : decode cX12_isLost 13 = .ok (.iconst 0, 1) := by decide +kernel
theorem dX12_isLost_14 : decode cX12_isLost 14 = .ok (.ireturn, 1) := by decide +kernel
theorem dX12_inChoir_0 : decode cX12_inChoir 0 = .ok (.aload_n 0, 1) := by decide +kernel
theorem dX12_inChoir_1 : decode cX12_inChoir 1 = .ok (.iload_n 1, 1) := by decide +kernel
theorem dX12_inChoir_2 : decode cX12_inChoir 2 = .ok (.invokevirtual 69, 3) := by decide +kernel
theorem dX12_inChoir_5 : decode cX12_inChoir 5 = .ok (.ifCond .ne 23, 3) := by decide +kernel
theorem dX12_inChoir_8 : decode cX12_inChoir 8 = .ok (.aload_n 0, 1) := by decide +kernel
theorem dX12_inChoir_9 : decode cX12_inChoir 9 = .ok (.iload_n 1, 1) := by decide +kernel
theorem dX12_inChoir_10 : decode cX12_inChoir 10 = .ok (.iconst 0, 1) := by decide +kernel
theorem dX12_inChoir_11 : decode cX12_inChoir 11 = .ok (.invokevirtual 65, 3) := by decide +kernel
theorem dX12_inChoir_14 : decode cX12_inChoir 14 = .ok (.aload_n 0, 1) := by decide +kernel
theorem dX12_inChoir_15 : decode cX12_inChoir 15 = .ok (.getfield 7, 3) := by decide +kernel
theorem dX12_inChoir_18 : decode cX12_inChoir 18 = .ok (.bipush 6, 2) := by decide +kernel
theorem dX12_inChoir_20 : decode cX12_inChoir 20 = .ok (.iaload, 1) := by decide +kernel
theorem dX12_inChoir_21 : decode cX12_inChoir 21 = .ok (.if_icmp .ne 7, 3) := by decide +kernel
theorem dX12_inChoir_24 : decode cX12_inChoir 24 = .ok (.iconst 1, 1) := by decide +kernel
theorem dX12_inChoir_25 : decode cX12_inChoir 25 = .ok (.goto 4, 3) := by decide +kernel
theorem dX12_inChoir_28 : decode cX12_inChoir 28 = .ok (.iconst 0, 1) := by decide +kernel
theorem dX12_inChoir_29 : decode cX12_inChoir 29 = .ok (.ireturn, 1) := by decide +kernel
theorem dX12_steps_0 : decode cX12_steps 0 = .ok (.iload_n 0, 1) := by decide +kernel
theorem dX12_steps_1 : decode cX12_steps 1 = .ok (.iload_n 1, 1) := by decide +kernel
theorem dX12_steps_2 : decode cX12_steps 2 = .ok (.isub, 1) := by decide +kernel
theorem dX12_steps_3 : decode cX12_steps 3 = .ok (.bipush 16, 2) := by decide +kernel
theorem dX12_steps_5 : decode cX12_steps 5 = .ok (.iadd, 1) := by decide +kernel
theorem dX12_steps_6 : decode cX12_steps 6 = .ok (.bipush 16, 2) := by decide +kernel
theorem dX12_steps_8 : decode cX12_steps 8 = .ok (.irem, 1) := by decide +kernel
theorem dX12_steps_9 : decode cX12_steps 9 = .ok (.istore_n 2, 1) := by decide +kernel
theorem dX12_steps_10 : decode cX12_steps 10 = .ok (.iload_n 2, 1) := by decide +kernel
theorem dX12_steps_11 : decode cX12_steps 11 = .ok (.bipush 16, 2) := by decide +kernel
theorem dX12_steps_13 : decode cX12_steps 13 = .ok (.iload_n 2, 1) := by decide +kernel
theorem dX12_steps_14 : decode cX12_steps 14 = .ok (.isub, 1) := by decide +kernel
theorem dX12_steps_15 : decode cX12_steps 15 = .ok (.invokestatic 73, 3) := by decide +kernel
theorem dX12_steps_18 : decode cX12_steps 18 = .ok (.ireturn, 1) := by decide +kernel
theorem dX12_all_0 : decode cX12_all 0 = .ok (.iconst 1, 1) := by decide +kernel
theorem dX12_all_1 : decode cX12_all 1 = .ok (.aload_n 0, 1) := by decide +kernel
theorem dX12_all_2 : decode cX12_all 2 = .ok (.getfield 7, 3) := by decide +kernel
theorem dX12_all_5 : decode cX12_all 5 = .ok (.iconst 3, 1) := by decide +kernel
theorem dX12_all_6 : decode cX12_all 6 = .ok (.iaload, 1) := by decide +kernel
theorem dX12_all_7 : decode cX12_all 7 = .ok (.ishl, 1) := by decide +kernel
theorem dX12_all_8 : decode cX12_all 8 = .ok (.iconst 1, 1) := by decide +kernel
theorem dX12_all_9 : decode cX12_all 9 = .ok (.isub, 1) := by decide +kernel
theorem dX12_all_10 : decode cX12_all 10 = .ok (.ireturn, 1) := by decide +kernel
theorem dX12_feed_0 : decode cX12_feed 0 = .ok (.aload_n 0, 1) := by decide +kernel
theorem dX12_feed_1 : decode cX12_feed 1 = .ok (.iconst 0, 1) := by decide +kernel
theorem dX12_feed_2 : decode cX12_feed 2 = .ok (.putfield 58, 3) := by decide +kernel
theorem dX12_feed_5 : decode cX12_feed 5 = .ok (.aload_n 0, 1) := by decide +kernel
theorem dX12_feed_6 : decode cX12_feed 6 = .ok (.getfield 76, 3) := by decide +kernel
theorem dX12_feed_9 : decode cX12_feed 9 = .ok (.bipush 20, 2) := by decide +kernel
theorem dX12_feed_11 : decode cX12_feed 11 = .ok (.iadd, 1) := by decide +kernel
theorem dX12_feed_12 : decode cX12_feed 12 = .ok (.sipush 400, 3) := by decide +kernel
theorem dX12_feed_15 : decode cX12_feed 15 = .ok (.if_icmp .le 5, 3) := by decide +kernel
theorem dX12_feed_18 : decode cX12_feed 18 = .ok (.iconst (-1), 1) := by decide +kernel
theorem dX12_feed_19 : decode cX12_feed 19 = .ok (.ireturn, 1) := by decide +kernel
theorem dX12_feed_20 : decode cX12_feed 20 = .ok (.iconst 0, 1) := by decide +kernel
theorem dX12_feed_21 : decode cX12_feed 21 = .ok (.istore 6, 2) := by decide +kernel
theorem dX12_feed_23 : decode cX12_feed 23 = .ok (.iload 6, 2) := by decide +kernel
theorem dX12_feed_25 : decode cX12_feed 25 = .ok (.bipush 20, 2) := by decide +kernel
theorem dX12_feed_27 : decode cX12_feed 27 = .ok (.if_icmp .ge 93, 3) := by decide +kernel
theorem dX12_feed_30 : decode cX12_feed 30 = .ok (.iload 6, 2) := by decide +kernel
theorem dX12_feed_32 : decode cX12_feed 32 = .ok (.iconst 4, 1) := by decide +kernel
theorem dX12_feed_33 : decode cX12_feed 33 = .ok (.if_icmp .ge 7, 3) := by decide +kernel
theorem dX12_feed_36 : decode cX12_feed 36 = .ok (.iload_n 1, 1) := by decide +kernel
theorem dX12_feed_37 : decode cX12_feed 37 = .ok (.goto 39, 3) := by decide +kernel
theorem dX12_feed_40 : decode cX12_feed 40 = .ok (.iload 6, 2) := by decide +kernel
theorem dX12_feed_42 : decode cX12_feed 42 = .ok (.bipush 8, 2) := by decide +kernel
theorem dX12_feed_44 : decode cX12_feed 44 = .ok (.if_icmp .ge 7, 3) := by decide +kernel
theorem dX12_feed_47 : decode cX12_feed 47 = .ok (.iload_n 2, 1) := by decide +kernel
theorem dX12_feed_48 : decode cX12_feed 48 = .ok (.goto 28, 3) := by decide +kernel
theorem dX12_feed_51 : decode cX12_feed 51 = .ok (.iload 6, 2) := by decide +kernel
theorem dX12_feed_53 : decode cX12_feed 53 = .ok (.bipush 12, 2) := by decide +kernel
theorem dX12_feed_55 : decode cX12_feed 55 = .ok (.if_icmp .ge 7, 3) := by decide +kernel
theorem dX12_feed_58 : decode cX12_feed 58 = .ok (.iload_n 3, 1) := by decide +kernel
theorem dX12_feed_59 : decode cX12_feed 59 = .ok (.goto 17, 3) := by decide +kernel
theorem dX12_feed_62 : decode cX12_feed 62 = .ok (.iload 6, 2) := by decide +kernel
theorem dX12_feed_64 : decode cX12_feed 64 = .ok (.bipush 16, 2) := by decide +kernel
theorem dX12_feed_66 : decode cX12_feed 66 = .ok (.if_icmp .ge 8, 3) := by decide +kernel
theorem dX12_feed_69 : decode cX12_feed 69 = .ok (.iload 4, 2) := by decide +kernel
theorem dX12_feed_71 : decode cX12_feed 71 = .ok (.goto 5, 3) := by decide +kernel
theorem dX12_feed_74 : decode cX12_feed 74 = .ok (.iload 5, 2) := by decide +kernel
theorem dX12_feed_76 : decode cX12_feed 76 = .ok (.istore 7, 2) := by decide +kernel
theorem dX12_feed_78 : decode cX12_feed 78 = .ok (.aload_n 0, 1) := by decide +kernel
theorem dX12_feed_79 : decode cX12_feed 79 = .ok (.getfield 22, 3) := by decide +kernel
theorem dX12_feed_82 : decode cX12_feed 82 = .ok (.aload_n 0, 1) := by decide +kernel
theorem dX12_feed_83 : decode cX12_feed 83 = .ok (.getfield 76, 3) := by decide +kernel
theorem dX12_feed_86 : decode cX12_feed 86 = .ok (.iload 7, 2) := by decide +kernel
theorem dX12_feed_88 : decode cX12_feed 88 = .ok (.bipush 24, 2) := by decide +kernel
theorem dX12_feed_90 : decode cX12_feed 90 = .ok (.bipush 8, 2) := by decide +kernel
theorem dX12_feed_92 : decode cX12_feed 92 = .ok (.iload 6, 2) := by decide +kernel
theorem dX12_feed_94 : decode cX12_feed 94 = .ok (.iconst 4, 1) := by decide +kernel
theorem dX12_feed_95 : decode cX12_feed 95 = .ok (.irem, 1) := by decide +kernel
theorem dX12_feed_96 : decode cX12_feed 96 = .ok (.imul, 1) := by decide +kernel
theorem dX12_feed_97 : decode cX12_feed 97 = .ok (.isub, 1) := by decide +kernel
theorem dX12_feed_98 : decode cX12_feed 98 = .ok (.iushr, 1) := by decide +kernel
theorem dX12_feed_99 : decode cX12_feed 99 = .ok (.sipush 255, 3) := by decide +kernel
theorem dX12_feed_102 : decode cX12_feed 102 = .ok (.iand, 1) := by decide +kernel
theorem dX12_feed_103 : decode cX12_feed 103 = .ok (.iastore, 1) := by decide +kernel
theorem dX12_feed_104 : decode cX12_feed 104 = .ok (.aload_n 0, 1) := by decide +kernel
theorem dX12_feed_105 : decode cX12_feed 105 = .ok (.dup, 1) := by decide +kernel
theorem dX12_feed_106 : decode cX12_feed 106 = .ok (.getfield 76, 3) := by decide +kernel
theorem dX12_feed_109 : decode cX12_feed 109 = .ok (.iconst 1, 1) := by decide +kernel
theorem dX12_feed_110 : decode cX12_feed 110 = .ok (.iadd, 1) := by decide +kernel
theorem dX12_feed_111 : decode cX12_feed 111 = .ok (.putfield 76, 3) := by decide +kernel
theorem dX12_feed_114 : decode cX12_feed 114 = .ok (.iinc 6 1, 3) := by decide +kernel
theorem dX12_feed_117 : decode cX12_feed 117 = .ok (.goto (-94), 3) := by decide +kernel
theorem dX12_feed_120 : decode cX12_feed 120 = .ok (.aload_n 0, 1) := by decide +kernel
theorem dX12_feed_121 : decode cX12_feed 121 = .ok (.getfield 76, 3) := by decide +kernel
theorem dX12_feed_124 : decode cX12_feed 124 = .ok (.ireturn, 1) := by decide +kernel
theorem dX12_end_0 : decode cX12_end 0 = .ok (.aload_n 0, 1) := by decide +kernel
theorem dX12_end_1 : decode cX12_end 1 = .ok (.iconst 0, 1) := by decide +kernel
theorem dX12_end_2 : decode cX12_end 2 = .ok (.putfield 58, 3) := by decide +kernel
theorem dX12_end_5 : decode cX12_end 5 = .ok (.iload_n 1, 1) := by decide +kernel
theorem dX12_end_6 : decode cX12_end 6 = .ok (.iconst 0, 1) := by decide +kernel
theorem dX12_end_7 : decode cX12_end 7 = .ok (.aload_n 0, 1) := by decide +kernel
theorem dX12_end_8 : decode cX12_end 8 = .ok (.getfield 76, 3) := by decide +kernel
theorem dX12_end_11 : decode cX12_end 11 = .ok (.invokestatic 61, 3) := by decide +kernel
theorem dX12_end_14 : decode cX12_end 14 = .ok (.ifCond .ne 5, 3) := by decide +kernel
theorem dX12_end_17 : decode cX12_end 17 = .ok (.iconst 0, 1) := by decide +kernel
theorem dX12_end_18 : decode cX12_end 18 = .ok (.ireturn, 1) := by decide +kernel
theorem dX12_end_19 : decode cX12_end 19 = .ok (.aload_n 0, 1) := by decide +kernel
theorem dX12_end_20 : decode cX12_end 20 = .ok (.iload_n 1, 1) := by decide +kernel
theorem dX12_end_21 : decode cX12_end 21 = .ok (.putfield 76, 3) := by decide +kernel
theorem dX12_end_24 : decode cX12_end 24 = .ok (.iconst 1, 1) := by decide +kernel
theorem dX12_end_25 : decode cX12_end 25 = .ok (.ireturn, 1) := by decide +kernel
theorem dX12_letter_0 : decode cX12_letter 0 = .ok (.aload_n 0, 1) := by decide +kernel
theorem dX12_letter_1 : decode cX12_letter 1 = .ok (.getfield 79, 3) := by decide +kernel
theorem dX12_letter_4 : decode cX12_letter 4 = .ok (.iconst (-1), 1) := by decide +kernel
theorem dX12_letter_5 : decode cX12_letter 5 = .ok (.if_icmp .ne 12, 3) := by decide +kernel
theorem dX12_letter_8 : decode cX12_letter 8 = .ok (.aload_n 0, 1) := by decide +kernel
theorem dX12_letter_9 : decode cX12_letter 9 = .ok (.getfield 22, 3) := by decide +kernel
theorem dX12_letter_12 : decode cX12_letter 12 = .ok (.iload_n 1, 1) := by decide +kernel
theorem dX12_letter_13 : decode cX12_letter 13 = .ok (.iaload, 1) := by decide +kernel
theorem dX12_letter_14 : decode cX12_letter 14 = .ok (.goto 14, 3) := by decide +kernel
theorem dX12_letter_17 : decode cX12_letter 17 = .ok (.aload_n 0, 1) := by decide +kernel
theorem dX12_letter_18 : decode cX12_letter 18 = .ok (.getfield 7, 3) := by decide +kernel
theorem dX12_letter_21 : decode cX12_letter 21 = .ok (.aload_n 0, 1) := by decide +kernel
theorem dX12_letter_22 : decode cX12_letter 22 = .ok (.getfield 79, 3) := by decide +kernel
theorem dX12_letter_25 : decode cX12_letter 25 = .ok (.iload_n 1, 1) := by decide +kernel
theorem dX12_letter_26 : decode cX12_letter 26 = .ok (.iadd, 1) := by decide +kernel
theorem dX12_letter_27 : decode cX12_letter 27 = .ok (.iaload, 1) := by decide +kernel
theorem dX12_letter_28 : decode cX12_letter 28 = .ok (.ireturn, 1) := by decide +kernel
theorem dX12_skip_0 : decode cX12_skip 0 = .ok (.aload_n 0, 1) := by decide +kernel
theorem dX12_skip_1 : decode cX12_skip 1 = .ok (.getfield 82, 3) := by decide +kernel
theorem dX12_skip_4 : decode cX12_skip 4 = .ok (.aload_n 0, 1) := by decide +kernel
theorem dX12_skip_5 : decode cX12_skip 5 = .ok (.getfield 85, 3) := by decide +kernel
theorem dX12_skip_8 : decode cX12_skip 8 = .ok (.if_icmp .ge 29, 3) := by decide +kernel
theorem dX12_skip_11 : decode cX12_skip 11 = .ok (.aload_n 0, 1) := by decide +kernel
theorem dX12_skip_12 : decode cX12_skip 12 = .ok (.aload_n 0, 1) := by decide +kernel
theorem dX12_skip_13 : decode cX12_skip 13 = .ok (.getfield 82, 3) := by decide +kernel
theorem dX12_skip_16 : decode cX12_skip 16 = .ok (.invokevirtual 88, 3) := by decide +kernel
theorem dX12_skip_19 : decode cX12_skip 19 = .ok (.bipush 32, 2) := by decide +kernel
theorem dX12_skip_21 : decode cX12_skip 21 = .ok (.if_icmp .ne 16, 3) := by decide +kernel
theorem dX12_skip_24 : decode cX12_skip 24 = .ok (.aload_n 0, 1) := by decide +kernel
theorem dX12_skip_25 : decode cX12_skip 25 = .ok (.dup, 1) := by decide +kernel
theorem dX12_skip_26 : decode cX12_skip 26 = .ok (.getfield 82, 3) := by decide +kernel
theorem dX12_skip_29 : decode cX12_skip 29 = .ok (.iconst 1, 1) := by decide +kernel
theorem dX12_skip_30 : decode cX12_skip 30 = .ok (.iadd, 1) := by decide +kernel
theorem dX12_skip_31 : decode cX12_skip 31 = .ok (.putfield 82, 3) := by decide +kernel
theorem dX12_skip_34 : decode cX12_skip 34 = .ok (.goto (-34), 3) := by decide +kernel
theorem dX12_skip_37 : decode cX12_skip 37 = .ok (.return_, 1) := by decide +kernel
theorem dX12_isSign_0 : decode cX12_isSign 0 = .ok (.aload_n 0, 1) := by decide +kernel
theorem dX12_isSign_1 : decode cX12_isSign 1 = .ok (.invokevirtual 92, 3) := by decide +kernel
theorem dX12_isSign_4 : decode cX12_isSign 4 = .ok (.aload_n 0, 1) := by decide +kernel
theorem dX12_isSign_5 : decode cX12_isSign 5 = .ok (.getfield 82, 3) := by decide +kernel
theorem dX12_isSign_8 : decode cX12_isSign 8 = .ok (.aload_n 0, 1) := by decide +kernel
theorem dX12_isSign_9 : decode cX12_isSign 9 = .ok (.getfield 85, 3) := by decide +kernel
theorem dX12_isSign_12 : decode cX12_isSign 12 = .ok (.if_icmp .ge 19, 3) := by decide +kernel
theorem dX12_isSign_15 : decode cX12_isSign 15 = .ok (.aload_n 0, 1) := by decide +kernel
theorem dX12_isSign_16 : decode cX12_isSign 16 = .ok (.aload_n 0, 1) := by decide +kernel
theorem dX12_isSign_17 : decode cX12_isSign 17 = .ok (.getfield 82, 3) := by decide +kernel
theorem dX12_isSign_20 : decode cX12_isSign 20 = .ok (.invokevirtual 88, 3) := by decide +kernel
theorem dX12_isSign_23 : decode cX12_isSign 23 = .ok (.iload_n 1, 1) := by decide +kernel
theorem dX12_isSign_24 : decode cX12_isSign 24 = .ok (.if_icmp .ne 7, 3) := by decide +kernel
theorem dX12_isSign_27 : decode cX12_isSign 27 = .ok (.iconst 1, 1) := by decide +kernel
theorem dX12_isSign_28 : decode cX12_isSign 28 = .ok (.goto 4, 3) := by decide +kernel
theorem dX12_isSign_31 : decode cX12_isSign 31 = .ok (.iconst 0, 1) := by decide +kernel
theorem dX12_isSign_32 : decode cX12_isSign 32 = .ok (.ireturn, 1) := by decide +kernel
theorem dX12_has_0 : decode cX12_has 0 = .ok (.aload_n 0, 1) := by decide +kernel
theorem dX12_has_1 : decode cX12_has 1 = .ok (.invokevirtual 92, 3) := by decide +kernel
theorem dX12_has_4 : decode cX12_has 4 = .ok (.aload_n 0, 1) := by decide +kernel
theorem dX12_has_5 : decode cX12_has 5 = .ok (.getfield 82, 3) := by decide +kernel
theorem dX12_has_8 : decode cX12_has 8 = .ok (.istore_n 2, 1) := by decide +kernel
theorem dX12_has_9 : decode cX12_has 9 = .ok (.iload_n 2, 1) := by decide +kernel
theorem dX12_has_10 : decode cX12_has 10 = .ok (.aload_n 0, 1) := by decide +kernel
theorem dX12_has_11 : decode cX12_has 11 = .ok (.getfield 85, 3) := by decide +kernel
theorem dX12_has_14 : decode cX12_has 14 = .ok (.if_icmp .ge 24, 3) := by decide +kernel
theorem dX12_has_17 : decode cX12_has 17 = .ok (.aload_n 0, 1) := by decide +kernel
theorem dX12_has_18 : decode cX12_has 18 = .ok (.iload_n 2, 1) := by decide +kernel
theorem dX12_has_19 : decode cX12_has 19 = .ok (.invokevirtual 88, 3) := by decide +kernel
theorem dX12_has_22 : decode cX12_has 22 = .ok (.bipush 97, 2) := by decide +kernel
theorem dX12_has_24 : decode cX12_has 24 = .ok (.bipush 122, 2) := by decide +kernel
theorem dX12_has_26 : decode cX12_has 26 = .ok (.invokestatic 61, 3) := by decide +kernel
theorem dX12_has_29 : decode cX12_has 29 = .ok (.ifCond .eq 9, 3) := by decide +kernel
theorem dX12_has_32 : decode cX12_has 32 = .ok (.iinc 2 1, 3) := by decide +kernel
theorem dX12_has_35 : decode cX12_has 35 = .ok (.goto (-26), 3) := by decide +kernel
theorem dX12_has_38 : decode cX12_has 38 = .ok (.iload_n 2, 1) := by decide +kernel
theorem dX12_has_39 : decode cX12_has 39 = .ok (.aload_n 0, 1) := by decide +kernel
theorem dX12_has_40 : decode cX12_has 40 = .ok (.getfield 82, 3) := by decide +kernel
theorem dX12_has_43 : decode cX12_has 43 = .ok (.isub, 1) := by decide +kernel
theorem dX12_has_44 : decode cX12_has 44 = .ok (.aload_n 1, 1) := by decide +kernel
theorem dX12_has_45 : decode cX12_has 45 = .ok (.invokevirtual 95, 3) := by decide +kernel
theorem dX12_has_48 : decode cX12_has 48 = .ok (.if_icmp .eq 5, 3) := by decide +kernel
theorem dX12_has_51 : decode cX12_has 51 = .ok (.iconst 0, 1) := by decide +kernel
theorem dX12_has_52 : decode cX12_has 52 = .ok (.ireturn, 1) := by decide +kernel
theorem dX12_has_53 : decode cX12_has 53 = .ok (.iconst 0, 1) := by decide +kernel
theorem dX12_has_54 : decode cX12_has 54 = .ok (.istore_n 3, 1) := by decide +kernel
theorem dX12_has_55 : decode cX12_has 55 = .ok (.iload_n 3, 1) := by decide +kernel
theorem dX12_has_56 : decode cX12_has 56 = .ok (.aload_n 1, 1) := by decide +kernel
theorem dX12_has_57 : decode cX12_has 57 = .ok (.invokevirtual 95, 3) := by decide +kernel
theorem dX12_has_60 : decode cX12_has 60 = .ok (.if_icmp .ge 29, 3) := by decide +kernel
theorem dX12_has_63 : decode cX12_has 63 = .ok (.aload_n 0, 1) := by decide +kernel
theorem dX12_has_64 : decode cX12_has 64 = .ok (.aload_n 0, 1) := by decide +kernel
theorem dX12_has_65 : decode cX12_has 65 = .ok (.getfield 82, 3) := by decide +kernel
theorem dX12_has_68 : decode cX12_has 68 = .ok (.iload_n 3, 1) := by decide +kernel
theorem dX12_has_69 : decode cX12_has 69 = .ok (.iadd, 1) := by decide +kernel
theorem dX12_has_70 : decode cX12_has 70 = .ok (.invokevirtual 88, 3) := by decide +kernel
theorem dX12_has_73 : decode cX12_has 73 = .ok (.aload_n 1, 1) := by decide +kernel
theorem dX12_has_74 : decode cX12_has 74 = .ok (.iload_n 3, 1) := by decide +kernel
theorem dX12_has_75 : decode cX12_has 75 = .ok (.invokevirtual 101, 3) := by decide +kernel
theorem dX12_has_78 : decode cX12_has 78 = .ok (.if_icmp .eq 5, 3) := by decide +kernel
theorem dX12_has_81 : decode cX12_has 81 = .ok (.iconst 0, 1) := by decide +kernel
theorem dX12_has_82 : decode cX12_has 82 = .ok (.ireturn, 1) := by decide +kernel
theorem dX12_has_83 : decode cX12_has 83 = .ok (.iinc 3 1, 3) := by decide +kernel
theorem dX12_has_86 : decode cX12_has 86 = .ok (.goto (-31), 3) := by decide +kernel
theorem dX12_has_89 : decode cX12_has 89 = .ok (.aload_n 0, 1) := by decide +kernel
theorem dX12_has_90 : decode cX12_has 90 = .ok (.iload_n 2, 1) := by decide +kernel
theorem dX12_has_91 : decode cX12_has 91 = .ok (.putfield 82, 3) := by decide +kernel
theorem dX12_has_94 : decode cX12_has 94 = .ok (.iconst 1, 1) := by decide +kernel
theorem dX12_has_95 : decode cX12_has 95 = .ok (.ireturn, 1) := by decide +kernel
theorem dX12_wrong_0 : decode cX12_wrong 0 = .ok (.aload_n 0, 1) := by decide +kernel
theorem dX12_wrong_1 : decode cX12_wrong 1 = .ok (.getfield 25, 3) := by decide +kernel
theorem dX12_wrong_4 : decode cX12_wrong 4 = .ok (.iconst (-1), 1) := by decide +kernel
theorem dX12_wrong_5 : decode cX12_wrong 5 = .ok (.if_icmp .ne 8, 3) := by decide +kernel
theorem dX12_wrong_8 : decode cX12_wrong 8 = .ok (.aload_n 0, 1) := by decide +kernel
theorem dX12_wrong_9 : decode cX12_wrong 9 = .ok (.iload_n 1, 1) := by decide +kernel
theorem dX12_wrong_10 : decode cX12_wrong 10 = .ok (.putfield 25, 3) := by decide +kernel
theorem dX12_wrong_13 : decode cX12_wrong 13 = .ok (.return_, 1) := by decide +kernel
theorem dX12_here_0 : decode cX12_here 0 = .ok (.aload_n 0, 1) := by decide +kernel
theorem dX12_here_1 : decode cX12_here 1 = .ok (.invokevirtual 92, 3) := by decide +kernel
theorem dX12_here_4 : decode cX12_here 4 = .ok (.aload_n 0, 1) := by decide +kernel
theorem dX12_here_5 : decode cX12_here 5 = .ok (.getfield 82, 3) := by decide +kernel
theorem dX12_here_8 : decode cX12_here 8 = .ok (.ireturn, 1) := by decide +kernel
theorem dX12_figures_0 : decode cX12_figures 0 = .ok (.aload_n 0, 1) := by decide +kernel
theorem dX12_figures_1 : decode cX12_figures 1 = .ok (.getfield 25, 3) := by decide +kernel
theorem dX12_figures_4 : decode cX12_figures 4 = .ok (.iconst (-1), 1) := by decide +kernel
theorem dX12_figures_5 : decode cX12_figures 5 = .ok (.if_icmp .eq 5, 3) := by decide +kernel
theorem dX12_figures_8 : decode cX12_figures 8 = .ok (.iconst 0, 1) := by decide +kernel
theorem dX12_figures_9 : decode cX12_figures 9 = .ok (.ireturn, 1) := by decide +kernel
theorem dX12_figures_10 : decode cX12_figures 10 = .ok (.aload_n 0, 1) := by decide +kernel
theorem dX12_figures_11 : decode cX12_figures 11 = .ok (.invokevirtual 105, 3) := by decide +kernel
theorem dX12_figures_14 : decode cX12_figures 14 = .ok (.istore_n 3, 1) := by decide +kernel
theorem dX12_figures_15 : decode cX12_figures 15 = .ok (.iconst 0, 1) := by decide +kernel
theorem dX12_figures_16 : decode cX12_figures 16 = .ok (.istore 4, 2) := by decide +kernel
theorem dX12_figures_18 : decode cX12_figures 18 = .ok (.aload_n 0, 1) := by decide +kernel
theorem dX12_figures_19 : decode cX12_figures 19 = .ok (.getfield 82, 3) := by decide +kernel
theorem dX12_figures_22 : decode cX12_figures 22 = .ok (.aload_n 0, 1) := by decide +kernel
theorem dX12_figures_23 : decode cX12_figures 23 = .ok (.getfield 85, 3) := by decide +kernel
theorem dX12_figures_26 : decode cX12_figures 26 = .ok (.if_icmp .ge 63, 3) := by decide +kernel
theorem dX12_figures_29 : decode cX12_figures 29 = .ok (.aload_n 0, 1) := by decide +kernel
theorem dX12_figures_30 : decode cX12_figures 30 = .ok (.aload_n 0, 1) := by decide +kernel
theorem dX12_figures_31 : decode cX12_figures 31 = .ok (.getfield 82, 3) := by decide +kernel
theorem dX12_figures_34 : decode cX12_figures 34 = .ok (.invokevirtual 88, 3) := by decide +kernel
theorem dX12_figures_37 : decode cX12_figures 37 = .ok (.bipush 48, 2) := by decide +kernel
theorem dX12_figures_39 : decode cX12_figures 39 = .ok (.bipush 57, 2) := by decide +kernel
theorem dX12_figures_41 : decode cX12_figures 41 = .ok (.invokestatic 61, 3) := by decide +kernel
theorem dX12_figures_44 : decode cX12_figures 44 = .ok (.ifCond .eq 45, 3) := by decide +kernel
theorem dX12_figures_47 : decode cX12_figures 47 = .ok (.aload_n 0, 1) := by decide +kernel
theorem dX12_figures_48 : decode cX12_figures 48 = .ok (.getfield 82, 3) := by decide +kernel
theorem dX12_figures_51 : decode cX12_figures 51 = .ok (.iload_n 3, 1) := by decide +kernel
theorem dX12_figures_52 : decode cX12_figures 52 = .ok (.isub, 1) := by decide +kernel
theorem dX12_figures_53 : decode cX12_figures 53 = .ok (.iconst 3, 1) := by decide +kernel
theorem dX12_figures_54 : decode cX12_figures 54 = .ok (.if_icmp .gt 35, 3) := by decide +kernel
theorem dX12_figures_57 : decode cX12_figures 57 = .ok (.bipush 10, 2) := by decide +kernel
theorem dX12_figures_59 : decode cX12_figures 59 = .ok (.iload 4, 2) := by decide +kernel
theorem dX12_figures_61 : decode cX12_figures 61 = .ok (.imul, 1) := by decide +kernel
theorem dX12_figures_62 : decode cX12_figures 62 = .ok (.aload_n 0, 1) := by decide +kernel
theorem dX12_figures_63 : decode cX12_figures 63 = .ok (.aload_n 0, 1) := by decide +kernel
theorem dX12_figures_64 : decode cX12_figures 64 = .ok (.getfield 82, 3) := by decide +kernel
theorem dX12_figures_67 : decode cX12_figures 67 = .ok (.invokevirtual 88, 3) := by decide +kernel
theorem dX12_figures_70 : decode cX12_figures 70 = .ok (.iadd, 1) := by decide +kernel
theorem dX12_figures_71 : decode cX12_figures 71 = .ok (.bipush 48, 2) := by decide +kernel
theorem dX12_figures_73 : decode cX12_figures 73 = .ok (.isub, 1) := by decide +kernel
theorem dX12_figures_74 : decode cX12_figures 74 = .ok (.istore 4, 2) := by decide +kernel
theorem dX12_figures_76 : decode cX12_figures 76 = .ok (.aload_n 0, 1) := by decide +kernel
theorem dX12_figures_77 : decode cX12_figures 77 = .ok (.dup, 1) := by decide +kernel
theorem dX12_figures_78 : decode cX12_figures 78 = .ok (.getfield 82, 3) := by decide +kernel
theorem dX12_figures_81 : decode cX12_figures 81 = .ok (.iconst 1, 1) := by decide +kernel
theorem dX12_figures_82 : decode cX12_figures 82 = .ok (.iadd, 1) := by decide +kernel
theorem dX12_figures_83 : decode cX12_figures 83 = .ok (.putfield 82, 3) := by decide +kernel
theorem dX12_figures_86 : decode cX12_figures 86 = .ok (.goto (-68), 3) := by decide +kernel
theorem dX12_figures_89 : decode cX12_figures 89 = .ok (.aload_n 0, 1) := by decide +kernel
theorem dX12_figures_90 : decode cX12_figures 90 = .ok (.getfield 82, 3) := by decide +kernel
theorem dX12_figures_93 : decode cX12_figures 93 = .ok (.iload_n 3, 1) := by decide +kernel
theorem dX12_figures_94 : decode cX12_figures 94 = .ok (.if_icmp .eq 25, 3) := by decide +kernel
theorem dX12_figures_97 : decode cX12_figures 97 = .ok (.aload_n 0, 1) := by decide +kernel
theorem dX12_figures_98 : decode cX12_figures 98 = .ok (.getfield 82, 3) := by decide +kernel
theorem dX12_figures_101 : decode cX12_figures 101 = .ok (.iload_n 3, 1) := by decide +kernel
theorem dX12_figures_102 : decode cX12_figures 102 = .ok (.isub, 1) := by decide +kernel
theorem dX12_figures_103 : decode cX12_figures 103 = .ok (.iconst 3, 1) := by decide +kernel
theorem dX12_figures_104 : decode cX12_figures 104 = .ok (.if_icmp .gt 15, 3) := by decide +kernel
theorem dX12_figures_107 : decode cX12_figures 107 = .ok (.iload 4, 2) := by decide +kernel
theorem dX12_figures_109 : decode cX12_figures 109 = .ok (.iload_n 1, 1) := by decide +kernel
theorem dX12_figures_110 : decode cX12_figures 110 = .ok (.if_icmp .lt 9, 3) := by decide +kernel
theorem dX12_figures_113 : decode cX12_figures 113 = .ok (.iload 4, 2) := by decide +kernel
theorem dX12_figures_115 : decode cX12_figures 115 = .ok (.iload_n 2, 1) := by decide +kernel
theorem dX12_figures_116 : decode cX12_figures 116 = .ok (.if_icmp .le 8, 3) := by decide +kernel
theorem dX12_figures_119 : decode cX12_figures 119 = .ok (.aload_n 0, 1) := by decide +kernel
theorem dX12_figures_120 : decode cX12_figures 120 = .ok (.iload_n 3, 1) := by decide +kernel
theorem dX12_figures_121 : decode cX12_figures 121 = .ok (.invokevirtual 108, 3) := by decide +kernel
theorem dX12_figures_124 : decode cX12_figures 124 = .ok (.iload 4, 2) := by decide +kernel
theorem dX12_figures_126 : decode cX12_figures 126 = .ok (.ireturn, 1) := by decide +kernel
theorem dX12_after_0 : decode cX12_after 0 = .ok (.aload_n 0, 1) := by decide +kernel
theorem dX12_after_1 : decode cX12_after 1 = .ok (.getfield 25, 3) := by decide +kernel
theorem dX12_after_4 : decode cX12_after 4 = .ok (.iconst (-1), 1) := by decide +kernel
theorem dX12_after_5 : decode cX12_after 5 = .ok (.if_icmp .ne 19, 3) := by decide +kernel
theorem dX12_after_8 : decode cX12_after 8 = .ok (.aload_n 0, 1) := by decide +kernel
theorem dX12_after_9 : decode cX12_after 9 = .ok (.aload_n 1, 1) := by decide +kernel
theorem dX12_after_10 : decode cX12_after 10 = .ok (.invokevirtual 112, 3) := by decide +kernel
theorem dX12_after_13 : decode cX12_after 13 = .ok (.ifCond .ne 11, 3) := by decide +kernel
theorem dX12_after_16 : decode cX12_after 16 = .ok (.aload_n 0, 1) := by decide +kernel
theorem dX12_after_17 : decode cX12_after 17 = .ok (.aload_n 0, 1) := by decide +kernel
theorem dX12_after_18 : decode cX12_after 18 = .ok (.getfield 82, 3) := by decide +kernel
theorem dX12_after_21 : decode cX12_after 21 = .ok (.invokevirtual 108, 3) := by decide +kernel
theorem dX12_after_24 : decode cX12_after 24 = .ok (.aload_n 0, 1) := by decide +kernel
theorem dX12_after_25 : decode cX12_after 25 = .ok (.iload_n 2, 1) := by decide +kernel
theorem dX12_after_26 : decode cX12_after 26 = .ok (.iload_n 3, 1) := by decide +kernel
theorem dX12_after_27 : decode cX12_after 27 = .ok (.invokevirtual 116, 3) := by decide +kernel
theorem dX12_after_30 : decode cX12_after 30 = .ok (.ireturn, 1) := by decide +kernel
theorem dX12_isStall_0 : decode cX12_isStall 0 = .ok (.iconst 0, 1) := by decide +kernel
theorem dX12_isStall_1 : decode cX12_isStall 1 = .ok (.istore_n 2, 1) := by decide +kernel
theorem dX12_isStall_2 : decode cX12_isStall 2 = .ok (.iconst 0, 1) := by decide +kernel
theorem dX12_isStall_3 : decode cX12_isStall 3 = .ok (.istore_n 3, 1) := by decide +kernel
theorem dX12_isStall_4 : decode cX12_isStall 4 = .ok (.iload_n 3, 1) := by decide +kernel
theorem dX12_isStall_5 : decode cX12_isStall 5 = .ok (.aload_n 0, 1) := by decide +kernel
theorem dX12_isStall_6 : decode cX12_isStall 6 = .ok (.getfield 7, 3) := by decide +kernel
theorem dX12_isStall_9 : decode cX12_isStall 9 = .ok (.iconst 3, 1) := by decide +kernel
theorem dX12_isStall_10 : decode cX12_isStall 10 = .ok (.iaload, 1) := by decide +kernel
theorem dX12_isStall_11 : decode cX12_isStall 11 = .ok (.if_icmp .ge 29, 3) := by decide +kernel
theorem dX12_isStall_14 : decode cX12_isStall 14 = .ok (.iload_n 2, 1) := by decide +kernel
theorem dX12_isStall_15 : decode cX12_isStall 15 = .ok (.ifCond .ne 13, 3) := by decide +kernel
theorem dX12_isStall_18 : decode cX12_isStall 18 = .ok (.aload_n 0, 1) := by decide +kernel
theorem dX12_isStall_19 : decode cX12_isStall 19 = .ok (.iload_n 3, 1) := by decide +kernel
theorem dX12_isStall_20 : decode cX12_isStall 20 = .ok (.iconst 2, 1) := by decide +kernel
theorem dX12_isStall_21 : decode cX12_isStall 21 = .ok (.invokevirtual 65, 3) := by decide +kernel
theorem dX12_isStall_24 : decode cX12_isStall 24 = .ok (.iload_n 1, 1) := by decide +kernel
theorem dX12_isStall_25 : decode cX12_isStall 25 = .ok (.if_icmp .ne 7, 3) := by decide +kernel
theorem dX12_isStall_28 : decode cX12_isStall 28 = .ok (.iconst 1, 1) := by decide +kernel
theorem dX12_isStall_29 : decode cX12_isStall 29 = .ok (.goto 4, 3) := by decide +kernel
theorem dX12_isStall_32 : decode cX12_isStall 32 = .ok (.iconst 0, 1) := by decide +kernel
theorem dX12_isStall_33 : decode cX12_isStall 33 = .ok (.istore_n 2, 1) := by decide +kernel
theorem dX12_isStall_34 : decode cX12_isStall 34 = .ok (.iinc 3 1, 3) := by decide +kernel
theorem dX12_isStall_37 : decode cX12_isStall 37 = .ok (.goto (-33), 3) := by decide +kernel
theorem dX12_isStall_40 : decode cX12_isStall 40 = .ok (.iload_n 2, 1) := by decide +kernel
theorem dX12_isStall_41 : decode cX12_isStall 41 = .ok (.ireturn, 1) := by decide +kernel
theorem dX12_months_0 : decode cX12_months 0 = .ok (.aload_n 0, 1) := by decide +kernel
theorem dX12_months_1 : decode cX12_months 1 = .ok (.getfield 25, 3) := by decide +kernel
theorem dX12_months_4 : decode cX12_months 4 = .ok (.iconst (-1), 1) := by decide +kernel
theorem dX12_months_5 : decode cX12_months 5 = .ok (.if_icmp .eq 5, 3) := by decide +kernel
theorem dX12_months_8 : decode cX12_months 8 = .ok (.iconst 0, 1) := by decide +kernel
theorem dX12_months_9 : decode cX12_months 9 = .ok (.ireturn, 1) := by decide +kernel
theorem dX12_months_10 : decode cX12_months 10 = .ok (.aload_n 0, 1) := by decide +kernel
theorem dX12_months_11 : decode cX12_months 11 = .ok (.invokevirtual 105, 3) := by decide +kernel
theorem dX12_months_14 : decode cX12_months 14 = .ok (.istore_n 1, 1) := by decide +kernel
theorem dX12_months_15 : decode cX12_months 15 = .ok (.iconst 0, 1) := by decide +kernel
theorem dX12_months_16 : decode cX12_months 16 = .ok (.istore_n 2, 1) := by decide +kernel
theorem dX12_months_17 : decode cX12_months 17 = .ok (.iconst 1, 1) := by decide +kernel
theorem dX12_months_18 : decode cX12_months 18 = .ok (.istore_n 3, 1) := by decide +kernel
theorem dX12_months_19 : decode cX12_months 19 = .ok (.iload_n 1, 1) := by decide +kernel
theorem dX12_months_20 : decode cX12_months 20 = .ok (.istore 4, 2) := by decide +kernel
theorem dX12_months_22 : decode cX12_months 22 = .ok (.iload 4, 2) := by decide +kernel
theorem dX12_months_24 : decode cX12_months 24 = .ok (.aload_n 0, 1) := by decide +kernel
theorem dX12_months_25 : decode cX12_months 25 = .ok (.getfield 85, 3) := by decide +kernel
theorem dX12_months_28 : decode cX12_months 28 = .ok (.if_icmp .ge 80, 3) := by decide +kernel
theorem dX12_months_31 : decode cX12_months 31 = .ok (.aload_n 0, 1) := by decide +kernel
theorem dX12_months_32 : decode cX12_months 32 = .ok (.iload 4, 2) := by decide +kernel
theorem dX12_months_34 : decode cX12_months 34 = .ok (.invokevirtual 88, 3) := by decide +kernel
theorem dX12_months_37 : decode cX12_months 37 = .ok (.bipush 97, 2) := by decide +kernel
theorem dX12_months_39 : decode cX12_months 39 = .ok (.bipush 122, 2) := by decide +kernel
theorem dX12_months_41 : decode cX12_months 41 = .ok (.invokestatic 61, 3) := by decide +kernel
theorem dX12_months_44 : decode cX12_months 44 = .ok (.ifCond .eq 64, 3) := by decide +kernel
theorem dX12_months_47 : decode cX12_months 47 = .ok (.aload_n 0, 1) := by decide +kernel
theorem dX12_months_48 : decode cX12_months 48 = .ok (.iload 4, 2) := by decide +kernel
theorem dX12_months_50 : decode cX12_months 50 = .ok (.invokevirtual 88, 3) := by decide +kernel
theorem dX12_months_53 : decode cX12_months 53 = .ok (.bipush 97, 2) := by decide +kernel
theorem dX12_months_55 : decode cX12_months 55 = .ok (.isub, 1) := by decide +kernel
theorem dX12_months_56 : decode cX12_months 56 = .ok (.istore 5, 2) := by decide +kernel
theorem dX12_months_58 : decode cX12_months 58 = .ok (.iload_n 3, 1) := by decide +kernel
theorem dX12_months_59 : decode cX12_months 59 = .ok (.ifCond .eq 23, 3) := by decide +kernel
theorem dX12_months_62 : decode cX12_months 62 = .ok (.iload 5, 2) := by decide +kernel
theorem dX12_months_64 : decode cX12_months 64 = .ok (.bipush 12, 2) := by decide +kernel
theorem dX12_months_66 : decode cX12_months 66 = .ok (.if_icmp .ge 16, 3) := by decide +kernel
theorem dX12_months_69 : decode cX12_months 69 = .ok (.iload_n 2, 1) := by decide +kernel
theorem dX12_months_70 : decode cX12_months 70 = .ok (.iload 5, 2) := by decide +kernel
theorem dX12_months_72 : decode cX12_months 72 = .ok (.invokestatic 119, 3) := by decide +kernel
theorem dX12_months_75 : decode cX12_months 75 = .ok (.ifCond .ne 7, 3) := by decide +kernel
theorem dX12_months_78 : decode cX12_months 78 = .ok (.iconst 1, 1) := by decide +kernel
theorem dX12_months_79 : decode cX12_months 79 = .ok (.goto 4, 3) := by decide +kernel
theorem dX12_months_82 : decode cX12_months 82 = .ok (.iconst 0, 1) := by decide +kernel
theorem dX12_months_83 : decode cX12_months 83 = .ok (.istore_n 3, 1) := by decide +kernel
theorem dX12_months_84 : decode cX12_months 84 = .ok (.iload_n 2, 1) := by decide +kernel
theorem dX12_months_85 : decode cX12_months 85 = .ok (.iload 5, 2) := by decide +kernel
theorem dX12_months_87 : decode cX12_months 87 = .ok (.bipush 12, 2) := by decide +kernel
theorem dX12_months_89 : decode cX12_months 89 = .ok (.if_icmp .ge 10, 3) := by decide +kernel
theorem dX12_months_92 : decode cX12_months 92 = .ok (.iconst 1, 1) := by decide +kernel
theorem dX12_months_93 : decode cX12_months 93 = .ok (.iload 5, 2) := by decide +kernel
theorem dX12_months_95 : decode cX12_months 95 = .ok (.ishl, 1) := by decide +kernel
theorem dX12_months_96 : decode cX12_months 96 = .ok (.goto 4, 3) := by decide +kernel
theorem dX12_months_99 : decode cX12_months 99 = .ok (.iconst 0, 1) := by decide +kernel
theorem dX12_months_100 : decode cX12_months 100 = .ok (.ior, 1) := by decide +kernel
theorem dX12_months_101 : decode cX12_months 101 = .ok (.istore_n 2, 1) := by decide +kernel
theorem dX12_months_102 : decode cX12_months 102 = .ok (.iinc 4 1, 3) := by decide +kernel
theorem dX12_months_105 : decode cX12_months 105 = .ok (.goto (-83), 3) := by decide +kernel
theorem dX12_months_108 : decode cX12_months 108 = .ok (.iload_n 3, 1) := by decide +kernel
theorem dX12_months_109 : decode cX12_months 109 = .ok (.ifCond .eq 7, 3) := by decide +kernel
theorem dX12_months_112 : decode cX12_months 112 = .ok (.iload_n 2, 1) := by decide +kernel
theorem dX12_months_113 : decode cX12_months 113 = .ok (.ifCond .ne 11, 3) := by decide +kernel
theorem dX12_months_116 : decode cX12_months 116 = .ok (.aload_n 0, 1) := by decide +kernel
theorem dX12_months_117 : decode cX12_months 117 = .ok (.iload_n 1, 1) := by decide +kernel
theorem dX12_months_118 : decode cX12_months 118 = .ok (.invokevirtual 108, 3) := by decide +kernel
theorem dX12_months_121 : decode cX12_months 121 = .ok (.goto 9, 3) := by decide +kernel
theorem dX12_months_124 : decode cX12_months 124 = .ok (.aload_n 0, 1) := by decide +kernel
theorem dX12_months_125 : decode cX12_months 125 = .ok (.iload 4, 2) := by decide +kernel
theorem dX12_months_127 : decode cX12_months 127 = .ok (.putfield 82, 3) := by decide +kernel
theorem dX12_months_130 : decode cX12_months 130 = .ok (.iload_n 2, 1) := by decide +kernel
theorem dX12_months_131 : decode cX12_months 131 = .ok (.ireturn, 1) := by decide +kernel
theorem dX12_monkLine_0 : decode cX12_monkLine 0 = .ok (.aload_n 0, 1) := by decide +kernel
theorem dX12_monkLine_1 : decode cX12_monkLine 1 = .ok (.getfield 7, 3) := by decide +kernel
theorem dX12_monkLine_4 : decode cX12_monkLine 4 = .ok (.iconst 3, 1) := by decide +kernel
theorem dX12_monkLine_5 : decode cX12_monkLine 5 = .ok (.iaload, 1) := by decide +kernel
theorem dX12_monkLine_6 : decode cX12_monkLine 6 = .ok (.bipush 7, 2) := by decide +kernel
theorem dX12_monkLine_8 : decode cX12_monkLine 8 = .ok (.if_icmp .ne 8, 3) := by decide +kernel
theorem dX12_monkLine_11 : decode cX12_monkLine 11 = .ok (.aload_n 0, 1) := by decide +kernel
theorem dX12_monkLine_12 : decode cX12_monkLine 12 = .ok (.iload_n 1, 1) := by decide +kernel
theorem dX12_monkLine_13 : decode cX12_monkLine 13 = .ok (.invokevirtual 108, 3) := by decide +kernel
theorem dX12_monkLine_16 : decode cX12_monkLine 16 = .ok (.aload_n 0, 1) := by decide +kernel
theorem dX12_monkLine_17 : decode cX12_monkLine 17 = .ok (.ldc 123, 2) := by decide +kernel
theorem dX12_monkLine_19 : decode cX12_monkLine 19 = .ok (.iconst 0, 1) := by decide +kernel
theorem dX12_monkLine_20 : decode cX12_monkLine 20 = .ok (.bipush 15, 2) := by decide +kernel
theorem dX12_monkLine_22 : decode cX12_monkLine 22 = .ok (.invokevirtual 124, 3) := by decide +kernel
theorem dX12_monkLine_25 : decode cX12_monkLine 25 = .ok (.istore_n 2, 1) := by decide +kernel
theorem dX12_monkLine_26 : decode cX12_monkLine 26 = .ok (.aload_n 0, 1) := by decide +kernel
theorem dX12_monkLine_27 : decode cX12_monkLine 27 = .ok (.getfield 25, 3) := by decide +kernel
theorem dX12_monkLine_30 : decode cX12_monkLine 30 = .ok (.iconst (-1), 1) := by decide +kernel
theorem dX12_monkLine_31 : decode cX12_monkLine 31 = .ok (.if_icmp .ne 16, 3) := by decide +kernel
theorem dX12_monkLine_34 : decode cX12_monkLine 34 = .ok (.aload_n 0, 1) := by decide +kernel
theorem dX12_monkLine_35 : decode cX12_monkLine 35 = .ok (.ldc 128, 2) := by decide +kernel
theorem dX12_monkLine_37 : decode cX12_monkLine 37 = .ok (.invokevirtual 112, 3) := by decide +kernel
theorem dX12_monkLine_40 : decode cX12_monkLine 40 = .ok (.ifCond .eq 7, 3) := by decide +kernel
theorem dX12_monkLine_43 : decode cX12_monkLine 43 = .ok (.iconst 1, 1) := by decide +kernel
theorem dX12_monkLine_44 : decode cX12_monkLine 44 = .ok (.goto 4, 3) := by decide +kernel
theorem dX12_monkLine_47 : decode cX12_monkLine 47 = .ok (.iconst 0, 1) := by decide +kernel
theorem dX12_monkLine_48 : decode cX12_monkLine 48 = .ok (.istore_n 3, 1) := by decide +kernel
theorem dX12_monkLine_49 : decode cX12_monkLine 49 = .ok (.aload_n 0, 1) := by decide +kernel
theorem dX12_monkLine_50 : decode cX12_monkLine 50 = .ok (.getfield 25, 3) := by decide +kernel
theorem dX12_monkLine_53 : decode cX12_monkLine 53 = .ok (.iconst (-1), 1) := by decide +kernel
theorem dX12_monkLine_54 : decode cX12_monkLine 54 = .ok (.if_icmp .ne 15, 3) := by decide +kernel
theorem dX12_monkLine_57 : decode cX12_monkLine 57 = .ok (.iload_n 3, 1) := by decide +kernel
theorem dX12_monkLine_58 : decode cX12_monkLine 58 = .ok (.ifCond .ne 11, 3) := by decide +kernel
theorem dX12_monkLine_61 : decode cX12_monkLine 61 = .ok (.aload_n 0, 1) := by decide +kernel
theorem dX12_monkLine_62 : decode cX12_monkLine 62 = .ok (.aload_n 0, 1) := by decide +kernel
theorem dX12_monkLine_63 : decode cX12_monkLine 63 = .ok (.getfield 82, 3) := by decide +kernel
theorem dX12_monkLine_66 : decode cX12_monkLine 66 = .ok (.invokevirtual 108, 3) := by decide +kernel
theorem dX12_monkLine_69 : decode cX12_monkLine 69 = .ok (.iload_n 3, 1) := by decide +kernel
theorem dX12_monkLine_70 : decode cX12_monkLine 70 = .ok (.ifCond .eq 10, 3) := by decide +kernel
theorem dX12_monkLine_73 : decode cX12_monkLine 73 = .ok (.aload_n 0, 1) := by decide +kernel
theorem dX12_monkLine_74 : decode cX12_monkLine 74 = .ok (.invokevirtual 105, 3) := by decide +kernel
theorem dX12_monkLine_77 : decode cX12_monkLine 77 = .ok (.goto 7, 3) := by decide +kernel
theorem dX12_monkLine_80 : decode cX12_monkLine 80 = .ok (.aload_n 0, 1) := by decide +kernel
theorem dX12_monkLine_81 : decode cX12_monkLine 81 = .ok (.getfield 82, 3) := by decide +kernel
theorem dX12_monkLine_84 : decode cX12_monkLine 84 = .ok (.istore 4, 2) := by decide +kernel
theorem dX12_monkLine_86 : decode cX12_monkLine 86 = .ok (.iload_n 3, 1) := by decide +kernel
theorem dX12_monkLine_87 : decode cX12_monkLine 87 = .ok (.ifCond .eq 13, 3) := by decide +kernel
theorem dX12_monkLine_90 : decode cX12_monkLine 90 = .ok (.aload_n 0, 1) := by decide +kernel
theorem dX12_monkLine_91 : decode cX12_monkLine 91 = .ok (.iconst 0, 1) := by decide +kernel
theorem dX12_monkLine_92 : decode cX12_monkLine 92 = .ok (.bipush 11, 2) := by decide +kernel
theorem dX12_monkLine_94 : decode cX12_monkLine 94 = .ok (.invokevirtual 116, 3) := by decide +kernel
theorem dX12_monkLine_97 : decode cX12_monkLine 97 = .ok (.goto 4, 3) := by decide +kernel
theorem dX12_monkLine_100 : decode cX12_monkLine 100 = .ok (.iconst 0, 1) := by decide +kernel
theorem dX12_monkLine_101 : decode cX12_monkLine 101 = .ok (.istore 5, 2) := by decide +kernel
theorem dX12_monkLine_103 : decode cX12_monkLine 103 = .ok (.aload_n 0, 1) := by decide +kernel
theorem dX12_monkLine_104 : decode cX12_monkLine 104 = .ok (.getfield 25, 3) := by decide +kernel
theorem dX12_monkLine_107 : decode cX12_monkLine 107 = .ok (.iconst (-1), 1) := by decide +kernel
theorem dX12_monkLine_108 : decode cX12_monkLine 108 = .ok (.if_icmp .ne 18, 3) := by decide +kernel
theorem dX12_monkLine_111 : decode cX12_monkLine 111 = .ok (.aload_n 0, 1) := by decide +kernel
theorem dX12_monkLine_112 : decode cX12_monkLine 112 = .ok (.iload 5, 2) := by decide +kernel
theorem dX12_monkLine_114 : decode cX12_monkLine 114 = .ok (.invokevirtual 130, 3) := by decide +kernel
theorem dX12_monkLine_117 : decode cX12_monkLine 117 = .ok (.ifCond .eq 9, 3) := by decide +kernel
theorem dX12_monkLine_120 : decode cX12_monkLine 120 = .ok (.aload_n 0, 1) := by decide +kernel
theorem dX12_monkLine_121 : decode cX12_monkLine 121 = .ok (.iload 4, 2) := by decide +kernel
theorem dX12_monkLine_123 : decode cX12_monkLine 123 = .ok (.invokevirtual 108, 3) := by decide +kernel
theorem dX12_monkLine_126 : decode cX12_monkLine 126 = .ok (.aload_n 0, 1) := by decide +kernel
theorem dX12_monkLine_127 : decode cX12_monkLine 127 = .ok (.getfield 25, 3) := by decide +kernel
theorem dX12_monkLine_130 : decode cX12_monkLine 130 = .ok (.iconst (-1), 1) := by decide +kernel
theorem dX12_monkLine_131 : decode cX12_monkLine 131 = .ok (.if_icmp .ne 22, 3) := by decide +kernel
theorem dX12_monkLine_134 : decode cX12_monkLine 134 = .ok (.aload_n 0, 1) := by decide +kernel
theorem dX12_monkLine_135 : decode cX12_monkLine 135 = .ok (.ldc 133, 2) := by decide +kernel
theorem dX12_monkLine_137 : decode cX12_monkLine 137 = .ok (.invokevirtual 112, 3) := by decide +kernel
theorem dX12_monkLine_140 : decode cX12_monkLine 140 = .ok (.ifCond .eq 13, 3) := by decide +kernel
theorem dX12_monkLine_143 : decode cX12_monkLine 143 = .ok (.aload_n 0, 1) := by decide +kernel
theorem dX12_monkLine_144 : decode cX12_monkLine 144 = .ok (.iconst 0, 1) := by decide +kernel
theorem dX12_monkLine_145 : decode cX12_monkLine 145 = .ok (.bipush 8, 2) := by decide +kernel
theorem dX12_monkLine_147 : decode cX12_monkLine 147 = .ok (.invokevirtual 116, 3) := by decide +kernel
theorem dX12_monkLine_150 : decode cX12_monkLine 150 = .ok (.goto 4, 3) := by decide +kernel
theorem dX12_monkLine_153 : decode cX12_monkLine 153 = .ok (.iconst 2, 1) := by decide +kernel
theorem dX12_monkLine_154 : decode cX12_monkLine 154 = .ok (.istore 6, 2) := by decide +kernel
theorem dX12_monkLine_156 : decode cX12_monkLine 156 = .ok (.aload_n 0, 1) := by decide +kernel
theorem dX12_monkLine_157 : decode cX12_monkLine 157 = .ok (.getfield 25, 3) := by decide +kernel
theorem dX12_monkLine_160 : decode cX12_monkLine 160 = .ok (.iconst (-1), 1) := by decide +kernel
theorem dX12_monkLine_161 : decode cX12_monkLine 161 = .ok (.if_icmp .ne 19, 3) := by decide +kernel
theorem dX12_monkLine_164 : decode cX12_monkLine 164 = .ok (.aload_n 0, 1) := by decide +kernel
theorem dX12_monkLine_165 : decode cX12_monkLine 165 = .ok (.ldc 135, 2) := by decide +kernel
theorem dX12_monkLine_167 : decode cX12_monkLine 167 = .ok (.invokevirtual 112, 3) := by decide +kernel
theorem dX12_monkLine_170 : decode cX12_monkLine 170 = .ok (.ifCond .eq 10, 3) := by decide +kernel
theorem dX12_monkLine_173 : decode cX12_monkLine 173 = .ok (.aload_n 0, 1) := by decide +kernel
theorem dX12_monkLine_174 : decode cX12_monkLine 174 = .ok (.invokevirtual 137, 3) := by decide +kernel
theorem dX12_monkLine_177 : decode cX12_monkLine 177 = .ok (.goto 4, 3) := by decide +kernel
theorem dX12_monkLine_180 : decode cX12_monkLine 180 = .ok (.iconst 0, 1) := by decide +kernel
theorem dX12_monkLine_181 : decode cX12_monkLine 181 = .ok (.istore 7, 2) := by decide +kernel
theorem dX12_monkLine_183 : decode cX12_monkLine 183 = .ok (.aload_n 0, 1) := by decide +kernel
theorem dX12_monkLine_184 : decode cX12_monkLine 184 = .ok (.getfield 25, 3) := by decide +kernel
theorem dX12_monkLine_187 : decode cX12_monkLine 187 = .ok (.iconst (-1), 1) := by decide +kernel
theorem dX12_monkLine_188 : decode cX12_monkLine 188 = .ok (.if_icmp .eq 4, 3) := by decide +kernel
theorem dX12_monkLine_191 : decode cX12_monkLine 191 = .ok (.return_, 1) := by decide +kernel
theorem dX12_monkLine_192 : decode cX12_monkLine 192 = .ok (.aload_n 0, 1) := by decide +kernel
theorem dX12_monkLine_193 : decode cX12_monkLine 193 = .ok (.getfield 7, 3) := by decide +kernel
theorem dX12_monkLine_196 : decode cX12_monkLine 196 = .ok (.iconst 3, 1) := by decide +kernel
theorem dX12_monkLine_197 : decode cX12_monkLine 197 = .ok (.iaload, 1) := by decide +kernel
theorem dX12_monkLine_198 : decode cX12_monkLine 198 = .ok (.istore 8, 2) := by decide +kernel
theorem dX12_monkLine_200 : decode cX12_monkLine 200 = .ok (.iconst 0, 1) := by decide +kernel
theorem dX12_monkLine_201 : decode cX12_monkLine 201 = .ok (.istore 9, 2) := by decide +kernel
theorem dX12_monkLine_203 : decode cX12_monkLine 203 = .ok (.iload 9, 2) := by decide +kernel
theorem dX12_monkLine_205 : decode cX12_monkLine 205 = .ok (.bipush 8, 2) := by decide +kernel
theorem dX12_monkLine_207 : decode cX12_monkLine 207 = .ok (.if_icmp .ge 18, 3) := by decide +kernel
theorem dX12_monkLine_210 : decode cX12_monkLine 210 = .ok (.aload_n 0, 1) := by decide +kernel
theorem dX12_monkLine_211 : decode cX12_monkLine 211 = .ok (.iload 8, 2) := by decide +kernel
theorem dX12_monkLine_213 : decode cX12_monkLine 213 = .ok (.iload 9, 2) := by decide +kernel
theorem dX12_monkLine_215 : decode cX12_monkLine 215 = .ok (.iconst 0, 1) := by decide +kernel
theorem dX12_monkLine_216 : decode cX12_monkLine 216 = .ok (.invokevirtual 140, 3) := by decide +kernel
theorem dX12_monkLine_219 : decode cX12_monkLine 219 = .ok (.iinc 9 1, 3) := by decide +kernel
theorem dX12_monkLine_222 : decode cX12_monkLine 222 = .ok (.goto (-19), 3) := by decide +kernel
theorem dX12_monkLine_225 : decode cX12_monkLine 225 = .ok (.aload_n 0, 1) := by decide +kernel
theorem dX12_monkLine_226 : decode cX12_monkLine 226 = .ok (.iload 8, 2) := by decide +kernel
theorem dX12_monkLine_228 : decode cX12_monkLine 228 = .ok (.iconst 0, 1) := by decide +kernel
theorem dX12_monkLine_229 : decode cX12_monkLine 229 = .ok (.iload_n 2, 1) := by decide +kernel
theorem dX12_monkLine_230 : decode cX12_monkLine 230 = .ok (.invokevirtual 140, 3) := by decide +kernel
theorem dX12_monkLine_233 : decode cX12_monkLine 233 = .ok (.aload_n 0, 1) := by decide +kernel
theorem dX12_monkLine_234 : decode cX12_monkLine 234 = .ok (.iload 8, 2) := by decide +kernel
theorem dX12_monkLine_236 : decode cX12_monkLine 236 = .ok (.iconst 2, 1) := by decide +kernel
theorem dX12_monkLine_237 : decode cX12_monkLine 237 = .ok (.iload 5, 2) := by decide +kernel
theorem dX12_monkLine_239 : decode cX12_monkLine 239 = .ok (.invokevirtual 140, 3) := by decide +kernel
theorem dX12_monkLine_242 : decode cX12_monkLine 242 = .ok (.aload_n 0, 1) := by decide +kernel
theorem dX12_monkLine_243 : decode cX12_monkLine 243 = .ok (.iload 8, 2) := by decide +kernel
theorem dX12_monkLine_245 : decode cX12_monkLine 245 = .ok (.iconst 1, 1) := by decide +kernel
theorem dX12_monkLine_246 : decode cX12_monkLine 246 = .ok (.iload 6, 2) := by decide +kernel
theorem dX12_monkLine_248 : decode cX12_monkLine 248 = .ok (.invokevirtual 140, 3) := by decide +kernel
theorem dX12_monkLine_251 : decode cX12_monkLine 251 = .ok (.aload_n 0, 1) := by decide +kernel
theorem dX12_monkLine_252 : decode cX12_monkLine 252 = .ok (.iload 8, 2) := by decide +kernel
theorem dX12_monkLine_254 : decode cX12_monkLine 254 = .ok (.iconst 3, 1) := by decide +kernel
theorem dX12_monkLine_255 : decode cX12_monkLine 255 = .ok (.iload 7, 2) := by decide +kernel
theorem dX12_monkLine_257 : decode cX12_monkLine 257 = .ok (.invokevirtual 140, 3) := by decide +kernel
theorem dX12_monkLine_260 : decode cX12_monkLine 260 = .ok (.aload_n 0, 1) := by decide +kernel
theorem dX12_monkLine_261 : decode cX12_monkLine 261 = .ok (.getfield 7, 3) := by decide +kernel
theorem dX12_monkLine_264 : decode cX12_monkLine 264 = .ok (.iconst 3, 1) := by decide +kernel
theorem dX12_monkLine_265 : decode cX12_monkLine 265 = .ok (.dup2, 1) := by decide +kernel
theorem dX12_monkLine_266 : decode cX12_monkLine 266 = .ok (.iaload, 1) := by decide +kernel
theorem dX12_monkLine_267 : decode cX12_monkLine 267 = .ok (.iconst 1, 1) := by decide +kernel
theorem dX12_monkLine_268 : decode cX12_monkLine 268 = .ok (.iadd, 1) := by decide +kernel
theorem dX12_monkLine_269 : decode cX12_monkLine 269 = .ok (.iastore, 1) := by decide +kernel
theorem dX12_monkLine_270 : decode cX12_monkLine 270 = .ok (.return_, 1) := by decide +kernel
theorem dX12_seasonName_0 : decode cX12_seasonName 0 = .ok (.aload_n 0, 1) := by decide +kernel
theorem dX12_seasonName_1 : decode cX12_seasonName 1 = .ok (.getfield 25, 3) := by decide +kernel
theorem dX12_seasonName_4 : decode cX12_seasonName 4 = .ok (.iconst (-1), 1) := by decide +kernel
theorem dX12_seasonName_5 : decode cX12_seasonName 5 = .ok (.if_icmp .eq 5, 3) := by decide +kernel
theorem dX12_seasonName_8 : decode cX12_seasonName 8 = .ok (.iconst 0, 1) := by decide +kernel
theorem dX12_seasonName_9 : decode cX12_seasonName 9 = .ok (.ireturn, 1) := by decide +kernel
theorem dX12_seasonName_10 : decode cX12_seasonName 10 = .ok (.aload_n 0, 1) := by decide +kernel
theorem dX12_seasonName_11 : decode cX12_seasonName 11 = .ok (.ldc 144, 2) := by decide +kernel
theorem dX12_seasonName_13 : decode cX12_seasonName 13 = .ok (.invokevirtual 112, 3) := by decide +kernel
theorem dX12_seasonName_16 : decode cX12_seasonName 16 = .ok (.ifCond .eq 7, 3) := by decide +kernel
theorem dX12_seasonName_19 : decode cX12_seasonName 19 = .ok (.iconst 0, 1) := by decide +kernel
theorem dX12_seasonName_20 : decode cX12_seasonName 20 = .ok (.goto 60, 3) := by decide +kernel
theorem dX12_seasonName_23 : decode cX12_seasonName 23 = .ok (.aload_n 0, 1) := by decide +kernel
theorem dX12_seasonName_24 : decode cX12_seasonName 24 = .ok (.ldc 146, 2) := by decide +kernel
theorem dX12_seasonName_26 : decode cX12_seasonName 26 = .ok (.invokevirtual 112, 3) := by decide +kernel
theorem dX12_seasonName_29 : decode cX12_seasonName 29 = .ok (.ifCond .eq 7, 3) := by decide +kernel
theorem dX12_seasonName_32 : decode cX12_seasonName 32 = .ok (.iconst 1, 1) := by decide +kernel
theorem dX12_seasonName_33 : decode cX12_seasonName 33 = .ok (.goto 47, 3) := by decide +kernel
theorem dX12_seasonName_36 : decode cX12_seasonName 36 = .ok (.aload_n 0, 1) := by decide +kernel
theorem dX12_seasonName_37 : decode cX12_seasonName 37 = .ok (.ldc 148, 2) := by decide +kernel
theorem dX12_seasonName_39 : decode cX12_seasonName 39 = .ok (.invokevirtual 112, 3) := by decide +kernel
theorem dX12_seasonName_42 : decode cX12_seasonName 42 = .ok (.ifCond .eq 7, 3) := by decide +kernel
theorem dX12_seasonName_45 : decode cX12_seasonName 45 = .ok (.iconst 2, 1) := by decide +kernel
theorem dX12_seasonName_46 : decode cX12_seasonName 46 = .ok (.goto 34, 3) := by decide +kernel
theorem dX12_seasonName_49 : decode cX12_seasonName 49 = .ok (.aload_n 0, 1) := by decide +kernel
theorem dX12_seasonName_50 : decode cX12_seasonName 50 = .ok (.ldc 150, 2) := by decide +kernel
theorem dX12_seasonName_52 : decode cX12_seasonName 52 = .ok (.invokevirtual 112, 3) := by decide +kernel
theorem dX12_seasonName_55 : decode cX12_seasonName 55 = .ok (.ifCond .eq 7, 3) := by decide +kernel
theorem dX12_seasonName_58 : decode cX12_seasonName 58 = .ok (.iconst 3, 1) := by decide +kernel
theorem dX12_seasonName_59 : decode cX12_seasonName 59 = .ok (.goto 21, 3) := by decide +kernel
theorem dX12_seasonName_62 : decode cX12_seasonName 62 = .ok (.iload_n 1, 1) := by decide +kernel
theorem dX12_seasonName_63 : decode cX12_seasonName 63 = .ok (.ifCond .eq 16, 3) := by decide +kernel
theorem dX12_seasonName_66 : decode cX12_seasonName 66 = .ok (.aload_n 0, 1) := by decide +kernel
theorem dX12_seasonName_67 : decode cX12_seasonName 67 = .ok (.ldc 152, 2) := by decide +kernel
theorem dX12_seasonName_69 : decode cX12_seasonName 69 = .ok (.invokevirtual 112, 3) := by decide +kernel
theorem dX12_seasonName_72 : decode cX12_seasonName 72 = .ok (.ifCond .eq 7, 3) := by decide +kernel
theorem dX12_seasonName_75 : decode cX12_seasonName 75 = .ok (.iconst 4, 1) := by decide +kernel
theorem dX12_seasonName_76 : decode cX12_seasonName 76 = .ok (.goto 4, 3) := by decide +kernel
theorem dX12_seasonName_79 : decode cX12_seasonName 79 = .ok (.iconst (-1), 1) := by decide +kernel
theorem dX12_seasonName_80 : decode cX12_seasonName 80 = .ok (.istore_n 2, 1) := by decide +kernel
theorem dX12_seasonName_81 : decode cX12_seasonName 81 = .ok (.iload_n 2, 1) := by decide +kernel
theorem dX12_seasonName_82 : decode cX12_seasonName 82 = .ok (.iconst (-1), 1) := by decide +kernel
theorem dX12_seasonName_83 : decode cX12_seasonName 83 = .ok (.if_icmp .ne 11, 3) := by decide +kernel
theorem dX12_seasonName_86 : decode cX12_seasonName 86 = .ok (.aload_n 0, 1) := by decide +kernel
theorem dX12_seasonName_87 : decode cX12_seasonName 87 = .ok (.aload_n 0, 1) := by decide +kernel
theorem dX12_seasonName_88 : decode cX12_seasonName 88 = .ok (.invokevirtual 105, 3) := by decide +kernel
theorem dX12_seasonName_91 : decode cX12_seasonName 91 = .ok (.invokevirtual 108, 3) := by decide +kernel
theorem dX12_seasonName_94 : decode cX12_seasonName 94 = .ok (.iload_n 2, 1) := by decide +kernel
theorem dX12_seasonName_95 : decode cX12_seasonName 95 = .ok (.iconst (-1), 1) := by decide +kernel
theorem dX12_seasonName_96 : decode cX12_seasonName 96 = .ok (.if_icmp .ne 7, 3) := by decide +kernel
theorem dX12_seasonName_99 : decode cX12_seasonName 99 = .ok (.iconst 0, 1) := by decide +kernel
theorem dX12_seasonName_100 : decode cX12_seasonName 100 = .ok (.goto 4, 3) := by decide +kernel
theorem dX12_seasonName_103 : decode cX12_seasonName 103 = .ok (.iload_n 2, 1) := by decide +kernel
theorem dX12_seasonName_104 : decode cX12_seasonName 104 = .ok (.ireturn, 1) := by decide +kernel
theorem dX12_says_0 : decode cX12_says 0 = .ok (.aload_n 0, 1) := by decide +kernel
theorem dX12_says_1 : decode cX12_says 1 = .ok (.iload_n 2, 1) := by decide +kernel
theorem dX12_says_2 : decode cX12_says 2 = .ok (.iload_n 3, 1) := by decide +kernel
theorem dX12_says_3 : decode cX12_says 3 = .ok (.invokevirtual 116, 3) := by decide +kernel
theorem dX12_says_6 : decode cX12_says 6 = .ok (.istore 4, 2) := by decide +kernel
theorem dX12_says_8 : decode cX12_says 8 = .ok (.aload_n 0, 1) := by decide +kernel
theorem dX12_says_9 : decode cX12_says 9 = .ok (.getfield 25, 3) := by decide +kernel
theorem dX12_says_12 : decode cX12_says 12 = .ok (.iconst (-1), 1) := by decide +kernel
theorem dX12_says_13 : decode cX12_says 13 = .ok (.if_icmp .ne 11, 3) := by decide +kernel
theorem dX12_says_16 : decode cX12_says 16 = .ok (.aload_n 0, 1) := by decide +kernel
theorem dX12_says_17 : decode cX12_says 17 = .ok (.getfield 7, 3) := by decide +kernel
theorem dX12_says_20 : decode cX12_says 20 = .ok (.iload_n 1, 1) := by decide +kernel
theorem dX12_says_21 : decode cX12_says 21 = .ok (.iload 4, 2) := by decide +kernel
theorem dX12_says_23 : decode cX12_says 23 = .ok (.iastore, 1) := by decide +kernel
theorem dX12_says_24 : decode cX12_says 24 = .ok (.return_, 1) := by decide +kernel
theorem dX12_cloisterLine_0 : decode cX12_cloisterLine 0 = .ok (.aload_n 0, 1) := by decide +kernel
theorem dX12_cloisterLine_1 : decode cX12_cloisterLine 1 = .ok (.invokevirtual 105, 3) := by decide +kernel
theorem dX12_cloisterLine_4 : decode cX12_cloisterLine 4 = .ok (.istore_n 1, 1) := by decide +kernel
theorem dX12_cloisterLine_5 : decode cX12_cloisterLine 5 = .ok (.aload_n 0, 1) := by decide +kernel
theorem dX12_cloisterLine_6 : decode cX12_cloisterLine 6 = .ok (.ldc 154, 2) := by decide +kernel
theorem dX12_cloisterLine_8 : decode cX12_cloisterLine 8 = .ok (.invokevirtual 112, 3) := by decide +kernel
theorem dX12_cloisterLine_11 : decode cX12_cloisterLine 11 = .ok (.ifCond .eq 11, 3) := by decide +kernel
theorem dX12_cloisterLine_14 : decode cX12_cloisterLine 14 = .ok (.aload_n 0, 1) := by decide +kernel
theorem dX12_cloisterLine_15 : decode cX12_cloisterLine 15 = .ok (.iload_n 1, 1) := by decide +kernel
theorem dX12_cloisterLine_16 : decode cX12_cloisterLine 16 = .ok (.invokevirtual 156, 3) := by decide +kernel
theorem dX12_cloisterLine_19 : decode cX12_cloisterLine 19 = .ok (.goto 179, 3) := by decide +kernel
theorem dX12_cloisterLine_22 : decode cX12_cloisterLine 22 = .ok (.aload_n 0, 1) := by decide +kernel
theorem dX12_cloisterLine_23 : decode cX12_cloisterLine 23 = .ok (.ldc 159, 2) := by decide +kernel
theorem dX12_cloisterLine_25 : decode cX12_cloisterLine 25 = .ok (.invokevirtual 112, 3) := by decide +kernel
theorem dX12_cloisterLine_28 : decode cX12_cloisterLine 28 = .ok (.ifCond .eq 15, 3) := by decide +kernel
theorem dX12_cloisterLine_31 : decode cX12_cloisterLine 31 = .ok (.aload_n 0, 1) := by decide +kernel
theorem dX12_cloisterLine_32 : decode cX12_cloisterLine 32 = .ok (.bipush 6, 2) := by decide +kernel
theorem dX12_cloisterLine_34 : decode cX12_cloisterLine 34 = .ok (.iconst 0, 1) := by decide +kernel
theorem dX12_cloisterLine_35 : decode cX12_cloisterLine 35 = .ok (.bipush 15, 2) := by decide +kernel
theorem dX12_cloisterLine_37 : decode cX12_cloisterLine 37 = .ok (.invokevirtual 161, 3) := by decide +kernel
theorem dX12_cloisterLine_40 : decode cX12_cloisterLine 40 = .ok (.goto 158, 3) := by decide +kernel
theorem dX12_cloisterLine_43 : decode cX12_cloisterLine 43 = .ok (.aload_n 0, 1) := by decide +kernel
theorem dX12_cloisterLine_44 : decode cX12_cloisterLine 44 = .ok (.ldc 164, 2) := by decide +kernel
theorem dX12_cloisterLine_46 : decode cX12_cloisterLine 46 = .ok (.invokevirtual 112, 3) := by decide +kernel
theorem dX12_cloisterLine_49 : decode cX12_cloisterLine 49 = .ok (.ifCond .eq 28, 3) := by decide +kernel
theorem dX12_cloisterLine_52 : decode cX12_cloisterLine 52 = .ok (.aload_n 0, 1) := by decide +kernel
theorem dX12_cloisterLine_53 : decode cX12_cloisterLine 53 = .ok (.iconst 1, 1) := by decide +kernel
theorem dX12_cloisterLine_54 : decode cX12_cloisterLine 54 = .ok (.invokevirtual 166, 3) := by decide +kernel
theorem dX12_cloisterLine_57 : decode cX12_cloisterLine 57 = .ok (.istore_n 2, 1) := by decide +kernel
theorem dX12_cloisterLine_58 : decode cX12_cloisterLine 58 = .ok (.aload_n 0, 1) := by decide +kernel
theorem dX12_cloisterLine_59 : decode cX12_cloisterLine 59 = .ok (.getfield 25, 3) := by decide +kernel
theorem dX12_cloisterLine_62 : decode cX12_cloisterLine 62 = .ok (.iconst (-1), 1) := by decide +kernel
theorem dX12_cloisterLine_63 : decode cX12_cloisterLine 63 = .ok (.if_icmp .ne 11, 3) := by decide +kernel
theorem dX12_cloisterLine_66 : decode cX12_cloisterLine 66 = .ok (.aload_n 0, 1) := by decide +kernel
theorem dX12_cloisterLine_67 : decode cX12_cloisterLine 67 = .ok (.getfield 7, 3) := by decide +kernel
theorem dX12_cloisterLine_70 : decode cX12_cloisterLine 70 = .ok (.bipush 7, 2) := by decide +kernel
theorem dX12_cloisterLine_72 : decode cX12_cloisterLine 72 = .ok (.iload_n 2, 1) := by decide +kernel
theorem dX12_cloisterLine_73 : decode cX12_cloisterLine 73 = .ok (.iastore, 1) := by decide +kernel
theorem dX12_cloisterLine_74 : decode cX12_cloisterLine 74 = .ok (.goto 124, 3) := by decide +kernel
theorem dX12_cloisterLine_77 : decode cX12_cloisterLine 77 = .ok (.aload_n 0, 1) := by decide +kernel
theorem dX12_cloisterLine_78 : decode cX12_cloisterLine 78 = .ok (.ldc 170, 2) := by decide +kernel
theorem dX12_cloisterLine_80 : decode cX12_cloisterLine 80 = .ok (.invokevirtual 112, 3) := by decide +kernel
theorem dX12_cloisterLine_83 : decode cX12_cloisterLine 83 = .ok (.ifCond .eq 15, 3) := by decide +kernel
theorem dX12_cloisterLine_86 : decode cX12_cloisterLine 86 = .ok (.aload_n 0, 1) := by decide +kernel
theorem dX12_cloisterLine_87 : decode cX12_cloisterLine 87 = .ok (.bipush 8, 2) := by decide +kernel
theorem dX12_cloisterLine_89 : decode cX12_cloisterLine 89 = .ok (.iconst 0, 1) := by decide +kernel
theorem dX12_cloisterLine_90 : decode cX12_cloisterLine 90 = .ok (.bipush 100, 2) := by decide +kernel
theorem dX12_cloisterLine_92 : decode cX12_cloisterLine 92 = .ok (.invokevirtual 161, 3) := by decide +kernel
theorem dX12_cloisterLine_95 : decode cX12_cloisterLine 95 = .ok (.goto 103, 3) := by decide +kernel
theorem dX12_cloisterLine_98 : decode cX12_cloisterLine 98 = .ok (.aload_n 0, 1) := by decide +kernel
theorem dX12_cloisterLine_99 : decode cX12_cloisterLine 99 = .ok (.ldc 172, 2) := by decide +kernel
theorem dX12_cloisterLine_101 : decode cX12_cloisterLine 101 = .ok (.invokevirtual 112, 3) := by decide +kernel
theorem dX12_cloisterLine_104 : decode cX12_cloisterLine 104 = .ok (.ifCond .eq 15, 3) := by decide +kernel
theorem dX12_cloisterLine_107 : decode cX12_cloisterLine 107 = .ok (.aload_n 0, 1) := by decide +kernel
theorem dX12_cloisterLine_108 : decode cX12_cloisterLine 108 = .ok (.bipush 9, 2) := by decide +kernel
theorem dX12_cloisterLine_110 : decode cX12_cloisterLine 110 = .ok (.iconst 0, 1) := by decide +kernel
theorem dX12_cloisterLine_111 : decode cX12_cloisterLine 111 = .ok (.bipush 20, 2) := by decide +kernel
theorem dX12_cloisterLine_113 : decode cX12_cloisterLine 113 = .ok (.invokevirtual 161, 3) := by decide +kernel
theorem dX12_cloisterLine_116 : decode cX12_cloisterLine 116 = .ok (.goto 82, 3) := by decide +kernel
theorem dX12_cloisterLine_119 : decode cX12_cloisterLine 119 = .ok (.aload_n 0, 1) := by decide +kernel
theorem dX12_cloisterLine_120 : decode cX12_cloisterLine 120 = .ok (.ldc 174, 2) := by decide +kernel
theorem dX12_cloisterLine_122 : decode cX12_cloisterLine 122 = .ok (.invokevirtual 112, 3) := by decide +kernel
theorem dX12_cloisterLine_125 : decode cX12_cloisterLine 125 = .ok (.ifCond .eq 24, 3) := by decide +kernel
theorem dX12_cloisterLine_128 : decode cX12_cloisterLine 128 = .ok (.aload_n 0, 1) := by decide +kernel
theorem dX12_cloisterLine_129 : decode cX12_cloisterLine 129 = .ok (.iconst 0, 1) := by decide +kernel
theorem dX12_cloisterLine_130 : decode cX12_cloisterLine 130 = .ok (.invokevirtual 166, 3) := by decide +kernel
theorem dX12_cloisterLine_133 : decode cX12_cloisterLine 133 = .ok (.istore_n 2, 1) := by decide +kernel
theorem dX12_cloisterLine_134 : decode cX12_cloisterLine 134 = .ok (.aload_n 0, 1) := by decide +kernel
theorem dX12_cloisterLine_135 : decode cX12_cloisterLine 135 = .ok (.bipush 12, 2) := by decide +kernel
theorem dX12_cloisterLine_137 : decode cX12_cloisterLine 137 = .ok (.iload_n 2, 1) := by decide +kernel
theorem dX12_cloisterLine_138 : decode cX12_cloisterLine 138 = .ok (.iadd, 1) := by decide +kernel
theorem dX12_cloisterLine_139 : decode cX12_cloisterLine 139 = .ok (.iconst 0, 1) := by decide +kernel
theorem dX12_cloisterLine_140 : decode cX12_cloisterLine 140 = .ok (.sipush 999, 3) := by decide +kernel
theorem dX12_cloisterLine_143 : decode cX12_cloisterLine 143 = .ok (.invokevirtual 161, 3) := by decide +kernel
theorem dX12_cloisterLine_146 : decode cX12_cloisterLine 146 = .ok (.goto 52, 3) := by decide +kernel
theorem dX12_cloisterLine_149 : decode cX12_cloisterLine 149 = .ok (.aload_n 0, 1) := by decide +kernel
theorem dX12_cloisterLine_150 : decode cX12_cloisterLine 150 = .ok (.ldc 176, 2) := by decide +kernel
theorem dX12_cloisterLine_152 : decode cX12_cloisterLine 152 = .ok (.invokevirtual 112, 3) := by decide +kernel
theorem dX12_cloisterLine_155 : decode cX12_cloisterLine 155 = .ok (.ifCond .eq 14, 3) := by decide +kernel
theorem dX12_cloisterLine_158 : decode cX12_cloisterLine 158 = .ok (.aload_n 0, 1) := by decide +kernel
theorem dX12_cloisterLine_159 : decode cX12_cloisterLine 159 = .ok (.iconst 4, 1) := by decide +kernel
theorem dX12_cloisterLine_160 : decode cX12_cloisterLine 160 = .ok (.iconst 0, 1) := by decide +kernel
theorem dX12_cloisterLine_161 : decode cX12_cloisterLine 161 = .ok (.bipush 23, 2) := by decide +kernel
theorem dX12_cloisterLine_163 : decode cX12_cloisterLine 163 = .ok (.invokevirtual 161, 3) := by decide +kernel
theorem dX12_cloisterLine_166 : decode cX12_cloisterLine 166 = .ok (.goto 32, 3) := by decide +kernel
theorem dX12_cloisterLine_169 : decode cX12_cloisterLine 169 = .ok (.aload_n 0, 1) := by decide +kernel
theorem dX12_cloisterLine_170 : decode cX12_cloisterLine 170 = .ok (.ldc 178, 2) := by decide +kernel
theorem dX12_cloisterLine_172 : decode cX12_cloisterLine 172 = .ok (.invokevirtual 112, 3) := by decide +kernel
theorem dX12_cloisterLine_175 : decode cX12_cloisterLine 175 = .ok (.ifCond .eq 15, 3) := by decide +kernel
theorem dX12_cloisterLine_178 : decode cX12_cloisterLine 178 = .ok (.aload_n 0, 1) := by decide +kernel
theorem dX12_cloisterLine_179 : decode cX12_cloisterLine 179 = .ok (.iconst 5, 1) := by decide +kernel
theorem dX12_cloisterLine_180 : decode cX12_cloisterLine 180 = .ok (.iconst 0, 1) := by decide +kernel
theorem dX12_cloisterLine_181 : decode cX12_cloisterLine 181 = .ok (.sipush 999, 3) := by decide +kernel
theorem dX12_cloisterLine_184 : decode cX12_cloisterLine 184 = .ok (.invokevirtual 161, 3) := by decide +kernel
theorem dX12_cloisterLine_187 : decode cX12_cloisterLine 187 = .ok (.goto 11, 3) := by decide +kernel
theorem dX12_cloisterLine_190 : decode cX12_cloisterLine 190 = .ok (.aload_n 0, 1) := by decide +kernel
theorem dX12_cloisterLine_191 : decode cX12_cloisterLine 191 = .ok (.aload_n 0, 1) := by decide +kernel
theorem dX12_cloisterLine_192 : decode cX12_cloisterLine 192 = .ok (.getfield 82, 3) := by decide +kernel
theorem dX12_cloisterLine_195 : decode cX12_cloisterLine 195 = .ok (.invokevirtual 108, 3) := by decide +kernel
theorem dX12_cloisterLine_198 : decode cX12_cloisterLine 198 = .ok (.return_, 1) := by decide +kernel
theorem dX12_begins_0 : decode cX12_begins 0 = .ok (.aload_n 0, 1) := by decide +kernel
theorem dX12_begins_1 : decode cX12_begins 1 = .ok (.iconst (-1), 1) := by decide +kernel
theorem dX12_begins_2 : decode cX12_begins 2 = .ok (.putfield 25, 3) := by decide +kernel
theorem dX12_begins_5 : decode cX12_begins 5 = .ok (.aload_n 0, 1) := by decide +kernel
theorem dX12_begins_6 : decode cX12_begins 6 = .ok (.iconst (-1), 1) := by decide +kernel
theorem dX12_begins_7 : decode cX12_begins 7 = .ok (.putfield 79, 3) := by decide +kernel
theorem dX12_begins_10 : decode cX12_begins 10 = .ok (.aload_n 0, 1) := by decide +kernel
theorem dX12_begins_11 : decode cX12_begins 11 = .ok (.aload_n 0, 1) := by decide +kernel
theorem dX12_begins_12 : decode cX12_begins 12 = .ok (.getfield 76, 3) := by decide +kernel
theorem dX12_begins_15 : decode cX12_begins 15 = .ok (.putfield 85, 3) := by decide +kernel
theorem dX12_begins_18 : decode cX12_begins 18 = .ok (.aload_n 0, 1) := by decide +kernel
theorem dX12_begins_19 : decode cX12_begins 19 = .ok (.iconst 0, 1) := by decide +kernel
theorem dX12_begins_20 : decode cX12_begins 20 = .ok (.putfield 76, 3) := by decide +kernel
theorem dX12_begins_23 : decode cX12_begins 23 = .ok (.aload_n 0, 1) := by decide +kernel
theorem dX12_begins_24 : decode cX12_begins 24 = .ok (.iconst 0, 1) := by decide +kernel
theorem dX12_begins_25 : decode cX12_begins 25 = .ok (.putfield 82, 3) := by decide +kernel
theorem dX12_begins_28 : decode cX12_begins 28 = .ok (.aload_n 0, 1) := by decide +kernel
theorem dX12_begins_29 : decode cX12_begins 29 = .ok (.iconst 0, 1) := by decide +kernel
theorem dX12_begins_30 : decode cX12_begins 30 = .ok (.putfield 180, 3) := by decide +kernel
theorem dX12_begins_33 : decode cX12_begins 33 = .ok (.return_, 1) := by decide +kernel
theorem dX12_read_0 : decode cX12_read 0 = .ok (.aload_n 0, 1) := by decide +kernel
theorem dX12_read_1 : decode cX12_read 1 = .ok (.invokevirtual 92, 3) := by decide +kernel
theorem dX12_read_4 : decode cX12_read 4 = .ok (.aload_n 0, 1) := by decide +kernel
theorem dX12_read_5 : decode cX12_read 5 = .ok (.getfield 82, 3) := by decide +kernel
theorem dX12_read_8 : decode cX12_read 8 = .ok (.aload_n 0, 1) := by decide +kernel
theorem dX12_read_9 : decode cX12_read 9 = .ok (.getfield 85, 3) := by decide +kernel
theorem dX12_read_12 : decode cX12_read 12 = .ok (.if_icmp .ge 7, 3) := by decide +kernel
theorem dX12_read_15 : decode cX12_read 15 = .ok (.iconst 1, 1) := by decide +kernel
theorem dX12_read_16 : decode cX12_read 16 = .ok (.goto 4, 3) := by decide +kernel
theorem dX12_read_19 : decode cX12_read 19 = .ok (.iconst 0, 1) := by decide +kernel
theorem dX12_read_20 : decode cX12_read 20 = .ok (.istore_n 2, 1) := by decide +kernel
theorem dX12_read_21 : decode cX12_read 21 = .ok (.iconst 0, 1) := by decide +kernel
theorem dX12_read_22 : decode cX12_read 22 = .ok (.istore_n 3, 1) := by decide +kernel
theorem dX12_read_23 : decode cX12_read 23 = .ok (.iload_n 2, 1) := by decide +kernel
theorem dX12_read_24 : decode cX12_read 24 = .ok (.ifCond .eq 120, 3) := by decide +kernel
theorem dX12_read_27 : decode cX12_read 27 = .ok (.aload_n 0, 1) := by decide +kernel
theorem dX12_read_28 : decode cX12_read 28 = .ok (.getfield 25, 3) := by decide +kernel
theorem dX12_read_31 : decode cX12_read 31 = .ok (.iconst (-1), 1) := by decide +kernel
theorem dX12_read_32 : decode cX12_read 32 = .ok (.if_icmp .ne 112, 3) := by decide +kernel
theorem dX12_read_35 : decode cX12_read 35 = .ok (.aload_n 0, 1) := by decide +kernel
theorem dX12_read_36 : decode cX12_read 36 = .ok (.invokevirtual 92, 3) := by decide +kernel
theorem dX12_read_39 : decode cX12_read 39 = .ok (.iload_n 3, 1) := by decide +kernel
theorem dX12_read_40 : decode cX12_read 40 = .ok (.iload_n 1, 1) := by decide +kernel
theorem dX12_read_41 : decode cX12_read 41 = .ok (.ifCond .eq 8, 3) := by decide +kernel
theorem dX12_read_44 : decode cX12_read 44 = .ok (.bipush 12, 2) := by decide +kernel
theorem dX12_read_46 : decode cX12_read 46 = .ok (.goto 5, 3) := by decide +kernel
theorem dX12_read_49 : decode cX12_read 49 = .ok (.bipush 14, 2) := by decide +kernel
theorem dX12_read_51 : decode cX12_read 51 = .ok (.if_icmp .ne 14, 3) := by decide +kernel
theorem dX12_read_54 : decode cX12_read 54 = .ok (.aload_n 0, 1) := by decide +kernel
theorem dX12_read_55 : decode cX12_read 55 = .ok (.aload_n 0, 1) := by decide +kernel
theorem dX12_read_56 : decode cX12_read 56 = .ok (.getfield 82, 3) := by decide +kernel
theorem dX12_read_59 : decode cX12_read 59 = .ok (.invokevirtual 108, 3) := by decide +kernel
theorem dX12_read_62 : decode cX12_read 62 = .ok (.goto 18, 3) := by decide +kernel
theorem dX12_read_65 : decode cX12_read 65 = .ok (.iload_n 1, 1) := by decide +kernel
theorem dX12_read_66 : decode cX12_read 66 = .ok (.ifCond .eq 10, 3) := by decide +kernel
theorem dX12_read_69 : decode cX12_read 69 = .ok (.aload_n 0, 1) := by decide +kernel
theorem dX12_read_70 : decode cX12_read 70 = .ok (.invokevirtual 183, 3) := by decide +kernel
theorem dX12_read_73 : decode cX12_read 73 = .ok (.goto 7, 3) := by decide +kernel
theorem dX12_read_76 : decode cX12_read 76 = .ok (.aload_n 0, 1) := by decide +kernel
theorem dX12_read_77 : decode cX12_read 77 = .ok (.invokevirtual 186, 3) := by decide +kernel
theorem dX12_read_80 : decode cX12_read 80 = .ok (.iinc 3 1, 3) := by decide +kernel
theorem dX12_read_83 : decode cX12_read 83 = .ok (.aload_n 0, 1) := by decide +kernel
theorem dX12_read_84 : decode cX12_read 84 = .ok (.invokevirtual 92, 3) := by decide +kernel
theorem dX12_read_87 : decode cX12_read 87 = .ok (.aload_n 0, 1) := by decide +kernel
theorem dX12_read_88 : decode cX12_read 88 = .ok (.getfield 25, 3) := by decide +kernel
theorem dX12_read_91 : decode cX12_read 91 = .ok (.iconst (-1), 1) := by decide +kernel
theorem dX12_read_92 : decode cX12_read 92 = .ok (.if_icmp .ne 14, 3) := by decide +kernel
theorem dX12_read_95 : decode cX12_read 95 = .ok (.aload_n 0, 1) := by decide +kernel
theorem dX12_read_96 : decode cX12_read 96 = .ok (.getfield 82, 3) := by decide +kernel
theorem dX12_read_99 : decode cX12_read 99 = .ok (.aload_n 0, 1) := by decide +kernel
theorem dX12_read_100 : decode cX12_read 100 = .ok (.getfield 85, 3) := by decide +kernel
theorem dX12_read_103 : decode cX12_read 103 = .ok (.if_icmp .ne 8, 3) := by decide +kernel
theorem dX12_read_106 : decode cX12_read 106 = .ok (.iconst 0, 1) := by decide +kernel
theorem dX12_read_107 : decode cX12_read 107 = .ok (.istore_n 2, 1) := by decide +kernel
theorem dX12_read_108 : decode cX12_read 108 = .ok (.goto (-85), 3) := by decide +kernel
theorem dX12_read_111 : decode cX12_read 111 = .ok (.aload_n 0, 1) := by decide +kernel
theorem dX12_read_112 : decode cX12_read 112 = .ok (.bipush 59, 2) := by decide +kernel
theorem dX12_read_114 : decode cX12_read 114 = .ok (.invokevirtual 189, 3) := by decide +kernel
theorem dX12_read_117 : decode cX12_read 117 = .ok (.ifCond .eq 16, 3) := by decide +kernel
theorem dX12_read_120 : decode cX12_read 120 = .ok (.aload_n 0, 1) := by decide +kernel
theorem dX12_read_121 : decode cX12_read 121 = .ok (.dup, 1) := by decide +kernel
theorem dX12_read_122 : decode cX12_read 122 = .ok (.getfield 82, 3) := by decide +kernel
theorem dX12_read_125 : decode cX12_read 125 = .ok (.iconst 1, 1) := by decide +kernel
theorem dX12_read_126 : decode cX12_read 126 = .ok (.iadd, 1) := by decide +kernel
theorem dX12_read_127 : decode cX12_read 127 = .ok (.putfield 82, 3) := by decide +kernel
theorem dX12_read_130 : decode cX12_read 130 = .ok (.goto (-107), 3) := by decide +kernel
theorem dX12_read_133 : decode cX12_read 133 = .ok (.aload_n 0, 1) := by decide +kernel
theorem dX12_read_134 : decode cX12_read 134 = .ok (.aload_n 0, 1) := by decide +kernel
theorem dX12_read_135 : decode cX12_read 135 = .ok (.getfield 82, 3) := by decide +kernel
theorem dX12_read_138 : decode cX12_read 138 = .ok (.invokevirtual 108, 3) := by decide +kernel
theorem dX12_read_141 : decode cX12_read 141 = .ok (.goto (-118), 3) := by decide +kernel
theorem dX12_read_144 : decode cX12_read 144 = .ok (.iload_n 3, 1) := by decide +kernel
theorem dX12_read_145 : decode cX12_read 145 = .ok (.ireturn, 1) := by decide +kernel
theorem dX12_putsAside_0 : decode cX12_putsAside 0 = .ok (.iconst 0, 1) := by decide +kernel
theorem dX12_putsAside_1 : decode cX12_putsAside 1 = .ok (.istore_n 1, 1) := by decide +kernel
theorem dX12_putsAside_2 : decode cX12_putsAside 2 = .ok (.iload_n 1, 1) := by decide +kernel
theorem dX12_putsAside_3 : decode cX12_putsAside 3 = .ok (.sipush 372, 3) := by decide +kernel
theorem dX12_putsAside_6 : decode cX12_putsAside 6 = .ok (.if_icmp .ge 21, 3) := by decide +kernel
theorem dX12_putsAside_9 : decode cX12_putsAside 9 = .ok (.aload_n 0, 1) := by decide +kernel
theorem dX12_putsAside_10 : decode cX12_putsAside 10 = .ok (.getfield 16, 3) := by decide +kernel
theorem dX12_putsAside_13 : decode cX12_putsAside 13 = .ok (.iload_n 1, 1) := by decide +kernel
theorem dX12_putsAside_14 : decode cX12_putsAside 14 = .ok (.aload_n 0, 1) := by decide +kernel
theorem dX12_putsAside_15 : decode cX12_putsAside 15 = .ok (.getfield 7, 3) := by decide +kernel
theorem dX12_putsAside_18 : decode cX12_putsAside 18 = .ok (.iload_n 1, 1) := by decide +kernel
theorem dX12_putsAside_19 : decode cX12_putsAside 19 = .ok (.iaload, 1) := by decide +kernel
theorem dX12_putsAside_20 : decode cX12_putsAside 20 = .ok (.iastore, 1) := by decide +kernel
theorem dX12_putsAside_21 : decode cX12_putsAside 21 = .ok (.iinc 1 1, 3) := by decide +kernel
theorem dX12_putsAside_24 : decode cX12_putsAside 24 = .ok (.goto (-22), 3) := by decide +kernel
theorem dX12_putsAside_27 : decode cX12_putsAside 27 = .ok (.return_, 1) := by decide +kernel
theorem dX12_comesBack_0 : decode cX12_comesBack 0 = .ok (.iconst 0, 1) := by decide +kernel
theorem dX12_comesBack_1 : decode cX12_comesBack 1 = .ok (.istore_n 1, 1) := by decide +kernel
theorem dX12_comesBack_2 : decode cX12_comesBack 2 = .ok (.iload_n 1, 1) := by decide +kernel
theorem dX12_comesBack_3 : decode cX12_comesBack 3 = .ok (.sipush 372, 3) := by decide +kernel
theorem dX12_comesBack_6 : decode cX12_comesBack 6 = .ok (.if_icmp .ge 21, 3) := by decide +kernel
theorem dX12_comesBack_9 : decode cX12_comesBack 9 = .ok (.aload_n 0, 1) := by decide +kernel
theorem dX12_comesBack_10 : decode cX12_comesBack 10 = .ok (.getfield 7, 3) := by decide +kernel
theorem dX12_comesBack_13 : decode cX12_comesBack 13 = .ok (.iload_n 1, 1) := by decide +kernel
theorem dX12_comesBack_14 : decode cX12_comesBack 14 = .ok (.aload_n 0, 1) := by decide +kernel
theorem dX12_comesBack_15 : decode cX12_comesBack 15 = .ok (.getfield 16, 3) := by decide +kernel
theorem dX12_comesBack_18 : decode cX12_comesBack 18 = .ok (.iload_n 1, 1) := by decide +kernel
theorem dX12_comesBack_19 : decode cX12_comesBack 19 = .ok (.iaload, 1) := by decide +kernel
theorem dX12_comesBack_20 : decode cX12_comesBack 20 = .ok (.iastore, 1) := by decide +kernel
theorem dX12_comesBack_21 : decode cX12_comesBack 21 = .ok (.iinc 1 1, 3) := by decide +kernel
theorem dX12_comesBack_24 : decode cX12_comesBack 24 = .ok (.goto (-22), 3) := by decide +kernel
theorem dX12_comesBack_27 : decode cX12_comesBack 27 = .ok (.return_, 1) := by decide +kernel
theorem dX12_cloister_0 : decode cX12_cloister 0 = .ok (.aload_n 0, 1) := by decide +kernel
theorem dX12_cloister_1 : decode cX12_cloister 1 = .ok (.invokevirtual 192, 3) := by decide +kernel
theorem dX12_cloister_4 : decode cX12_cloister 4 = .ok (.aload_n 0, 1) := by decide +kernel
theorem dX12_cloister_5 : decode cX12_cloister 5 = .ok (.invokevirtual 195, 3) := by decide +kernel
theorem dX12_cloister_8 : decode cX12_cloister 8 = .ok (.aload_n 0, 1) := by decide +kernel
theorem dX12_cloister_9 : decode cX12_cloister 9 = .ok (.iconst 0, 1) := by decide +kernel
theorem dX12_cloister_10 : decode cX12_cloister 10 = .ok (.invokevirtual 198, 3) := by decide +kernel
theorem dX12_cloister_13 : decode cX12_cloister 13 = .ok (.istore_n 1, 1) := by decide +kernel
theorem dX12_cloister_14 : decode cX12_cloister 14 = .ok (.aload_n 0, 1) := by decide +kernel
theorem dX12_cloister_15 : decode cX12_cloister 15 = .ok (.aload_n 0, 1) := by decide +kernel
theorem dX12_cloister_16 : decode cX12_cloister 16 = .ok (.getfield 25, 3) := by decide +kernel
theorem dX12_cloister_19 : decode cX12_cloister 19 = .ok (.iconst (-1), 1) := by decide +kernel
theorem dX12_cloister_20 : decode cX12_cloister 20 = .ok (.if_icmp .eq 7, 3) := by decide +kernel
theorem dX12_cloister_23 : decode cX12_cloister 23 = .ok (.iconst 1, 1) := by decide +kernel
theorem dX12_cloister_24 : decode cX12_cloister 24 = .ok (.goto 19, 3) := by decide +kernel
theorem dX12_cloister_27 : decode cX12_cloister 27 = .ok (.aload_n 0, 1) := by decide +kernel
theorem dX12_cloister_28 : decode cX12_cloister 28 = .ok (.getfield 7, 3) := by decide +kernel
theorem dX12_cloister_31 : decode cX12_cloister 31 = .ok (.iconst 0, 1) := by decide +kernel
theorem dX12_cloister_32 : decode cX12_cloister 32 = .ok (.iaload, 1) := by decide +kernel
theorem dX12_cloister_33 : decode cX12_cloister 33 = .ok (.bipush 12, 2) := by decide +kernel
theorem dX12_cloister_35 : decode cX12_cloister 35 = .ok (.if_icmp .ne 7, 3) := by decide +kernel
theorem dX12_cloister_38 : decode cX12_cloister 38 = .ok (.iconst 2, 1) := by decide +kernel
theorem dX12_cloister_39 : decode cX12_cloister 39 = .ok (.goto 4, 3) := by decide +kernel
theorem dX12_cloister_42 : decode cX12_cloister 42 = .ok (.iconst 0, 1) := by decide +kernel
theorem dX12_cloister_43 : decode cX12_cloister 43 = .ok (.putfield 58, 3) := by decide +kernel
theorem dX12_cloister_46 : decode cX12_cloister 46 = .ok (.aload_n 0, 1) := by decide +kernel
theorem dX12_cloister_47 : decode cX12_cloister 47 = .ok (.getfield 58, 3) := by decide +kernel
theorem dX12_cloister_50 : decode cX12_cloister 50 = .ok (.ifCond .le 9, 3) := by decide +kernel
theorem dX12_cloister_53 : decode cX12_cloister 53 = .ok (.aload_n 0, 1) := by decide +kernel
theorem dX12_cloister_54 : decode cX12_cloister 54 = .ok (.invokevirtual 201, 3) := by decide +kernel
theorem dX12_cloister_57 : decode cX12_cloister 57 = .ok (.iconst 0, 1) := by decide +kernel
theorem dX12_cloister_58 : decode cX12_cloister 58 = .ok (.ireturn, 1) := by decide +kernel
theorem dX12_cloister_59 : decode cX12_cloister 59 = .ok (.aload_n 0, 1) := by decide +kernel
theorem dX12_cloister_60 : decode cX12_cloister 60 = .ok (.getfield 7, 3) := by decide +kernel
theorem dX12_cloister_63 : decode cX12_cloister 63 = .ok (.iconst 0, 1) := by decide +kernel
theorem dX12_cloister_64 : decode cX12_cloister 64 = .ok (.dup2, 1) := by decide +kernel
theorem dX12_cloister_65 : decode cX12_cloister 65 = .ok (.iaload, 1) := by decide +kernel
theorem dX12_cloister_66 : decode cX12_cloister 66 = .ok (.iconst 1, 1) := by decide +kernel
theorem dX12_cloister_67 : decode cX12_cloister 67 = .ok (.iadd, 1) := by decide +kernel
theorem dX12_cloister_68 : decode cX12_cloister 68 = .ok (.iastore, 1) := by decide +kernel
theorem dX12_cloister_69 : decode cX12_cloister 69 = .ok (.aload_n 0, 1) := by decide +kernel
theorem dX12_cloister_70 : decode cX12_cloister 70 = .ok (.iconst 0, 1) := by decide +kernel
theorem dX12_cloister_71 : decode cX12_cloister 71 = .ok (.putfield 204, 3) := by decide +kernel
theorem dX12_cloister_74 : decode cX12_cloister 74 = .ok (.aload_n 0, 1) := by decide +kernel
theorem dX12_cloister_75 : decode cX12_cloister 75 = .ok (.getfield 7, 3) := by decide +kernel
theorem dX12_cloister_78 : decode cX12_cloister 78 = .ok (.iconst 0, 1) := by decide +kernel
theorem dX12_cloister_79 : decode cX12_cloister 79 = .ok (.iaload, 1) := by decide +kernel
theorem dX12_cloister_80 : decode cX12_cloister 80 = .ok (.ireturn, 1) := by decide +kernel
theorem dX12_part_0 : decode cX12_part 0 = .ok (.aload_n 0, 1) := by decide +kernel
theorem dX12_part_1 : decode cX12_part 1 = .ok (.getfield 25, 3) := by decide +kernel
theorem dX12_part_4 : decode cX12_part 4 = .ok (.iconst (-1), 1) := by decide +kernel
theorem dX12_part_5 : decode cX12_part 5 = .ok (.if_icmp .eq 5, 3) := by decide +kernel
theorem dX12_part_8 : decode cX12_part 8 = .ok (.iconst 0, 1) := by decide +kernel
theorem dX12_part_9 : decode cX12_part 9 = .ok (.ireturn, 1) := by decide +kernel
theorem dX12_part_10 : decode cX12_part 10 = .ok (.aload_n 0, 1) := by decide +kernel
theorem dX12_part_11 : decode cX12_part 11 = .ok (.invokevirtual 92, 3) := by decide +kernel
theorem dX12_part_14 : decode cX12_part 14 = .ok (.aload_n 0, 1) := by decide +kernel
theorem dX12_part_15 : decode cX12_part 15 = .ok (.getfield 82, 3) := by decide +kernel
theorem dX12_part_18 : decode cX12_part 18 = .ok (.aload_n 0, 1) := by decide +kernel
theorem dX12_part_19 : decode cX12_part 19 = .ok (.getfield 85, 3) := by decide +kernel
theorem dX12_part_22 : decode cX12_part 22 = .ok (.if_icmp .ge 30, 3) := by decide +kernel
theorem dX12_part_25 : decode cX12_part 25 = .ok (.aload_n 0, 1) := by decide +kernel
theorem dX12_part_26 : decode cX12_part 26 = .ok (.aload_n 0, 1) := by decide +kernel
theorem dX12_part_27 : decode cX12_part 27 = .ok (.getfield 82, 3) := by decide +kernel
theorem dX12_part_30 : decode cX12_part 30 = .ok (.invokevirtual 88, 3) := by decide +kernel
theorem dX12_part_33 : decode cX12_part 33 = .ok (.bipush 48, 2) := by decide +kernel
theorem dX12_part_35 : decode cX12_part 35 = .ok (.bipush 57, 2) := by decide +kernel
theorem dX12_part_37 : decode cX12_part 37 = .ok (.invokestatic 61, 3) := by decide +kernel
theorem dX12_part_40 : decode cX12_part 40 = .ok (.ifCond .eq 12, 3) := by decide +kernel
theorem dX12_part_43 : decode cX12_part 43 = .ok (.aload_n 0, 1) := by decide +kernel
theorem dX12_part_44 : decode cX12_part 44 = .ok (.iconst 0, 1) := by decide +kernel
theorem dX12_part_45 : decode cX12_part 45 = .ok (.sipush 999, 3) := by decide +kernel
theorem dX12_part_48 : decode cX12_part 48 = .ok (.invokevirtual 116, 3) := by decide +kernel
theorem dX12_part_51 : decode cX12_part 51 = .ok (.ireturn, 1) := by decide +kernel
theorem dX12_part_52 : decode cX12_part 52 = .ok (.aload_n 0, 1) := by decide +kernel
theorem dX12_part_53 : decode cX12_part 53 = .ok (.ldc 154, 2) := by decide +kernel
theorem dX12_part_55 : decode cX12_part 55 = .ok (.invokevirtual 112, 3) := by decide +kernel
theorem dX12_part_58 : decode cX12_part 58 = .ok (.ifCond .eq 7, 3) := by decide +kernel
theorem dX12_part_61 : decode cX12_part 61 = .ok (.iconst 0, 1) := by decide +kernel
theorem dX12_part_62 : decode cX12_part 62 = .ok (.goto 83, 3) := by decide +kernel
theorem dX12_part_65 : decode cX12_part 65 = .ok (.aload_n 0, 1) := by decide +kernel
theorem dX12_part_66 : decode cX12_part 66 = .ok (.ldc 207, 2) := by decide +kernel
theorem dX12_part_68 : decode cX12_part 68 = .ok (.invokevirtual 112, 3) := by decide +kernel
theorem dX12_part_71 : decode cX12_part 71 = .ok (.ifCond .eq 7, 3) := by decide +kernel
theorem dX12_part_74 : decode cX12_part 74 = .ok (.iconst 1, 1) := by decide +kernel
theorem dX12_part_75 : decode cX12_part 75 = .ok (.goto 70, 3) := by decide +kernel
theorem dX12_part_78 : decode cX12_part 78 = .ok (.aload_n 0, 1) := by decide +kernel
theorem dX12_part_79 : decode cX12_part 79 = .ok (.ldc 133, 2) := by decide +kernel
theorem dX12_part_81 : decode cX12_part 81 = .ok (.invokevirtual 112, 3) := by decide +kernel
theorem dX12_part_84 : decode cX12_part 84 = .ok (.ifCond .eq 7, 3) := by decide +kernel
theorem dX12_part_87 : decode cX12_part 87 = .ok (.iconst 2, 1) := by decide +kernel
theorem dX12_part_88 : decode cX12_part 88 = .ok (.goto 57, 3) := by decide +kernel
theorem dX12_part_91 : decode cX12_part 91 = .ok (.aload_n 0, 1) := by decide +kernel
theorem dX12_part_92 : decode cX12_part 92 = .ok (.ldc 209, 2) := by decide +kernel
theorem dX12_part_94 : decode cX12_part 94 = .ok (.invokevirtual 112, 3) := by decide +kernel
theorem dX12_part_97 : decode cX12_part 97 = .ok (.ifCond .eq 7, 3) := by decide +kernel
theorem dX12_part_100 : decode cX12_part 100 = .ok (.iconst 3, 1) := by decide +kernel
theorem dX12_part_101 : decode cX12_part 101 = .ok (.goto 44, 3) := by decide +kernel
theorem dX12_part_104 : decode cX12_part 104 = .ok (.aload_n 0, 1) := by decide +kernel
theorem dX12_part_105 : decode cX12_part 105 = .ok (.ldc 211, 2) := by decide +kernel
theorem dX12_part_107 : decode cX12_part 107 = .ok (.invokevirtual 112, 3) := by decide +kernel
theorem dX12_part_110 : decode cX12_part 110 = .ok (.ifCond .eq 7, 3) := by decide +kernel
theorem dX12_part_113 : decode cX12_part 113 = .ok (.iconst 4, 1) := by decide +kernel
theorem dX12_part_114 : decode cX12_part 114 = .ok (.goto 31, 3) := by decide +kernel
theorem dX12_part_117 : decode cX12_part 117 = .ok (.aload_n 0, 1) := by decide +kernel
theorem dX12_part_118 : decode cX12_part 118 = .ok (.ldc 176, 2) := by decide +kernel
theorem dX12_part_120 : decode cX12_part 120 = .ok (.invokevirtual 112, 3) := by decide +kernel
theorem dX12_part_123 : decode cX12_part 123 = .ok (.ifCond .eq 7, 3) := by decide +kernel
theorem dX12_part_126 : decode cX12_part 126 = .ok (.iconst 5, 1) := by decide +kernel
theorem dX12_part_127 : decode cX12_part 127 = .ok (.goto 18, 3) := by decide +kernel
theorem dX12_part_130 : decode cX12_part 130 = .ok (.aload_n 0, 1) := by decide +kernel
theorem dX12_part_131 : decode cX12_part 131 = .ok (.ldc 128, 2) := by decide +kernel
theorem dX12_part_133 : decode cX12_part 133 = .ok (.invokevirtual 112, 3) := by decide +kernel
theorem dX12_part_136 : decode cX12_part 136 = .ok (.ifCond .eq 8, 3) := by decide +kernel
theorem dX12_part_139 : decode cX12_part 139 = .ok (.bipush 6, 2) := by decide +kernel
theorem dX12_part_141 : decode cX12_part 141 = .ok (.goto 4, 3) := by decide +kernel
theorem dX12_part_144 : decode cX12_part 144 = .ok (.iconst (-1), 1) := by decide +kernel
theorem dX12_part_145 : decode cX12_part 145 = .ok (.istore_n 1, 1) := by decide +kernel
theorem dX12_part_146 : decode cX12_part 146 = .ok (.iload_n 1, 1) := by decide +kernel
theorem dX12_part_147 : decode cX12_part 147 = .ok (.iconst (-1), 1) := by decide +kernel
theorem dX12_part_148 : decode cX12_part 148 = .ok (.if_icmp .ne 13, 3) := by decide +kernel
theorem dX12_part_151 : decode cX12_part 151 = .ok (.aload_n 0, 1) := by decide +kernel
theorem dX12_part_152 : decode cX12_part 152 = .ok (.aload_n 0, 1) := by decide +kernel
theorem dX12_part_153 : decode cX12_part 153 = .ok (.getfield 82, 3) := by decide +kernel
theorem dX12_part_156 : decode cX12_part 156 = .ok (.invokevirtual 108, 3) := by decide +kernel
theorem dX12_part_159 : decode cX12_part 159 = .ok (.iconst 0, 1) := by decide +kernel
theorem dX12_part_160 : decode cX12_part 160 = .ok (.ireturn, 1) := by decide +kernel
theorem dX12_part_161 : decode cX12_part 161 = .ok (.aload_n 0, 1) := by decide +kernel
theorem dX12_part_162 : decode cX12_part 162 = .ok (.getfield 29, 3) := by decide +kernel
theorem dX12_part_165 : decode cX12_part 165 = .ok (.iload_n 1, 1) := by decide +kernel
theorem dX12_part_166 : decode cX12_part 166 = .ok (.iaload, 1) := by decide +kernel
theorem dX12_part_167 : decode cX12_part 167 = .ok (.ireturn, 1) := by decide +kernel
theorem dX12_sum_0 : decode cX12_sum 0 = .ok (.aload_n 0, 1) := by decide +kernel
theorem dX12_sum_1 : decode cX12_sum 1 = .ok (.invokevirtual 213, 3) := by decide +kernel
theorem dX12_sum_4 : decode cX12_sum 4 = .ok (.istore_n 1, 1) := by decide +kernel
theorem dX12_sum_5 : decode cX12_sum 5 = .ok (.aload_n 0, 1) := by decide +kernel
theorem dX12_sum_6 : decode cX12_sum 6 = .ok (.getfield 25, 3) := by decide +kernel
theorem dX12_sum_9 : decode cX12_sum 9 = .ok (.iconst (-1), 1) := by decide +kernel
theorem dX12_sum_10 : decode cX12_sum 10 = .ok (.if_icmp .ne 32, 3) := by decide +kernel
theorem dX12_sum_13 : decode cX12_sum 13 = .ok (.aload_n 0, 1) := by decide +kernel
theorem dX12_sum_14 : decode cX12_sum 14 = .ok (.bipush 43, 2) := by decide +kernel
theorem dX12_sum_16 : decode cX12_sum 16 = .ok (.invokevirtual 189, 3) := by decide +kernel
theorem dX12_sum_19 : decode cX12_sum 19 = .ok (.ifCond .eq 23, 3) := by decide +kernel
theorem dX12_sum_22 : decode cX12_sum 22 = .ok (.aload_n 0, 1) := by decide +kernel
theorem dX12_sum_23 : decode cX12_sum 23 = .ok (.dup, 1) := by decide +kernel
theorem dX12_sum_24 : decode cX12_sum 24 = .ok (.getfield 82, 3) := by decide +kernel
theorem dX12_sum_27 : decode cX12_sum 27 = .ok (.iconst 1, 1) := by decide +kernel
theorem dX12_sum_28 : decode cX12_sum 28 = .ok (.iadd, 1) := by decide +kernel
theorem dX12_sum_29 : decode cX12_sum 29 = .ok (.putfield 82, 3) := by decide +kernel
theorem dX12_sum_32 : decode cX12_sum 32 = .ok (.iload_n 1, 1) := by decide +kernel
theorem dX12_sum_33 : decode cX12_sum 33 = .ok (.aload_n 0, 1) := by decide +kernel
theorem dX12_sum_34 : decode cX12_sum 34 = .ok (.invokevirtual 213, 3) := by decide +kernel
theorem dX12_sum_37 : decode cX12_sum 37 = .ok (.iadd, 1) := by decide +kernel
theorem dX12_sum_38 : decode cX12_sum 38 = .ok (.istore_n 1, 1) := by decide +kernel
theorem dX12_sum_39 : decode cX12_sum 39 = .ok (.goto (-34), 3) := by decide +kernel
theorem dX12_sum_42 : decode cX12_sum 42 = .ok (.iload_n 1, 1) := by decide +kernel
theorem dX12_sum_43 : decode cX12_sum 43 = .ok (.ireturn, 1) := by decide +kernel
theorem dX12_plain_0 : decode cX12_plain 0 = .ok (.aload_n 0, 1) := by decide +kernel
theorem dX12_plain_1 : decode cX12_plain 1 = .ok (.ldc 216, 2) := by decide +kernel
theorem dX12_plain_3 : decode cX12_plain 3 = .ok (.invokevirtual 112, 3) := by decide +kernel
theorem dX12_plain_6 : decode cX12_plain 6 = .ok (.ifCond .eq 8, 3) := by decide +kernel
theorem dX12_plain_9 : decode cX12_plain 9 = .ok (.aload_n 0, 1) := by decide +kernel
theorem dX12_plain_10 : decode cX12_plain 10 = .ok (.getfield 218, 3) := by decide +kernel
theorem dX12_plain_13 : decode cX12_plain 13 = .ok (.ireturn, 1) := by decide +kernel
theorem dX12_plain_14 : decode cX12_plain 14 = .ok (.aload_n 0, 1) := by decide +kernel
theorem dX12_plain_15 : decode cX12_plain 15 = .ok (.ldc 222, 2) := by decide +kernel
theorem dX12_plain_17 : decode cX12_plain 17 = .ok (.invokevirtual 112, 3) := by decide +kernel
theorem dX12_plain_20 : decode cX12_plain 20 = .ok (.ifCond .eq 8, 3) := by decide +kernel
theorem dX12_plain_23 : decode cX12_plain 23 = .ok (.aload_n 0, 1) := by decide +kernel
theorem dX12_plain_24 : decode cX12_plain 24 = .ok (.getfield 224, 3) := by decide +kernel
theorem dX12_plain_27 : decode cX12_plain 27 = .ok (.ireturn, 1) := by decide +kernel
theorem dX12_plain_28 : decode cX12_plain 28 = .ok (.aload_n 0, 1) := by decide +kernel
theorem dX12_plain_29 : decode cX12_plain 29 = .ok (.invokevirtual 227, 3) := by decide +kernel
theorem dX12_plain_32 : decode cX12_plain 32 = .ok (.istore_n 1, 1) := by decide +kernel
theorem dX12_plain_33 : decode cX12_plain 33 = .ok (.aload_n 0, 1) := by decide +kernel
theorem dX12_plain_34 : decode cX12_plain 34 = .ok (.getfield 25, 3) := by decide +kernel
theorem dX12_plain_37 : decode cX12_plain 37 = .ok (.iconst (-1), 1) := by decide +kernel
theorem dX12_plain_38 : decode cX12_plain 38 = .ok (.if_icmp .eq 5, 3) := by decide +kernel
theorem dX12_plain_41 : decode cX12_plain 41 = .ok (.iconst 0, 1) := by decide +kernel
theorem dX12_plain_42 : decode cX12_plain 42 = .ok (.ireturn, 1) := by decide +kernel
theorem dX12_plain_43 : decode cX12_plain 43 = .ok (.aload_n 0, 1) := by decide +kernel
theorem dX12_plain_44 : decode cX12_plain 44 = .ok (.bipush 60, 2) := by decide +kernel
theorem dX12_plain_46 : decode cX12_plain 46 = .ok (.invokevirtual 189, 3) := by decide +kernel
theorem dX12_plain_49 : decode cX12_plain 49 = .ok (.istore_n 2, 1) := by decide +kernel
theorem dX12_plain_50 : decode cX12_plain 50 = .ok (.iload_n 2, 1) := by decide +kernel
theorem dX12_plain_51 : decode cX12_plain 51 = .ok (.ifCond .ne 22, 3) := by decide +kernel
theorem dX12_plain_54 : decode cX12_plain 54 = .ok (.aload_n 0, 1) := by decide +kernel
theorem dX12_plain_55 : decode cX12_plain 55 = .ok (.bipush 62, 2) := by decide +kernel
theorem dX12_plain_57 : decode cX12_plain 57 = .ok (.invokevirtual 189, 3) := by decide +kernel
theorem dX12_plain_60 : decode cX12_plain 60 = .ok (.ifCond .ne 13, 3) := by decide +kernel
theorem dX12_plain_63 : decode cX12_plain 63 = .ok (.aload_n 0, 1) := by decide +kernel
theorem dX12_plain_64 : decode cX12_plain 64 = .ok (.aload_n 0, 1) := by decide +kernel
theorem dX12_plain_65 : decode cX12_plain 65 = .ok (.getfield 82, 3) := by decide +kernel
theorem dX12_plain_68 : decode cX12_plain 68 = .ok (.invokevirtual 108, 3) := by decide +kernel
theorem dX12_plain_71 : decode cX12_plain 71 = .ok (.iconst 0, 1) := by decide +kernel
theorem dX12_plain_72 : decode cX12_plain 72 = .ok (.ireturn, 1) := by decide +kernel
theorem dX12_plain_73 : decode cX12_plain 73 = .ok (.aload_n 0, 1) := by decide +kernel
theorem dX12_plain_74 : decode cX12_plain 74 = .ok (.dup, 1) := by decide +kernel
theorem dX12_plain_75 : decode cX12_plain 75 = .ok (.getfield 82, 3) := by decide +kernel
theorem dX12_plain_78 : decode cX12_plain 78 = .ok (.iconst 1, 1) := by decide +kernel
theorem dX12_plain_79 : decode cX12_plain 79 = .ok (.iadd, 1) := by decide +kernel
theorem dX12_plain_80 : decode cX12_plain 80 = .ok (.putfield 82, 3) := by decide +kernel
theorem dX12_plain_83 : decode cX12_plain 83 = .ok (.aload_n 0, 1) := by decide +kernel
theorem dX12_plain_84 : decode cX12_plain 84 = .ok (.invokevirtual 227, 3) := by decide +kernel
theorem dX12_plain_87 : decode cX12_plain 87 = .ok (.istore_n 3, 1) := by decide +kernel
theorem dX12_plain_88 : decode cX12_plain 88 = .ok (.iload_n 2, 1) := by decide +kernel
theorem dX12_plain_89 : decode cX12_plain 89 = .ok (.ifCond .eq 16, 3) := by decide +kernel
theorem dX12_plain_92 : decode cX12_plain 92 = .ok (.iload_n 1, 1) := by decide +kernel
theorem dX12_plain_93 : decode cX12_plain 93 = .ok (.iload_n 3, 1) := by decide +kernel
theorem dX12_plain_94 : decode cX12_plain 94 = .ok (.if_icmp .ge 7, 3) := by decide +kernel
theorem dX12_plain_97 : decode cX12_plain 97 = .ok (.iconst 1, 1) := by decide +kernel
theorem dX12_plain_98 : decode cX12_plain 98 = .ok (.goto 17, 3) := by decide +kernel
theorem dX12_plain_101 : decode cX12_plain 101 = .ok (.iconst 0, 1) := by decide +kernel
theorem dX12_plain_102 : decode cX12_plain 102 = .ok (.goto 13, 3) := by decide +kernel
theorem dX12_plain_105 : decode cX12_plain 105 = .ok (.iload_n 1, 1) := by decide +kernel
theorem dX12_plain_106 : decode cX12_plain 106 = .ok (.iload_n 3, 1) := by decide +kernel
theorem dX12_plain_107 : decode cX12_plain 107 = .ok (.if_icmp .le 7, 3) := by decide +kernel
theorem dX12_plain_110 : decode cX12_plain 110 = .ok (.iconst 1, 1) := by decide +kernel
theorem dX12_plain_111 : decode cX12_plain 111 = .ok (.goto 4, 3) := by decide +kernel
theorem dX12_plain_114 : decode cX12_plain 114 = .ok (.iconst 0, 1) := by decide +kernel
theorem dX12_plain_115 : decode cX12_plain 115 = .ok (.ireturn, 1) := by decide +kernel
theorem dX12_atom_0 : decode cX12_atom 0 = .ok (.aload_n 0, 1) := by decide +kernel
theorem dX12_atom_1 : decode cX12_atom 1 = .ok (.getfield 25, 3) := by decide +kernel
theorem dX12_atom_4 : decode cX12_atom 4 = .ok (.iconst (-1), 1) := by decide +kernel
theorem dX12_atom_5 : decode cX12_atom 5 = .ok (.if_icmp .eq 5, 3) := by decide +kernel
theorem dX12_atom_8 : decode cX12_atom 8 = .ok (.iconst 0, 1) := by decide +kernel
theorem dX12_atom_9 : decode cX12_atom 9 = .ok (.ireturn, 1) := by decide +kernel
theorem dX12_atom_10 : decode cX12_atom 10 = .ok (.aload_n 0, 1) := by decide +kernel
theorem dX12_atom_11 : decode cX12_atom 11 = .ok (.invokevirtual 105, 3) := by decide +kernel
theorem dX12_atom_14 : decode cX12_atom 14 = .ok (.istore_n 1, 1) := by decide +kernel
theorem dX12_atom_15 : decode cX12_atom 15 = .ok (.aload_n 0, 1) := by decide +kernel
theorem dX12_atom_16 : decode cX12_atom 16 = .ok (.ldc 230, 2) := by decide +kernel
theorem dX12_atom_18 : decode cX12_atom 18 = .ok (.invokevirtual 112, 3) := by decide +kernel
theorem dX12_atom_21 : decode cX12_atom 21 = .ok (.istore_n 2, 1) := by decide +kernel
theorem dX12_atom_22 : decode cX12_atom 22 = .ok (.iload_n 2, 1) := by decide +kernel
theorem dX12_atom_23 : decode cX12_atom 23 = .ok (.ifCond .ne 17, 3) := by decide +kernel
theorem dX12_atom_26 : decode cX12_atom 26 = .ok (.aload_n 0, 1) := by decide +kernel
theorem dX12_atom_27 : decode cX12_atom 27 = .ok (.bipush 40, 2) := by decide +kernel
theorem dX12_atom_29 : decode cX12_atom 29 = .ok (.invokevirtual 189, 3) := by decide +kernel
theorem dX12_atom_32 : decode cX12_atom 32 = .ok (.ifCond .ne 8, 3) := by decide +kernel
theorem dX12_atom_35 : decode cX12_atom 35 = .ok (.aload_n 0, 1) := by decide +kernel
theorem dX12_atom_36 : decode cX12_atom 36 = .ok (.invokevirtual 232, 3) := by decide +kernel
theorem dX12_atom_39 : decode cX12_atom 39 = .ok (.ireturn, 1) := by decide +kernel
theorem dX12_atom_40 : decode cX12_atom 40 = .ok (.aload_n 0, 1) := by decide +kernel
theorem dX12_atom_41 : decode cX12_atom 41 = .ok (.getfield 180, 3) := by decide +kernel
theorem dX12_atom_44 : decode cX12_atom 44 = .ok (.bipush 6, 2) := by decide +kernel
theorem dX12_atom_46 : decode cX12_atom 46 = .ok (.if_icmp .ne 10, 3) := by decide +kernel
theorem dX12_atom_49 : decode cX12_atom 49 = .ok (.aload_n 0, 1) := by decide +kernel
theorem dX12_atom_50 : decode cX12_atom 50 = .ok (.iload_n 1, 1) := by decide +kernel
theorem dX12_atom_51 : decode cX12_atom 51 = .ok (.invokevirtual 108, 3) := by decide +kernel
theorem dX12_atom_54 : decode cX12_atom 54 = .ok (.iconst 0, 1) := by decide +kernel
theorem dX12_atom_55 : decode cX12_atom 55 = .ok (.ireturn, 1) := by decide +kernel
theorem dX12_atom_56 : decode cX12_atom 56 = .ok (.aload_n 0, 1) := by decide +kernel
theorem dX12_atom_57 : decode cX12_atom 57 = .ok (.dup, 1) := by decide +kernel
theorem dX12_atom_58 : decode cX12_atom 58 = .ok (.getfield 180, 3) := by decide +kernel
theorem dX12_atom_61 : decode cX12_atom 61 = .ok (.iconst 1, 1) := by decide +kernel
theorem dX12_atom_62 : decode cX12_atom 62 = .ok (.iadd, 1) := by decide +kernel
theorem dX12_atom_63 : decode cX12_atom 63 = .ok (.putfield 180, 3) := by decide +kernel
theorem dX12_atom_66 : decode cX12_atom 66 = .ok (.iconst 0, 1) := by decide +kernel
theorem dX12_atom_67 : decode cX12_atom 67 = .ok (.istore_n 3, 1) := by decide +kernel
theorem dX12_atom_68 : decode cX12_atom 68 = .ok (.iload_n 2, 1) := by decide +kernel
theorem dX12_atom_69 : decode cX12_atom 69 = .ok (.ifCond .eq 19, 3) := by decide +kernel
theorem dX12_atom_72 : decode cX12_atom 72 = .ok (.aload_n 0, 1) := by decide +kernel
theorem dX12_atom_73 : decode cX12_atom 73 = .ok (.invokevirtual 236, 3) := by decide +kernel
theorem dX12_atom_76 : decode cX12_atom 76 = .ok (.ifCond .ne 7, 3) := by decide +kernel
theorem dX12_atom_79 : decode cX12_atom 79 = .ok (.iconst 1, 1) := by decide +kernel
theorem dX12_atom_80 : decode cX12_atom 80 = .ok (.goto 4, 3) := by decide +kernel
theorem dX12_atom_83 : decode cX12_atom 83 = .ok (.iconst 0, 1) := by decide +kernel
theorem dX12_atom_84 : decode cX12_atom 84 = .ok (.istore_n 3, 1) := by decide +kernel
theorem dX12_atom_85 : decode cX12_atom 85 = .ok (.goto 53, 3) := by decide +kernel
theorem dX12_atom_88 : decode cX12_atom 88 = .ok (.aload_n 0, 1) := by decide +kernel
theorem dX12_atom_89 : decode cX12_atom 89 = .ok (.dup, 1) := by decide +kernel
theorem dX12_atom_90 : decode cX12_atom 90 = .ok (.getfield 82, 3) := by decide +kernel
theorem dX12_atom_93 : decode cX12_atom 93 = .ok (.iconst 1, 1) := by decide +kernel
theorem dX12_atom_94 : decode cX12_atom 94 = .ok (.iadd, 1) := by decide +kernel
theorem dX12_atom_95 : decode cX12_atom 95 = .ok (.putfield 82, 3) := by decide +kernel
theorem dX12_atom_98 : decode cX12_atom 98 = .ok (.aload_n 0, 1) := by decide +kernel
theorem dX12_atom_99 : decode cX12_atom 99 = .ok (.invokevirtual 239, 3) := by decide +kernel
theorem dX12_atom_102 : decode cX12_atom 102 = .ok (.istore_n 3, 1) := by decide +kernel
theorem dX12_atom_103 : decode cX12_atom 103 = .ok (.aload_n 0, 1) := by decide +kernel
theorem dX12_atom_104 : decode cX12_atom 104 = .ok (.getfield 25, 3) := by decide +kernel
theorem dX12_atom_107 : decode cX12_atom 107 = .ok (.iconst (-1), 1) := by decide +kernel
theorem dX12_atom_108 : decode cX12_atom 108 = .ok (.if_icmp .ne 20, 3) := by decide +kernel
theorem dX12_atom_111 : decode cX12_atom 111 = .ok (.aload_n 0, 1) := by decide +kernel
theorem dX12_atom_112 : decode cX12_atom 112 = .ok (.bipush 41, 2) := by decide +kernel
theorem dX12_atom_114 : decode cX12_atom 114 = .ok (.invokevirtual 189, 3) := by decide +kernel
theorem dX12_atom_117 : decode cX12_atom 117 = .ok (.ifCond .ne 11, 3) := by decide +kernel
theorem dX12_atom_120 : decode cX12_atom 120 = .ok (.aload_n 0, 1) := by decide +kernel
theorem dX12_atom_121 : decode cX12_atom 121 = .ok (.aload_n 0, 1) := by decide +kernel
theorem dX12_atom_122 : decode cX12_atom 122 = .ok (.getfield 82, 3) := by decide +kernel
theorem dX12_atom_125 : decode cX12_atom 125 = .ok (.invokevirtual 108, 3) := by decide +kernel
theorem dX12_atom_128 : decode cX12_atom 128 = .ok (.aload_n 0, 1) := by decide +kernel
theorem dX12_atom_129 : decode cX12_atom 129 = .ok (.dup, 1) := by decide +kernel
theorem dX12_atom_130 : decode cX12_atom 130 = .ok (.getfield 82, 3) := by decide +kernel
theorem dX12_atom_133 : decode cX12_atom 133 = .ok (.iconst 1, 1) := by decide +kernel
theorem dX12_atom_134 : decode cX12_atom 134 = .ok (.iadd, 1) := by decide +kernel
theorem dX12_atom_135 : decode cX12_atom 135 = .ok (.putfield 82, 3) := by decide +kernel
theorem dX12_atom_138 : decode cX12_atom 138 = .ok (.aload_n 0, 1) := by decide +kernel
theorem dX12_atom_139 : decode cX12_atom 139 = .ok (.dup, 1) := by decide +kernel
theorem dX12_atom_140 : decode cX12_atom 140 = .ok (.getfield 180, 3) := by decide +kernel
theorem dX12_atom_143 : decode cX12_atom 143 = .ok (.iconst 1, 1) := by decide +kernel
theorem dX12_atom_144 : decode cX12_atom 144 = .ok (.isub, 1) := by decide +kernel
theorem dX12_atom_145 : decode cX12_atom 145 = .ok (.putfield 180, 3) := by decide +kernel
theorem dX12_atom_148 : decode cX12_atom 148 = .ok (.iload_n 3, 1) := by decide +kernel
theorem dX12_atom_149 : decode cX12_atom 149 = .ok (.ireturn, 1) := by decide +kernel
theorem dX12_every_0 : decode cX12_every 0 = .ok (.aload_n 0, 1) := by decide +kernel
theorem dX12_every_1 : decode cX12_every 1 = .ok (.invokevirtual 236, 3) := by decide +kernel
theorem dX12_every_4 : decode cX12_every 4 = .ok (.istore_n 1, 1) := by decide +kernel
theorem dX12_every_5 : decode cX12_every 5 = .ok (.aload_n 0, 1) := by decide +kernel
theorem dX12_every_6 : decode cX12_every 6 = .ok (.getfield 25, 3) := by decide +kernel
theorem dX12_every_9 : decode cX12_every 9 = .ok (.iconst (-1), 1) := by decide +kernel
theorem dX12_every_10 : decode cX12_every 10 = .ok (.if_icmp .ne 34, 3) := by decide +kernel
theorem dX12_every_13 : decode cX12_every 13 = .ok (.aload_n 0, 1) := by decide +kernel
theorem dX12_every_14 : decode cX12_every 14 = .ok (.ldc 242, 2) := by decide +kernel
theorem dX12_every_16 : decode cX12_every 16 = .ok (.invokevirtual 112, 3) := by decide +kernel
theorem dX12_every_19 : decode cX12_every 19 = .ok (.ifCond .eq 25, 3) := by decide +kernel
theorem dX12_every_22 : decode cX12_every 22 = .ok (.aload_n 0, 1) := by decide +kernel
theorem dX12_every_23 : decode cX12_every 23 = .ok (.invokevirtual 236, 3) := by decide +kernel
theorem dX12_every_26 : decode cX12_every 26 = .ok (.istore_n 2, 1) := by decide +kernel
theorem dX12_every_27 : decode cX12_every 27 = .ok (.iload_n 1, 1) := by decide +kernel
theorem dX12_every_28 : decode cX12_every 28 = .ok (.ifCond .eq 11, 3) := by decide +kernel
theorem dX12_every_31 : decode cX12_every 31 = .ok (.iload_n 2, 1) := by decide +kernel
theorem dX12_every_32 : decode cX12_every 32 = .ok (.ifCond .eq 7, 3) := by decide +kernel
theorem dX12_every_35 : decode cX12_every 35 = .ok (.iconst 1, 1) := by decide +kernel
theorem dX12_every_36 : decode cX12_every 36 = .ok (.goto 4, 3) := by decide +kernel
theorem dX12_every_39 : decode cX12_every 39 = .ok (.iconst 0, 1) := by decide +kernel
theorem dX12_every_40 : decode cX12_every 40 = .ok (.istore_n 1, 1) := by decide +kernel
theorem dX12_every_41 : decode cX12_every 41 = .ok (.goto (-36), 3) := by decide +kernel
theorem dX12_every_44 : decode cX12_every 44 = .ok (.iload_n 1, 1) := by decide +kernel
theorem dX12_every_45 : decode cX12_every 45 = .ok (.ireturn, 1) := by decide +kernel
theorem dX12_some_0 : decode cX12_some 0 = .ok (.aload_n 0, 1) := by decide +kernel
theorem dX12_some_1 : decode cX12_some 1 = .ok (.invokevirtual 244, 3) := by decide +kernel
theorem dX12_some_4 : decode cX12_some 4 = .ok (.istore_n 1, 1) := by decide +kernel
theorem dX12_some_5 : decode cX12_some 5 = .ok (.aload_n 0, 1) := by decide +kernel
theorem dX12_some_6 : decode cX12_some 6 = .ok (.getfield 25, 3) := by decide +kernel
theorem dX12_some_9 : decode cX12_some 9 = .ok (.iconst (-1), 1) := by decide +kernel
theorem dX12_some_10 : decode cX12_some 10 = .ok (.if_icmp .ne 34, 3) := by decide +kernel
theorem dX12_some_13 : decode cX12_some 13 = .ok (.aload_n 0, 1) := by decide +kernel
theorem dX12_some_14 : decode cX12_some 14 = .ok (.ldc 247, 2) := by decide +kernel
theorem dX12_some_16 : decode cX12_some 16 = .ok (.invokevirtual 112, 3) := by decide +kernel
theorem dX12_some_19 : decode cX12_some 19 = .ok (.ifCond .eq 25, 3) := by decide +kernel
theorem dX12_some_22 : decode cX12_some 22 = .ok (.aload_n 0, 1) := by decide +kernel
theorem dX12_some_23 : decode cX12_some 23 = .ok (.invokevirtual 244, 3) := by decide +kernel
theorem dX12_some_26 : decode cX12_some 26 = .ok (.istore_n 2, 1) := by decide +kernel
theorem dX12_some_27 : decode cX12_some 27 = .ok (.iload_n 1, 1) := by decide +kernel
theorem dX12_some_28 : decode cX12_some 28 = .ok (.ifCond .ne 7, 3) := by decide +kernel
theorem dX12_some_31 : decode cX12_some 31 = .ok (.iload_n 2, 1) := by decide +kernel
theorem dX12_some_32 : decode cX12_some 32 = .ok (.ifCond .eq 7, 3) := by decide +kernel
theorem dX12_some_35 : decode cX12_some 35 = .ok (.iconst 1, 1) := by decide +kernel
theorem dX12_some_36 : decode cX12_some 36 = .ok (.goto 4, 3) := by decide +kernel
theorem dX12_some_39 : decode cX12_some 39 = .ok (.iconst 0, 1) := by decide +kernel
theorem dX12_some_40 : decode cX12_some 40 = .ok (.istore_n 1, 1) := by decide +kernel
theorem dX12_some_41 : decode cX12_some 41 = .ok (.goto (-36), 3) := by decide +kernel
theorem dX12_some_44 : decode cX12_some 44 = .ok (.iload_n 1, 1) := by decide +kernel
theorem dX12_some_45 : decode cX12_some 45 = .ok (.ireturn, 1) := by decide +kernel
theorem dX12_lawLine_0 : decode cX12_lawLine 0 = .ok (.aload_n 0, 1) := by decide +kernel
theorem dX12_lawLine_1 : decode cX12_lawLine 1 = .ok (.ldc 249, 2) := by decide +kernel
theorem dX12_lawLine_3 : decode cX12_lawLine 3 = .ok (.invokevirtual 112, 3) := by decide +kernel
theorem dX12_lawLine_6 : decode cX12_lawLine 6 = .ok (.ifCond .eq 7, 3) := by decide +kernel
theorem dX12_lawLine_9 : decode cX12_lawLine 9 = .ok (.iconst 0, 1) := by decide +kernel
theorem dX12_lawLine_10 : decode cX12_lawLine 10 = .ok (.goto 30, 3) := by decide +kernel
theorem dX12_lawLine_13 : decode cX12_lawLine 13 = .ok (.aload_n 0, 1) := by decide +kernel
theorem dX12_lawLine_14 : decode cX12_lawLine 14 = .ok (.ldc 251, 2) := by decide +kernel
theorem dX12_lawLine_16 : decode cX12_lawLine 16 = .ok (.invokevirtual 112, 3) := by decide +kernel
theorem dX12_lawLine_19 : decode cX12_lawLine 19 = .ok (.ifCond .eq 7, 3) := by decide +kernel
theorem dX12_lawLine_22 : decode cX12_lawLine 22 = .ok (.iconst 1, 1) := by decide +kernel
theorem dX12_lawLine_23 : decode cX12_lawLine 23 = .ok (.goto 17, 3) := by decide +kernel
theorem dX12_lawLine_26 : decode cX12_lawLine 26 = .ok (.aload_n 0, 1) := by decide +kernel
theorem dX12_lawLine_27 : decode cX12_lawLine 27 = .ok (.ldc 253, 2) := by decide +kernel
theorem dX12_lawLine_29 : decode cX12_lawLine 29 = .ok (.invokevirtual 112, 3) := by decide +kernel
theorem dX12_lawLine_32 : decode cX12_lawLine 32 = .ok (.ifCond .eq 7, 3) := by decide +kernel
theorem dX12_lawLine_35 : decode cX12_lawLine 35 = .ok (.iconst 2, 1) := by decide +kernel
theorem dX12_lawLine_36 : decode cX12_lawLine 36 = .ok (.goto 4, 3) := by decide +kernel
theorem dX12_lawLine_39 : decode cX12_lawLine 39 = .ok (.iconst (-1), 1) := by decide +kernel
theorem dX12_lawLine_40 : decode cX12_lawLine 40 = .ok (.istore_n 1, 1) := by decide +kernel
theorem dX12_lawLine_41 : decode cX12_lawLine 41 = .ok (.iload_n 1, 1) := by decide +kernel
theorem dX12_lawLine_42 : decode cX12_lawLine 42 = .ok (.iconst (-1), 1) := by decide +kernel
theorem dX12_lawLine_43 : decode cX12_lawLine 43 = .ok (.if_icmp .ne 12, 3) := by decide +kernel
theorem dX12_lawLine_46 : decode cX12_lawLine 46 = .ok (.aload_n 0, 1) := by decide +kernel
theorem dX12_lawLine_47 : decode cX12_lawLine 47 = .ok (.aload_n 0, 1) := by decide +kernel
theorem dX12_lawLine_48 : decode cX12_lawLine 48 = .ok (.getfield 82, 3) := by decide +kernel
theorem dX12_lawLine_51 : decode cX12_lawLine 51 = .ok (.invokevirtual 108, 3) := by decide +kernel
theorem dX12_lawLine_54 : decode cX12_lawLine 54 = .ok (.return_, 1) := by decide +kernel
theorem dX12_lawLine_55 : decode cX12_lawLine 55 = .ok (.iload_n 1, 1) := by decide +kernel
theorem dX12_lawLine_56 : decode cX12_lawLine 56 = .ok (.iconst 2, 1) := by decide +kernel
theorem dX12_lawLine_57 : decode cX12_lawLine 57 = .ok (.if_icmp .ne 7, 3) := by decide +kernel
theorem dX12_lawLine_60 : decode cX12_lawLine 60 = .ok (.iconst 0, 1) := by decide +kernel
theorem dX12_lawLine_61 : decode cX12_lawLine 61 = .ok (.goto 10, 3) := by decide +kernel
theorem dX12_lawLine_64 : decode cX12_lawLine 64 = .ok (.aload_n 0, 1) := by decide +kernel
theorem dX12_lawLine_65 : decode cX12_lawLine 65 = .ok (.iconst 0, 1) := by decide +kernel
theorem dX12_lawLine_66 : decode cX12_lawLine 66 = .ok (.bipush 20, 2) := by decide +kernel
theorem dX12_lawLine_68 : decode cX12_lawLine 68 = .ok (.invokevirtual 116, 3) := by decide +kernel
theorem dX12_lawLine_71 : decode cX12_lawLine 71 = .ok (.istore_n 2, 1) := by decide +kernel
theorem dX12_lawLine_72 : decode cX12_lawLine 72 = .ok (.aload_n 0, 1) := by decide +kernel
theorem dX12_lawLine_73 : decode cX12_lawLine 73 = .ok (.getfield 25, 3) := by decide +kernel
theorem dX12_lawLine_76 : decode cX12_lawLine 76 = .ok (.iconst (-1), 1) := by decide +kernel
theorem dX12_lawLine_77 : decode cX12_lawLine 77 = .ok (.if_icmp .eq 4, 3) := by decide +kernel
theorem dX12_lawLine_80 : decode cX12_lawLine 80 = .ok (.return_, 1) := by decide +kernel
theorem dX12_lawLine_81 : decode cX12_lawLine 81 = .ok (.aload_n 0, 1) := by decide +kernel
theorem dX12_lawLine_82 : decode cX12_lawLine 82 = .ok (.ldc 255, 2) := by decide +kernel
theorem dX12_lawLine_84 : decode cX12_lawLine 84 = .ok (.invokevirtual 112, 3) := by decide +kernel
theorem dX12_lawLine_87 : decode cX12_lawLine 87 = .ok (.ifCond .eq 10, 3) := by decide +kernel
theorem dX12_lawLine_90 : decode cX12_lawLine 90 = .ok (.aload_n 0, 1) := by decide +kernel
theorem dX12_lawLine_91 : decode cX12_lawLine 91 = .ok (.invokevirtual 239, 3) := by decide +kernel
theorem dX12_lawLine_94 : decode cX12_lawLine 94 = .ok (.ifCond .eq 7, 3) := by decide +kernel
theorem dX12_lawLine_97 : decode cX12_lawLine 97 = .ok (.iconst 1, 1) := by decide +kernel
theorem dX12_lawLine_98 : decode cX12_lawLine 98 = .ok (.goto 4, 3) := by decide +kernel
theorem dX12_lawLine_101 : decode cX12_lawLine 101 = .ok (.iconst 0, 1) := by decide +kernel
theorem dX12_lawLine_102 : decode cX12_lawLine 102 = .ok (.istore_n 3, 1) := by decide +kernel
theorem dX12_lawLine_103 : decode cX12_lawLine 103 = .ok (.aload_n 0, 1) := by decide +kernel
theorem dX12_lawLine_104 : decode cX12_lawLine 104 = .ok (.getfield 25, 3) := by decide +kernel
theorem dX12_lawLine_107 : decode cX12_lawLine 107 = .ok (.iconst (-1), 1) := by decide +kernel
theorem dX12_lawLine_108 : decode cX12_lawLine 108 = .ok (.if_icmp .ne 7, 3) := by decide +kernel
theorem dX12_lawLine_111 : decode cX12_lawLine 111 = .ok (.iload_n 3, 1) := by decide +kernel
theorem dX12_lawLine_112 : decode cX12_lawLine 112 = .ok (.ifCond .ne 4, 3) := by decide +kernel
theorem dX12_lawLine_115 : decode cX12_lawLine 115 = .ok (.return_, 1) := by decide +kernel
theorem dX12_lawLine_116 : decode cX12_lawLine 116 = .ok (.aload_n 0, 1) := by decide +kernel
theorem dX12_lawLine_117 : decode cX12_lawLine 117 = .ok (.aload_n 0, 1) := by decide +kernel
theorem dX12_lawLine_118 : decode cX12_lawLine 118 = .ok (.getfield 257, 3) := by decide +kernel
theorem dX12_lawLine_121 : decode cX12_lawLine 121 = .ok (.ifCond .ne 8, 3) := by decide +kernel
theorem dX12_lawLine_124 : decode cX12_lawLine 124 = .ok (.iload_n 1, 1) := by decide +kernel
theorem dX12_lawLine_125 : decode cX12_lawLine 125 = .ok (.iconst 2, 1) := by decide +kernel
theorem dX12_lawLine_126 : decode cX12_lawLine 126 = .ok (.if_icmp .ne 7, 3) := by decide +kernel
theorem dX12_lawLine_129 : decode cX12_lawLine 129 = .ok (.iconst 1, 1) := by decide +kernel
theorem dX12_lawLine_130 : decode cX12_lawLine 130 = .ok (.goto 4, 3) := by decide +kernel
theorem dX12_lawLine_133 : decode cX12_lawLine 133 = .ok (.iconst 0, 1) := by decide +kernel
theorem dX12_lawLine_134 : decode cX12_lawLine 134 = .ok (.putfield 257, 3) := by decide +kernel
theorem dX12_lawLine_137 : decode cX12_lawLine 137 = .ok (.aload_n 0, 1) := by decide +kernel
theorem dX12_lawLine_138 : decode cX12_lawLine 138 = .ok (.dup, 1) := by decide +kernel
theorem dX12_lawLine_139 : decode cX12_lawLine 139 = .ok (.getfield 260, 3) := by decide +kernel
theorem dX12_lawLine_142 : decode cX12_lawLine 142 = .ok (.iload_n 1, 1) := by decide +kernel
theorem dX12_lawLine_143 : decode cX12_lawLine 143 = .ok (.ifCond .ne 8, 3) := by decide +kernel
theorem dX12_lawLine_146 : decode cX12_lawLine 146 = .ok (.iload_n 2, 1) := by decide +kernel
theorem dX12_lawLine_147 : decode cX12_lawLine 147 = .ok (.ineg, 1) := by decide +kernel
theorem dX12_lawLine_148 : decode cX12_lawLine 148 = .ok (.goto 4, 3) := by decide +kernel
theorem dX12_lawLine_151 : decode cX12_lawLine 151 = .ok (.iload_n 2, 1) := by decide +kernel
theorem dX12_lawLine_152 : decode cX12_lawLine 152 = .ok (.iadd, 1) := by decide +kernel
theorem dX12_lawLine_153 : decode cX12_lawLine 153 = .ok (.putfield 260, 3) := by decide +kernel
theorem dX12_lawLine_156 : decode cX12_lawLine 156 = .ok (.return_, 1) := by decide +kernel
theorem dX12_law_0 : decode cX12_law 0 = .ok (.aload_n 0, 1) := by decide +kernel
theorem dX12_law_1 : decode cX12_law 1 = .ok (.invokevirtual 195, 3) := by decide +kernel
theorem dX12_law_4 : decode cX12_law 4 = .ok (.aload_n 0, 1) := by decide +kernel
theorem dX12_law_5 : decode cX12_law 5 = .ok (.iconst 1, 1) := by decide +kernel
theorem dX12_law_6 : decode cX12_law 6 = .ok (.invokevirtual 198, 3) := by decide +kernel
theorem dX12_law_9 : decode cX12_law 9 = .ok (.istore_n 1, 1) := by decide +kernel
theorem dX12_law_10 : decode cX12_law 10 = .ok (.aload_n 0, 1) := by decide +kernel
theorem dX12_law_11 : decode cX12_law 11 = .ok (.aload_n 0, 1) := by decide +kernel
theorem dX12_law_12 : decode cX12_law 12 = .ok (.getfield 25, 3) := by decide +kernel
theorem dX12_law_15 : decode cX12_law 15 = .ok (.iconst (-1), 1) := by decide +kernel
theorem dX12_law_16 : decode cX12_law 16 = .ok (.if_icmp .eq 7, 3) := by decide +kernel
theorem dX12_law_19 : decode cX12_law 19 = .ok (.iconst 1, 1) := by decide +kernel
theorem dX12_law_20 : decode cX12_law 20 = .ok (.goto 4, 3) := by decide +kernel
theorem dX12_law_23 : decode cX12_law 23 = .ok (.iconst 0, 1) := by decide +kernel
theorem dX12_law_24 : decode cX12_law 24 = .ok (.putfield 58, 3) := by decide +kernel
theorem dX12_law_27 : decode cX12_law 27 = .ok (.aload_n 0, 1) := by decide +kernel
theorem dX12_law_28 : decode cX12_law 28 = .ok (.getfield 58, 3) := by decide +kernel
theorem dX12_law_31 : decode cX12_law 31 = .ok (.ifCond .le 5, 3) := by decide +kernel
theorem dX12_law_34 : decode cX12_law 34 = .ok (.iconst 0, 1) := by decide +kernel
theorem dX12_law_35 : decode cX12_law 35 = .ok (.ireturn, 1) := by decide +kernel
theorem dX12_law_36 : decode cX12_law 36 = .ok (.aload_n 0, 1) := by decide +kernel
theorem dX12_law_37 : decode cX12_law 37 = .ok (.getfield 7, 3) := by decide +kernel
theorem dX12_law_40 : decode cX12_law 40 = .ok (.iconst 1, 1) := by decide +kernel
theorem dX12_law_41 : decode cX12_law 41 = .ok (.iload_n 1, 1) := by decide +kernel
theorem dX12_law_42 : decode cX12_law 42 = .ok (.iastore, 1) := by decide +kernel
theorem dX12_law_43 : decode cX12_law 43 = .ok (.aload_n 0, 1) := by decide +kernel
theorem dX12_law_44 : decode cX12_law 44 = .ok (.getfield 7, 3) := by decide +kernel
theorem dX12_law_47 : decode cX12_law 47 = .ok (.iconst 2, 1) := by decide +kernel
theorem dX12_law_48 : decode cX12_law 48 = .ok (.aload_n 0, 1) := by decide +kernel
theorem dX12_law_49 : decode cX12_law 49 = .ok (.getfield 85, 3) := by decide +kernel
theorem dX12_law_52 : decode cX12_law 52 = .ok (.iastore, 1) := by decide +kernel
theorem dX12_law_53 : decode cX12_law 53 = .ok (.iconst 0, 1) := by decide +kernel
theorem dX12_law_54 : decode cX12_law 54 = .ok (.istore_n 2, 1) := by decide +kernel
theorem dX12_law_55 : decode cX12_law 55 = .ok (.iload_n 2, 1) := by decide +kernel
theorem dX12_law_56 : decode cX12_law 56 = .ok (.aload_n 0, 1) := by decide +kernel
theorem dX12_law_57 : decode cX12_law 57 = .ok (.getfield 85, 3) := by decide +kernel
theorem dX12_law_60 : decode cX12_law 60 = .ok (.if_icmp .ge 25, 3) := by decide +kernel
theorem dX12_law_63 : decode cX12_law 63 = .ok (.aload_n 0, 1) := by decide +kernel
theorem dX12_law_64 : decode cX12_law 64 = .ok (.getfield 7, 3) := by decide +kernel
theorem dX12_law_67 : decode cX12_law 67 = .ok (.sipush 372, 3) := by decide +kernel
theorem dX12_law_70 : decode cX12_law 70 = .ok (.iload_n 2, 1) := by decide +kernel
theorem dX12_law_71 : decode cX12_law 71 = .ok (.iadd, 1) := by decide +kernel
theorem dX12_law_72 : decode cX12_law 72 = .ok (.aload_n 0, 1) := by decide +kernel
theorem dX12_law_73 : decode cX12_law 73 = .ok (.getfield 22, 3) := by decide +kernel
theorem dX12_law_76 : decode cX12_law 76 = .ok (.iload_n 2, 1) := by decide +kernel
theorem dX12_law_77 : decode cX12_law 77 = .ok (.iaload, 1) := by decide +kernel
theorem dX12_law_78 : decode cX12_law 78 = .ok (.iastore, 1) := by decide +kernel
theorem dX12_law_79 : decode cX12_law 79 = .ok (.iinc 2 1, 3) := by decide +kernel
theorem dX12_law_82 : decode cX12_law 82 = .ok (.goto (-27), 3) := by decide +kernel
theorem dX12_law_85 : decode cX12_law 85 = .ok (.aload_n 0, 1) := by decide +kernel
theorem dX12_law_86 : decode cX12_law 86 = .ok (.iconst 0, 1) := by decide +kernel
theorem dX12_law_87 : decode cX12_law 87 = .ok (.putfield 204, 3) := by decide +kernel
theorem dX12_law_90 : decode cX12_law 90 = .ok (.iload_n 1, 1) := by decide +kernel
theorem dX12_law_91 : decode cX12_law 91 = .ok (.ireturn, 1) := by decide +kernel
theorem dX12_fault_0 : decode cX12_fault 0 = .ok (.aload_n 0, 1) := by decide +kernel
theorem dX12_fault_1 : decode cX12_fault 1 = .ok (.iconst 0, 1) := by decide +kernel
theorem dX12_fault_2 : decode cX12_fault 2 = .ok (.putfield 58, 3) := by decide +kernel
theorem dX12_fault_5 : decode cX12_fault 5 = .ok (.aload_n 0, 1) := by decide +kernel
theorem dX12_fault_6 : decode cX12_fault 6 = .ok (.getfield 25, 3) := by decide +kernel
theorem dX12_fault_9 : decode cX12_fault 9 = .ok (.ireturn, 1) := by decide +kernel
theorem dX12_strideOf_0 : decode cX12_strideOf 0 = .ok (.aload_n 0, 1) := by decide +kernel
theorem dX12_strideOf_1 : decode cX12_strideOf 1 = .ok (.iconst 0, 1) := by decide +kernel
theorem dX12_strideOf_2 : decode cX12_strideOf 2 = .ok (.putfield 257, 3) := by decide +kernel
theorem dX12_strideOf_5 : decode cX12_strideOf 5 = .ok (.aload_n 0, 1) := by decide +kernel
theorem dX12_strideOf_6 : decode cX12_strideOf 6 = .ok (.iconst 0, 1) := by decide +kernel
theorem dX12_strideOf_7 : decode cX12_strideOf 7 = .ok (.putfield 260, 3) := by decide +kernel
theorem dX12_strideOf_10 : decode cX12_strideOf 10 = .ok (.aload_n 0, 1) := by decide +kernel
theorem dX12_strideOf_11 : decode cX12_strideOf 11 = .ok (.aload_n 0, 1) := by decide +kernel
theorem dX12_strideOf_12 : decode cX12_strideOf 12 = .ok (.iload_n 1, 1) := by decide +kernel
theorem dX12_strideOf_13 : decode cX12_strideOf 13 = .ok (.iconst 0, 1) := by decide +kernel
theorem dX12_strideOf_14 : decode cX12_strideOf 14 = .ok (.invokevirtual 65, 3) := by decide +kernel
theorem dX12_strideOf_17 : decode cX12_strideOf 17 = .ok (.invokevirtual 263, 3) := by decide +kernel
theorem dX12_strideOf_20 : decode cX12_strideOf 20 = .ok (.istore_n 2, 1) := by decide +kernel
theorem dX12_strideOf_21 : decode cX12_strideOf 21 = .ok (.aload_n 0, 1) := by decide +kernel
theorem dX12_strideOf_22 : decode cX12_strideOf 22 = .ok (.getfield 7, 3) := by decide +kernel
theorem dX12_strideOf_25 : decode cX12_strideOf 25 = .ok (.iconst 1, 1) := by decide +kernel
theorem dX12_strideOf_26 : decode cX12_strideOf 26 = .ok (.iaload, 1) := by decide +kernel
theorem dX12_strideOf_27 : decode cX12_strideOf 27 = .ok (.iconst (-1), 1) := by decide +kernel
theorem dX12_strideOf_28 : decode cX12_strideOf 28 = .ok (.if_icmp .ne 25, 3) := by decide +kernel
theorem dX12_strideOf_31 : decode cX12_strideOf 31 = .ok (.iconst 0, 1) := by decide +kernel
theorem dX12_strideOf_32 : decode cX12_strideOf 32 = .ok (.aload_n 0, 1) := by decide +kernel
theorem dX12_strideOf_33 : decode cX12_strideOf 33 = .ok (.iload_n 1, 1) := by decide +kernel
theorem dX12_strideOf_34 : decode cX12_strideOf 34 = .ok (.iconst 1, 1) := by decide +kernel
theorem dX12_strideOf_35 : decode cX12_strideOf 35 = .ok (.invokevirtual 65, 3) := by decide +kernel
theorem dX12_strideOf_38 : decode cX12_strideOf 38 = .ok (.iload_n 2, 1) := by decide +kernel
theorem dX12_strideOf_39 : decode cX12_strideOf 39 = .ok (.iconst 3, 1) := by decide +kernel
theorem dX12_strideOf_40 : decode cX12_strideOf 40 = .ok (.if_icmp .ne 7, 3) := by decide +kernel
theorem dX12_strideOf_43 : decode cX12_strideOf 43 = .ok (.iconst 1, 1) := by decide +kernel
theorem dX12_strideOf_44 : decode cX12_strideOf 44 = .ok (.goto 4, 3) := by decide +kernel
theorem dX12_strideOf_47 : decode cX12_strideOf 47 = .ok (.iconst 0, 1) := by decide +kernel
theorem dX12_strideOf_48 : decode cX12_strideOf 48 = .ok (.isub, 1) := by decide +kernel
theorem dX12_strideOf_49 : decode cX12_strideOf 49 = .ok (.invokestatic 266, 3) := by decide +kernel
theorem dX12_strideOf_52 : decode cX12_strideOf 52 = .ok (.ireturn, 1) := by decide +kernel
theorem dX12_strideOf_53 : decode cX12_strideOf 53 = .ok (.aload_n 0, 1) := by decide +kernel
theorem dX12_strideOf_54 : decode cX12_strideOf 54 = .ok (.getfield 29, 3) := by decide +kernel
theorem dX12_strideOf_57 : decode cX12_strideOf 57 = .ok (.iconst 0, 1) := by decide +kernel
theorem dX12_strideOf_58 : decode cX12_strideOf 58 = .ok (.iload_n 1, 1) := by decide +kernel
theorem dX12_strideOf_59 : decode cX12_strideOf 59 = .ok (.iastore, 1) := by decide +kernel
theorem dX12_strideOf_60 : decode cX12_strideOf 60 = .ok (.aload_n 0, 1) := by decide +kernel
theorem dX12_strideOf_61 : decode cX12_strideOf 61 = .ok (.getfield 29, 3) := by decide +kernel
theorem dX12_strideOf_64 : decode cX12_strideOf 64 = .ok (.iconst 1, 1) := by decide +kernel
theorem dX12_strideOf_65 : decode cX12_strideOf 65 = .ok (.aload_n 0, 1) := by decide +kernel
theorem dX12_strideOf_66 : decode cX12_strideOf 66 = .ok (.iload_n 1, 1) := by decide +kernel
theorem dX12_strideOf_67 : decode cX12_strideOf 67 = .ok (.iconst 0, 1) := by decide +kernel
theorem dX12_strideOf_68 : decode cX12_strideOf 68 = .ok (.invokevirtual 65, 3) := by decide +kernel
theorem dX12_strideOf_71 : decode cX12_strideOf 71 = .ok (.iastore, 1) := by decide +kernel
theorem dX12_strideOf_72 : decode cX12_strideOf 72 = .ok (.aload_n 0, 1) := by decide +kernel
theorem dX12_strideOf_73 : decode cX12_strideOf 73 = .ok (.getfield 29, 3) := by decide +kernel
theorem dX12_strideOf_76 : decode cX12_strideOf 76 = .ok (.iconst 2, 1) := by decide +kernel
theorem dX12_strideOf_77 : decode cX12_strideOf 77 = .ok (.aload_n 0, 1) := by decide +kernel
theorem dX12_strideOf_78 : decode cX12_strideOf 78 = .ok (.iload_n 1, 1) := by decide +kernel
theorem dX12_strideOf_79 : decode cX12_strideOf 79 = .ok (.iconst 1, 1) := by decide +kernel
theorem dX12_strideOf_80 : decode cX12_strideOf 80 = .ok (.invokevirtual 65, 3) := by decide +kernel
theorem dX12_strideOf_83 : decode cX12_strideOf 83 = .ok (.iastore, 1) := by decide +kernel
theorem dX12_strideOf_84 : decode cX12_strideOf 84 = .ok (.aload_n 0, 1) := by decide +kernel
theorem dX12_strideOf_85 : decode cX12_strideOf 85 = .ok (.getfield 29, 3) := by decide +kernel
theorem dX12_strideOf_88 : decode cX12_strideOf 88 = .ok (.iconst 3, 1) := by decide +kernel
theorem dX12_strideOf_89 : decode cX12_strideOf 89 = .ok (.iload_n 2, 1) := by decide +kernel
theorem dX12_strideOf_90 : decode cX12_strideOf 90 = .ok (.iastore, 1) := by decide +kernel
theorem dX12_strideOf_91 : decode cX12_strideOf 91 = .ok (.aload_n 0, 1) := by decide +kernel
theorem dX12_strideOf_92 : decode cX12_strideOf 92 = .ok (.getfield 29, 3) := by decide +kernel
theorem dX12_strideOf_95 : decode cX12_strideOf 95 = .ok (.iconst 4, 1) := by decide +kernel
theorem dX12_strideOf_96 : decode cX12_strideOf 96 = .ok (.aload_n 0, 1) := by decide +kernel
theorem dX12_strideOf_97 : decode cX12_strideOf 97 = .ok (.iload_n 1, 1) := by decide +kernel
theorem dX12_strideOf_98 : decode cX12_strideOf 98 = .ok (.iconst 5, 1) := by decide +kernel
theorem dX12_strideOf_99 : decode cX12_strideOf 99 = .ok (.invokevirtual 65, 3) := by decide +kernel
theorem dX12_strideOf_102 : decode cX12_strideOf 102 = .ok (.iastore, 1) := by decide +kernel
theorem dX12_strideOf_103 : decode cX12_strideOf 103 = .ok (.aload_n 0, 1) := by decide +kernel
theorem dX12_strideOf_104 : decode cX12_strideOf 104 = .ok (.getfield 29, 3) := by decide +kernel
theorem dX12_strideOf_107 : decode cX12_strideOf 107 = .ok (.iconst 5, 1) := by decide +kernel
theorem dX12_strideOf_108 : decode cX12_strideOf 108 = .ok (.aload_n 0, 1) := by decide +kernel
theorem dX12_strideOf_109 : decode cX12_strideOf 109 = .ok (.getfield 7, 3) := by decide +kernel
theorem dX12_strideOf_112 : decode cX12_strideOf 112 = .ok (.iconst 4, 1) := by decide +kernel
theorem dX12_strideOf_113 : decode cX12_strideOf 113 = .ok (.iaload, 1) := by decide +kernel
theorem dX12_strideOf_114 : decode cX12_strideOf 114 = .ok (.iastore, 1) := by decide +kernel
theorem dX12_strideOf_115 : decode cX12_strideOf 115 = .ok (.aload_n 0, 1) := by decide +kernel
theorem dX12_strideOf_116 : decode cX12_strideOf 116 = .ok (.getfield 29, 3) := by decide +kernel
theorem dX12_strideOf_119 : decode cX12_strideOf 119 = .ok (.bipush 6, 2) := by decide +kernel
theorem dX12_strideOf_121 : decode cX12_strideOf 121 = .ok (.aload_n 0, 1) := by decide +kernel
theorem dX12_strideOf_122 : decode cX12_strideOf 122 = .ok (.iload_n 1, 1) := by decide +kernel
theorem dX12_strideOf_123 : decode cX12_strideOf 123 = .ok (.iconst 2, 1) := by decide +kernel
theorem dX12_strideOf_124 : decode cX12_strideOf 124 = .ok (.invokevirtual 65, 3) := by decide +kernel
theorem dX12_strideOf_127 : decode cX12_strideOf 127 = .ok (.iastore, 1) := by decide +kernel
theorem dX12_strideOf_128 : decode cX12_strideOf 128 = .ok (.aload_n 0, 1) := by decide +kernel
theorem dX12_strideOf_129 : decode cX12_strideOf 129 = .ok (.aload_n 0, 1) := by decide +kernel
theorem dX12_strideOf_130 : decode cX12_strideOf 130 = .ok (.iload_n 1, 1) := by decide +kernel
theorem dX12_strideOf_131 : decode cX12_strideOf 131 = .ok (.iconst 0, 1) := by decide +kernel
theorem dX12_strideOf_132 : decode cX12_strideOf 132 = .ok (.invokevirtual 65, 3) := by decide +kernel
theorem dX12_strideOf_135 : decode cX12_strideOf 135 = .ok (.iconst 4, 1) := by decide +kernel
theorem dX12_strideOf_136 : decode cX12_strideOf 136 = .ok (.irem, 1) := by decide +kernel
theorem dX12_strideOf_137 : decode cX12_strideOf 137 = .ok (.ifCond .ne 7, 3) := by decide +kernel
theorem dX12_strideOf_140 : decode cX12_strideOf 140 = .ok (.iconst 1, 1) := by decide +kernel
theorem dX12_strideOf_141 : decode cX12_strideOf 141 = .ok (.goto 4, 3) := by decide +kernel
theorem dX12_strideOf_144 : decode cX12_strideOf 144 = .ok (.iconst 0, 1) := by decide +kernel
theorem dX12_strideOf_145 : decode cX12_strideOf 145 = .ok (.putfield 218, 3) := by decide +kernel
theorem dX12_strideOf_148 : decode cX12_strideOf 148 = .ok (.aload_n 0, 1) := by decide +kernel
theorem dX12_strideOf_149 : decode cX12_strideOf 149 = .ok (.aload_n 0, 1) := by decide +kernel
theorem dX12_strideOf_150 : decode cX12_strideOf 150 = .ok (.iload_n 1, 1) := by decide +kernel
theorem dX12_strideOf_151 : decode cX12_strideOf 151 = .ok (.bipush 6, 2) := by decide +kernel
theorem dX12_strideOf_153 : decode cX12_strideOf 153 = .ok (.invokevirtual 65, 3) := by decide +kernel
theorem dX12_strideOf_156 : decode cX12_strideOf 156 = .ok (.ifCond .le 7, 3) := by decide +kernel
theorem dX12_strideOf_159 : decode cX12_strideOf 159 = .ok (.iconst 1, 1) := by decide +kernel
theorem dX12_strideOf_160 : decode cX12_strideOf 160 = .ok (.goto 4, 3) := by decide +kernel
theorem dX12_strideOf_163 : decode cX12_strideOf 163 = .ok (.iconst 0, 1) := by decide +kernel
theorem dX12_strideOf_164 : decode cX12_strideOf 164 = .ok (.putfield 224, 3) := by decide +kernel
theorem dX12_strideOf_167 : decode cX12_strideOf 167 = .ok (.aload_n 0, 1) := by decide +kernel
theorem dX12_strideOf_168 : decode cX12_strideOf 168 = .ok (.getfield 25, 3) := by decide +kernel
theorem dX12_strideOf_171 : decode cX12_strideOf 171 = .ok (.istore_n 3, 1) := by decide +kernel
theorem dX12_strideOf_172 : decode cX12_strideOf 172 = .ok (.aload_n 0, 1) := by decide +kernel
theorem dX12_strideOf_173 : decode cX12_strideOf 173 = .ok (.iconst (-1), 1) := by decide +kernel
theorem dX12_strideOf_174 : decode cX12_strideOf 174 = .ok (.putfield 25, 3) := by decide +kernel
theorem dX12_strideOf_177 : decode cX12_strideOf 177 = .ok (.aload_n 0, 1) := by decide +kernel
theorem dX12_strideOf_178 : decode cX12_strideOf 178 = .ok (.sipush 372, 3) := by decide +kernel
theorem dX12_strideOf_181 : decode cX12_strideOf 181 = .ok (.putfield 79, 3) := by decide +kernel
theorem dX12_strideOf_184 : decode cX12_strideOf 184 = .ok (.aload_n 0, 1) := by decide +kernel
theorem dX12_strideOf_185 : decode cX12_strideOf 185 = .ok (.aload_n 0, 1) := by decide +kernel
theorem dX12_strideOf_186 : decode cX12_strideOf 186 = .ok (.getfield 7, 3) := by decide +kernel
theorem dX12_strideOf_189 : decode cX12_strideOf 189 = .ok (.iconst 1, 1) := by decide +kernel
theorem dX12_strideOf_190 : decode cX12_strideOf 190 = .ok (.iaload, 1) := by decide +kernel
theorem dX12_strideOf_191 : decode cX12_strideOf 191 = .ok (.ifCond .ne 7, 3) := by decide +kernel
theorem dX12_strideOf_194 : decode cX12_strideOf 194 = .ok (.iconst 0, 1) := by decide +kernel
theorem dX12_strideOf_195 : decode cX12_strideOf 195 = .ok (.goto 9, 3) := by decide +kernel
theorem dX12_strideOf_198 : decode cX12_strideOf 198 = .ok (.aload_n 0, 1) := by decide +kernel
theorem dX12_strideOf_199 : decode cX12_strideOf 199 = .ok (.getfield 7, 3) := by decide +kernel
theorem dX12_strideOf_202 : decode cX12_strideOf 202 = .ok (.iconst 2, 1) := by decide +kernel
theorem dX12_strideOf_203 : decode cX12_strideOf 203 = .ok (.iaload, 1) := by decide +kernel
theorem dX12_strideOf_204 : decode cX12_strideOf 204 = .ok (.putfield 85, 3) := by decide +kernel
theorem dX12_strideOf_207 : decode cX12_strideOf 207 = .ok (.aload_n 0, 1) := by decide +kernel
theorem dX12_strideOf_208 : decode cX12_strideOf 208 = .ok (.iconst 0, 1) := by decide +kernel
theorem dX12_strideOf_209 : decode cX12_strideOf 209 = .ok (.putfield 82, 3) := by decide +kernel
theorem dX12_strideOf_212 : decode cX12_strideOf 212 = .ok (.aload_n 0, 1) := by decide +kernel
theorem dX12_strideOf_213 : decode cX12_strideOf 213 = .ok (.iconst 0, 1) := by decide +kernel
theorem dX12_strideOf_214 : decode cX12_strideOf 214 = .ok (.putfield 180, 3) := by decide +kernel
theorem dX12_strideOf_217 : decode cX12_strideOf 217 = .ok (.aload_n 0, 1) := by decide +kernel
theorem dX12_strideOf_218 : decode cX12_strideOf 218 = .ok (.iconst 1, 1) := by decide +kernel
theorem dX12_strideOf_219 : decode cX12_strideOf 219 = .ok (.invokevirtual 198, 3) := by decide +kernel
theorem dX12_strideOf_222 : decode cX12_strideOf 222 = .ok (.istore 4, 2) := by decide +kernel
theorem dX12_strideOf_224 : decode cX12_strideOf 224 = .ok (.aload_n 0, 1) := by decide +kernel
theorem dX12_strideOf_225 : decode cX12_strideOf 225 = .ok (.iload_n 3, 1) := by decide +kernel
theorem dX12_strideOf_226 : decode cX12_strideOf 226 = .ok (.putfield 25, 3) := by decide +kernel
theorem dX12_strideOf_229 : decode cX12_strideOf 229 = .ok (.aload_n 0, 1) := by decide +kernel
theorem dX12_strideOf_230 : decode cX12_strideOf 230 = .ok (.getfield 257, 3) := by decide +kernel
theorem dX12_strideOf_233 : decode cX12_strideOf 233 = .ok (.ifCond .eq 7, 3) := by decide +kernel
theorem dX12_strideOf_236 : decode cX12_strideOf 236 = .ok (.iconst 0, 1) := by decide +kernel
theorem dX12_strideOf_237 : decode cX12_strideOf 237 = .ok (.goto 23, 3) := by decide +kernel
theorem dX12_strideOf_240 : decode cX12_strideOf 240 = .ok (.iconst 0, 1) := by decide +kernel
theorem dX12_strideOf_241 : decode cX12_strideOf 241 = .ok (.bipush 15, 2) := by decide +kernel
theorem dX12_strideOf_243 : decode cX12_strideOf 243 = .ok (.aload_n 0, 1) := by decide +kernel
theorem dX12_strideOf_244 : decode cX12_strideOf 244 = .ok (.iload_n 1, 1) := by decide +kernel
theorem dX12_strideOf_245 : decode cX12_strideOf 245 = .ok (.iconst 1, 1) := by decide +kernel
theorem dX12_strideOf_246 : decode cX12_strideOf 246 = .ok (.invokevirtual 65, 3) := by decide +kernel
theorem dX12_strideOf_249 : decode cX12_strideOf 249 = .ok (.aload_n 0, 1) := by decide +kernel
theorem dX12_strideOf_250 : decode cX12_strideOf 250 = .ok (.getfield 260, 3) := by decide +kernel
theorem dX12_strideOf_253 : decode cX12_strideOf 253 = .ok (.iadd, 1) := by decide +kernel
theorem dX12_strideOf_254 : decode cX12_strideOf 254 = .ok (.invokestatic 73, 3) := by decide +kernel
theorem dX12_strideOf_257 : decode cX12_strideOf 257 = .ok (.invokestatic 266, 3) := by decide +kernel
theorem dX12_strideOf_260 : decode cX12_strideOf 260 = .ok (.ireturn, 1) := by decide +kernel
theorem dX12_draw_0 : decode cX12_draw 0 = .ok (.aload_n 0, 1) := by decide +kernel
theorem dX12_draw_1 : decode cX12_draw 1 = .ok (.getfield 7, 3) := by decide +kernel
theorem dX12_draw_4 : decode cX12_draw 4 = .ok (.bipush 11, 2) := by decide +kernel
theorem dX12_draw_6 : decode cX12_draw 6 = .ok (.ldc_w 269, 3) := by decide +kernel
theorem dX12_draw_9 : decode cX12_draw 9 = .ok (.aload_n 0, 1) := by decide +kernel
theorem dX12_draw_10 : decode cX12_draw 10 = .ok (.getfield 7, 3) := by decide +kernel
theorem dX12_draw_13 : decode cX12_draw 13 = .ok (.bipush 11, 2) := by decide +kernel
theorem dX12_draw_15 : decode cX12_draw 15 = .ok (.iaload, 1) := by decide +kernel
theorem dX12_draw_16 : decode cX12_draw 16 = .ok (.imul, 1) := by decide +kernel
theorem dX12_draw_17 : decode cX12_draw 17 = .ok (.sipush 12345, 3) := by decide +kernel
theorem dX12_draw_20 : decode cX12_draw 20 = .ok (.iadd, 1) := by decide +kernel
theorem dX12_draw_21 : decode cX12_draw 21 = .ok (.iastore, 1) := by decide +kernel
theorem dX12_draw_22 : decode cX12_draw 22 = .ok (.aload_n 0, 1) := by decide +kernel
theorem dX12_draw_23 : decode cX12_draw 23 = .ok (.getfield 7, 3) := by decide +kernel
theorem dX12_draw_26 : decode cX12_draw 26 = .ok (.bipush 11, 2) := by decide +kernel
theorem dX12_draw_28 : decode cX12_draw 28 = .ok (.iaload, 1) := by decide +kernel
theorem dX12_draw_29 : decode cX12_draw 29 = .ok (.bipush 16, 2) := by decide +kernel
theorem dX12_draw_31 : decode cX12_draw 31 = .ok (.iushr, 1) := by decide +kernel
theorem dX12_draw_32 : decode cX12_draw 32 = .ok (.sipush 32767, 3) := by decide +kernel
theorem dX12_draw_35 : decode cX12_draw 35 = .ok (.iand, 1) := by decide +kernel
theorem dX12_draw_36 : decode cX12_draw 36 = .ok (.iload_n 1, 1) := by decide +kernel
theorem dX12_draw_37 : decode cX12_draw 37 = .ok (.irem, 1) := by decide +kernel
theorem dX12_draw_38 : decode cX12_draw 38 = .ok (.ireturn, 1) := by decide +kernel
theorem dX12_logs_0 : decode cX12_logs 0 = .ok (.sipush 299, 3) := by decide +kernel
theorem dX12_logs_3 : decode cX12_logs 3 = .ok (.istore_n 3, 1) := by decide +kernel
theorem dX12_logs_4 : decode cX12_logs 4 = .ok (.iload_n 3, 1) := by decide +kernel
theorem dX12_logs_5 : decode cX12_logs 5 = .ok (.iconst 5, 1) := by decide +kernel
theorem dX12_logs_6 : decode cX12_logs 6 = .ok (.if_icmp .lt 29, 3) := by decide +kernel
theorem dX12_logs_9 : decode cX12_logs 9 = .ok (.aload_n 0, 1) := by decide +kernel
theorem dX12_logs_10 : decode cX12_logs 10 = .ok (.getfield 7, 3) := by decide +kernel
theorem dX12_logs_13 : decode cX12_logs 13 = .ok (.bipush 72, 2) := by decide +kernel
theorem dX12_logs_15 : decode cX12_logs 15 = .ok (.iload_n 3, 1) := by decide +kernel
theorem dX12_logs_16 : decode cX12_logs 16 = .ok (.iadd, 1) := by decide +kernel
theorem dX12_logs_17 : decode cX12_logs 17 = .ok (.aload_n 0, 1) := by decide +kernel
theorem dX12_logs_18 : decode cX12_logs 18 = .ok (.getfield 7, 3) := by decide +kernel
theorem dX12_logs_21 : decode cX12_logs 21 = .ok (.bipush 72, 2) := by decide +kernel
theorem dX12_logs_23 : decode cX12_logs 23 = .ok (.iload_n 3, 1) := by decide +kernel
theorem dX12_logs_24 : decode cX12_logs 24 = .ok (.iadd, 1) := by decide +kernel
theorem dX12_logs_25 : decode cX12_logs 25 = .ok (.iconst 5, 1) := by decide +kernel
theorem dX12_logs_26 : decode cX12_logs 26 = .ok (.isub, 1) := by decide +kernel
theorem dX12_logs_27 : decode cX12_logs 27 = .ok (.iaload, 1) := by decide +kernel
theorem dX12_logs_28 : decode cX12_logs 28 = .ok (.iastore, 1) := by decide +kernel
theorem dX12_logs_29 : decode cX12_logs 29 = .ok (.iinc 3 (-1), 3) := by decide +kernel
theorem dX12_logs_32 : decode cX12_logs 32 = .ok (.goto (-28), 3) := by decide +kernel
theorem dX12_logs_35 : decode cX12_logs 35 = .ok (.aload_n 0, 1) := by decide +kernel
theorem dX12_logs_36 : decode cX12_logs 36 = .ok (.getfield 7, 3) := by decide +kernel
theorem dX12_logs_39 : decode cX12_logs 39 = .ok (.bipush 72, 2) := by decide +kernel
theorem dX12_logs_41 : decode cX12_logs 41 = .ok (.aload_n 0, 1) := by decide +kernel
theorem dX12_logs_42 : decode cX12_logs 42 = .ok (.getfield 7, 3) := by decide +kernel
theorem dX12_logs_45 : decode cX12_logs 45 = .ok (.iconst 5, 1) := by decide +kernel
theorem dX12_logs_46 : decode cX12_logs 46 = .ok (.iaload, 1) := by decide +kernel
theorem dX12_logs_47 : decode cX12_logs 47 = .ok (.iastore, 1) := by decide +kernel
theorem dX12_logs_48 : decode cX12_logs 48 = .ok (.aload_n 0, 1) := by decide +kernel
theorem dX12_logs_49 : decode cX12_logs 49 = .ok (.getfield 7, 3) := by decide +kernel
theorem dX12_logs_52 : decode cX12_logs 52 = .ok (.bipush 73, 2) := by decide +kernel
theorem dX12_logs_54 : decode cX12_logs 54 = .ok (.aload_n 0, 1) := by decide +kernel
theorem dX12_logs_55 : decode cX12_logs 55 = .ok (.getfield 7, 3) := by decide +kernel
theorem dX12_logs_58 : decode cX12_logs 58 = .ok (.iconst 4, 1) := by decide +kernel
theorem dX12_logs_59 : decode cX12_logs 59 = .ok (.iaload, 1) := by decide +kernel
theorem dX12_logs_60 : decode cX12_logs 60 = .ok (.iastore, 1) := by decide +kernel
theorem dX12_logs_61 : decode cX12_logs 61 = .ok (.aload_n 0, 1) := by decide +kernel
theorem dX12_logs_62 : decode cX12_logs 62 = .ok (.getfield 7, 3) := by decide +kernel
theorem dX12_logs_65 : decode cX12_logs 65 = .ok (.bipush 74, 2) := by decide +kernel
theorem dX12_logs_67 : decode cX12_logs 67 = .ok (.iload_n 1, 1) := by decide +kernel
theorem dX12_logs_68 : decode cX12_logs 68 = .ok (.iastore, 1) := by decide +kernel
theorem dX12_logs_69 : decode cX12_logs 69 = .ok (.aload_n 0, 1) := by decide +kernel
theorem dX12_logs_70 : decode cX12_logs 70 = .ok (.getfield 7, 3) := by decide +kernel
theorem dX12_logs_73 : decode cX12_logs 73 = .ok (.bipush 75, 2) := by decide +kernel
theorem dX12_logs_75 : decode cX12_logs 75 = .ok (.iload_n 2, 1) := by decide +kernel
theorem dX12_logs_76 : decode cX12_logs 76 = .ok (.iastore, 1) := by decide +kernel
theorem dX12_logs_77 : decode cX12_logs 77 = .ok (.aload_n 0, 1) := by decide +kernel
theorem dX12_logs_78 : decode cX12_logs 78 = .ok (.getfield 7, 3) := by decide +kernel
theorem dX12_logs_81 : decode cX12_logs 81 = .ok (.bipush 76, 2) := by decide +kernel
theorem dX12_logs_83 : decode cX12_logs 83 = .ok (.aload_n 0, 1) := by decide +kernel
theorem dX12_logs_84 : decode cX12_logs 84 = .ok (.iload_n 2, 1) := by decide +kernel
theorem dX12_logs_85 : decode cX12_logs 85 = .ok (.iconst 0, 1) := by decide +kernel
theorem dX12_logs_86 : decode cX12_logs 86 = .ok (.invokevirtual 65, 3) := by decide +kernel
theorem dX12_logs_89 : decode cX12_logs 89 = .ok (.iastore, 1) := by decide +kernel
theorem dX12_logs_90 : decode cX12_logs 90 = .ok (.aload_n 0, 1) := by decide +kernel
theorem dX12_logs_91 : decode cX12_logs 91 = .ok (.getfield 7, 3) := by decide +kernel
theorem dX12_logs_94 : decode cX12_logs 94 = .ok (.bipush 10, 2) := by decide +kernel
theorem dX12_logs_96 : decode cX12_logs 96 = .ok (.bipush 60, 2) := by decide +kernel
theorem dX12_logs_98 : decode cX12_logs 98 = .ok (.aload_n 0, 1) := by decide +kernel
theorem dX12_logs_99 : decode cX12_logs 99 = .ok (.getfield 7, 3) := by decide +kernel
theorem dX12_logs_102 : decode cX12_logs 102 = .ok (.bipush 10, 2) := by decide +kernel
theorem dX12_logs_104 : decode cX12_logs 104 = .ok (.iaload, 1) := by decide +kernel
theorem dX12_logs_105 : decode cX12_logs 105 = .ok (.iconst 1, 1) := by decide +kernel
theorem dX12_logs_106 : decode cX12_logs 106 = .ok (.iadd, 1) := by decide +kernel
theorem dX12_logs_107 : decode cX12_logs 107 = .ok (.invokestatic 73, 3) := by decide +kernel
theorem dX12_logs_110 : decode cX12_logs 110 = .ok (.iastore, 1) := by decide +kernel
theorem dX12_logs_111 : decode cX12_logs 111 = .ok (.return_, 1) := by decide +kernel
theorem dX12_walks_0 : decode cX12_walks 0 = .ok (.aload_n 0, 1) := by decide +kernel
theorem dX12_walks_1 : decode cX12_walks 1 = .ok (.iload_n 1, 1) := by decide +kernel
theorem dX12_walks_2 : decode cX12_walks 2 = .ok (.invokevirtual 69, 3) := by decide +kernel
theorem dX12_walks_5 : decode cX12_walks 5 = .ok (.ifCond .eq 18, 3) := by decide +kernel
theorem dX12_walks_8 : decode cX12_walks 8 = .ok (.aload_n 0, 1) := by decide +kernel
theorem dX12_walks_9 : decode cX12_walks 9 = .ok (.iload_n 1, 1) := by decide +kernel
theorem dX12_walks_10 : decode cX12_walks 10 = .ok (.iconst 4, 1) := by decide +kernel
theorem dX12_walks_11 : decode cX12_walks 11 = .ok (.aload_n 0, 1) := by decide +kernel
theorem dX12_walks_12 : decode cX12_walks 12 = .ok (.iload_n 1, 1) := by decide +kernel
theorem dX12_walks_13 : decode cX12_walks 13 = .ok (.iconst 4, 1) := by decide +kernel
theorem dX12_walks_14 : decode cX12_walks 14 = .ok (.invokevirtual 65, 3) := by decide +kernel
theorem dX12_walks_17 : decode cX12_walks 17 = .ok (.iconst 1, 1) := by decide +kernel
theorem dX12_walks_18 : decode cX12_walks 18 = .ok (.isub, 1) := by decide +kernel
theorem dX12_walks_19 : decode cX12_walks 19 = .ok (.invokevirtual 140, 3) := by decide +kernel
theorem dX12_walks_22 : decode cX12_walks 22 = .ok (.return_, 1) := by decide +kernel
theorem dX12_walks_23 : decode cX12_walks 23 = .ok (.aload_n 0, 1) := by decide +kernel
theorem dX12_walks_24 : decode cX12_walks 24 = .ok (.iload_n 1, 1) := by decide +kernel
theorem dX12_walks_25 : decode cX12_walks 25 = .ok (.iconst 0, 1) := by decide +kernel
theorem dX12_walks_26 : decode cX12_walks 26 = .ok (.invokevirtual 65, 3) := by decide +kernel
theorem dX12_walks_29 : decode cX12_walks 29 = .ok (.aload_n 0, 1) := by decide +kernel
theorem dX12_walks_30 : decode cX12_walks 30 = .ok (.iload_n 1, 1) := by decide +kernel
theorem dX12_walks_31 : decode cX12_walks 31 = .ok (.invokevirtual 270, 3) := by decide +kernel
theorem dX12_walks_34 : decode cX12_walks 34 = .ok (.iadd, 1) := by decide +kernel
theorem dX12_walks_35 : decode cX12_walks 35 = .ok (.istore_n 2, 1) := by decide +kernel
theorem dX12_walks_36 : decode cX12_walks 36 = .ok (.aload_n 0, 1) := by decide +kernel
theorem dX12_walks_37 : decode cX12_walks 37 = .ok (.iload_n 1, 1) := by decide +kernel
theorem dX12_walks_38 : decode cX12_walks 38 = .ok (.iconst 0, 1) := by decide +kernel
theorem dX12_walks_39 : decode cX12_walks 39 = .ok (.iload_n 2, 1) := by decide +kernel
theorem dX12_walks_40 : decode cX12_walks 40 = .ok (.bipush 16, 2) := by decide +kernel
theorem dX12_walks_42 : decode cX12_walks 42 = .ok (.irem, 1) := by decide +kernel
theorem dX12_walks_43 : decode cX12_walks 43 = .ok (.invokevirtual 140, 3) := by decide +kernel
theorem dX12_walks_46 : decode cX12_walks 46 = .ok (.iload_n 2, 1) := by decide +kernel
theorem dX12_walks_47 : decode cX12_walks 47 = .ok (.bipush 16, 2) := by decide +kernel
theorem dX12_walks_49 : decode cX12_walks 49 = .ok (.if_icmp .ge 4, 3) := by decide +kernel
theorem dX12_walks_52 : decode cX12_walks 52 = .ok (.return_, 1) := by decide +kernel
theorem dX12_walks_53 : decode cX12_walks 53 = .ok (.aload_n 0, 1) := by decide +kernel
theorem dX12_walks_54 : decode cX12_walks 54 = .ok (.iload_n 1, 1) := by decide +kernel
theorem dX12_walks_55 : decode cX12_walks 55 = .ok (.bipush 7, 2) := by decide +kernel
theorem dX12_walks_57 : decode cX12_walks 57 = .ok (.sipush 999, 3) := by decide +kernel
theorem dX12_walks_60 : decode cX12_walks 60 = .ok (.aload_n 0, 1) := by decide +kernel
theorem dX12_walks_61 : decode cX12_walks 61 = .ok (.iload_n 1, 1) := by decide +kernel
theorem dX12_walks_62 : decode cX12_walks 62 = .ok (.bipush 7, 2) := by decide +kernel
theorem dX12_walks_64 : decode cX12_walks 64 = .ok (.invokevirtual 65, 3) := by decide +kernel
theorem dX12_walks_67 : decode cX12_walks 67 = .ok (.iconst 1, 1) := by decide +kernel
theorem dX12_walks_68 : decode cX12_walks 68 = .ok (.iadd, 1) := by decide +kernel
theorem dX12_walks_69 : decode cX12_walks 69 = .ok (.invokestatic 73, 3) := by decide +kernel
theorem dX12_walks_72 : decode cX12_walks 72 = .ok (.invokevirtual 140, 3) := by decide +kernel
theorem dX12_walks_75 : decode cX12_walks 75 = .ok (.aload_n 0, 1) := by decide +kernel
theorem dX12_walks_76 : decode cX12_walks 76 = .ok (.iconst 1, 1) := by decide +kernel
theorem dX12_walks_77 : decode cX12_walks 77 = .ok (.iload_n 1, 1) := by decide +kernel
theorem dX12_walks_78 : decode cX12_walks 78 = .ok (.invokevirtual 273, 3) := by decide +kernel
theorem dX12_walks_81 : decode cX12_walks 81 = .ok (.return_, 1) := by decide +kernel
theorem dX12_eats_0 : decode cX12_eats 0 = .ok (.aload_n 0, 1) := by decide +kernel
theorem dX12_eats_1 : decode cX12_eats 1 = .ok (.iload_n 1, 1) := by decide +kernel
theorem dX12_eats_2 : decode cX12_eats 2 = .ok (.invokevirtual 69, 3) := by decide +kernel
theorem dX12_eats_5 : decode cX12_eats 5 = .ok (.ifCond .eq 4, 3) := by decide +kernel
theorem dX12_eats_8 : decode cX12_eats 8 = .ok (.return_, 1) := by decide +kernel
theorem dX12_eats_9 : decode cX12_eats 9 = .ok (.bipush 12, 2) := by decide +kernel
theorem dX12_eats_11 : decode cX12_eats 11 = .ok (.aload_n 0, 1) := by decide +kernel
theorem dX12_eats_12 : decode cX12_eats 12 = .ok (.iload_n 1, 1) := by decide +kernel
theorem dX12_eats_13 : decode cX12_eats 13 = .ok (.iconst 0, 1) := by decide +kernel
theorem dX12_eats_14 : decode cX12_eats 14 = .ok (.invokevirtual 65, 3) := by decide +kernel
theorem dX12_eats_17 : decode cX12_eats 17 = .ok (.iconst 4, 1) := by decide +kernel
theorem dX12_eats_18 : decode cX12_eats 18 = .ok (.idiv, 1) := by decide +kernel
theorem dX12_eats_19 : decode cX12_eats 19 = .ok (.iadd, 1) := by decide +kernel
theorem dX12_eats_20 : decode cX12_eats 20 = .ok (.istore_n 2, 1) := by decide +kernel
theorem dX12_eats_21 : decode cX12_eats 21 = .ok (.aload_n 0, 1) := by decide +kernel
theorem dX12_eats_22 : decode cX12_eats 22 = .ok (.iload_n 1, 1) := by decide +kernel
theorem dX12_eats_23 : decode cX12_eats 23 = .ok (.bipush 6, 2) := by decide +kernel
theorem dX12_eats_25 : decode cX12_eats 25 = .ok (.aload_n 0, 1) := by decide +kernel
theorem dX12_eats_26 : decode cX12_eats 26 = .ok (.getfield 7, 3) := by decide +kernel
theorem dX12_eats_29 : decode cX12_eats 29 = .ok (.iload_n 2, 1) := by decide +kernel
theorem dX12_eats_30 : decode cX12_eats 30 = .ok (.iaload, 1) := by decide +kernel
theorem dX12_eats_31 : decode cX12_eats 31 = .ok (.ifCond .le 7, 3) := by decide +kernel
theorem dX12_eats_34 : decode cX12_eats 34 = .ok (.iconst 0, 1) := by decide +kernel
theorem dX12_eats_35 : decode cX12_eats 35 = .ok (.goto 17, 3) := by decide +kernel
theorem dX12_eats_38 : decode cX12_eats 38 = .ok (.bipush 99, 2) := by decide +kernel
theorem dX12_eats_40 : decode cX12_eats 40 = .ok (.aload_n 0, 1) := by decide +kernel
theorem dX12_eats_41 : decode cX12_eats 41 = .ok (.iload_n 1, 1) := by decide +kernel
theorem dX12_eats_42 : decode cX12_eats 42 = .ok (.bipush 6, 2) := by decide +kernel
theorem dX12_eats_44 : decode cX12_eats 44 = .ok (.invokevirtual 65, 3) := by decide +kernel
theorem dX12_eats_47 : decode cX12_eats 47 = .ok (.iconst 1, 1) := by decide +kernel
theorem dX12_eats_48 : decode cX12_eats 48 = .ok (.iadd, 1) := by decide +kernel
theorem dX12_eats_49 : decode cX12_eats 49 = .ok (.invokestatic 73, 3) := by decide +kernel
theorem dX12_eats_52 : decode cX12_eats 52 = .ok (.invokevirtual 140, 3) := by decide +kernel
theorem dX12_eats_55 : decode cX12_eats 55 = .ok (.aload_n 0, 1) := by decide +kernel
theorem dX12_eats_56 : decode cX12_eats 56 = .ok (.getfield 7, 3) := by decide +kernel
theorem dX12_eats_59 : decode cX12_eats 59 = .ok (.iload_n 2, 1) := by decide +kernel
theorem dX12_eats_60 : decode cX12_eats 60 = .ok (.iconst 0, 1) := by decide +kernel
theorem dX12_eats_61 : decode cX12_eats 61 = .ok (.aload_n 0, 1) := by decide +kernel
theorem dX12_eats_62 : decode cX12_eats 62 = .ok (.getfield 7, 3) := by decide +kernel
theorem dX12_eats_65 : decode cX12_eats 65 = .ok (.iload_n 2, 1) := by decide +kernel
theorem dX12_eats_66 : decode cX12_eats 66 = .ok (.iaload, 1) := by decide +kernel
theorem dX12_eats_67 : decode cX12_eats 67 = .ok (.iconst 1, 1) := by decide +kernel
theorem dX12_eats_68 : decode cX12_eats 68 = .ok (.isub, 1) := by decide +kernel
theorem dX12_eats_69 : decode cX12_eats 69 = .ok (.invokestatic 266, 3) := by decide +kernel
theorem dX12_eats_72 : decode cX12_eats 72 = .ok (.iastore, 1) := by decide +kernel
theorem dX12_eats_73 : decode cX12_eats 73 = .ok (.return_, 1) := by decide +kernel
theorem dX12_office_0 : decode cX12_office 0 = .ok (.iconst 0, 1) := by decide +kernel
theorem dX12_office_1 : decode cX12_office 1 = .ok (.istore_n 1, 1) := by decide +kernel
theorem dX12_office_2 : decode cX12_office 2 = .ok (.iconst 0, 1) := by decide +kernel
theorem dX12_office_3 : decode cX12_office 3 = .ok (.istore_n 2, 1) := by decide +kernel
theorem dX12_office_4 : decode cX12_office 4 = .ok (.iload_n 2, 1) := by decide +kernel
theorem dX12_office_5 : decode cX12_office 5 = .ok (.aload_n 0, 1) := by decide +kernel
theorem dX12_office_6 : decode cX12_office 6 = .ok (.getfield 7, 3) := by decide +kernel
theorem dX12_office_9 : decode cX12_office 9 = .ok (.iconst 3, 1) := by decide +kernel
theorem dX12_office_10 : decode cX12_office 10 = .ok (.iaload, 1) := by decide +kernel
theorem dX12_office_11 : decode cX12_office 11 = .ok (.if_icmp .ge 59, 3) := by decide +kernel
theorem dX12_office_14 : decode cX12_office 14 = .ok (.aload_n 0, 1) := by decide +kernel
theorem dX12_office_15 : decode cX12_office 15 = .ok (.iload_n 2, 1) := by decide +kernel
theorem dX12_office_16 : decode cX12_office 16 = .ok (.invokevirtual 277, 3) := by decide +kernel
theorem dX12_office_19 : decode cX12_office 19 = .ok (.ifCond .eq 6, 3) := by decide +kernel
theorem dX12_office_22 : decode cX12_office 22 = .ok (.goto 42, 3) := by decide +kernel
theorem dX12_office_25 : decode cX12_office 25 = .ok (.aload_n 0, 1) := by decide +kernel
theorem dX12_office_26 : decode cX12_office 26 = .ok (.iload_n 2, 1) := by decide +kernel
theorem dX12_office_27 : decode cX12_office 27 = .ok (.iconst 5, 1) := by decide +kernel
theorem dX12_office_28 : decode cX12_office 28 = .ok (.sipush 999, 3) := by decide +kernel
theorem dX12_office_31 : decode cX12_office 31 = .ok (.aload_n 0, 1) := by decide +kernel
theorem dX12_office_32 : decode cX12_office 32 = .ok (.iload_n 2, 1) := by decide +kernel
theorem dX12_office_33 : decode cX12_office 33 = .ok (.iconst 5, 1) := by decide +kernel
theorem dX12_office_34 : decode cX12_office 34 = .ok (.invokevirtual 65, 3) := by decide +kernel
theorem dX12_office_37 : decode cX12_office 37 = .ok (.iconst 1, 1) := by decide +kernel
theorem dX12_office_38 : decode cX12_office 38 = .ok (.iadd, 1) := by decide +kernel
theorem dX12_office_39 : decode cX12_office 39 = .ok (.invokestatic 73, 3) := by decide +kernel
theorem dX12_office_42 : decode cX12_office 42 = .ok (.invokevirtual 140, 3) := by decide +kernel
theorem dX12_office_45 : decode cX12_office 45 = .ok (.aload_n 0, 1) := by decide +kernel
theorem dX12_office_46 : decode cX12_office 46 = .ok (.getfield 32, 3) := by decide +kernel
theorem dX12_office_49 : decode cX12_office 49 = .ok (.iload_n 2, 1) := by decide +kernel
theorem dX12_office_50 : decode cX12_office 50 = .ok (.dup2, 1) := by decide +kernel
theorem dX12_office_51 : decode cX12_office 51 = .ok (.iaload, 1) := by decide +kernel
theorem dX12_office_52 : decode cX12_office 52 = .ok (.iconst 1, 1) := by decide +kernel
theorem dX12_office_53 : decode cX12_office 53 = .ok (.iadd, 1) := by decide +kernel
theorem dX12_office_54 : decode cX12_office 54 = .ok (.iastore, 1) := by decide +kernel
theorem dX12_office_55 : decode cX12_office 55 = .ok (.aload_n 0, 1) := by decide +kernel
theorem dX12_office_56 : decode cX12_office 56 = .ok (.iconst 0, 1) := by decide +kernel
theorem dX12_office_57 : decode cX12_office 57 = .ok (.iload_n 2, 1) := by decide +kernel
theorem dX12_office_58 : decode cX12_office 58 = .ok (.invokevirtual 273, 3) := by decide +kernel
theorem dX12_office_61 : decode cX12_office 61 = .ok (.iinc 1 1, 3) := by decide +kernel
theorem dX12_office_64 : decode cX12_office 64 = .ok (.iinc 2 1, 3) := by decide +kernel
theorem dX12_office_67 : decode cX12_office 67 = .ok (.goto (-63), 3) := by decide +kernel
theorem dX12_office_70 : decode cX12_office 70 = .ok (.iload_n 1, 1) := by decide +kernel
theorem dX12_office_71 : decode cX12_office 71 = .ok (.ireturn, 1) := by decide +kernel
theorem dX12_passes_0 : decode cX12_passes 0 = .ok (.iconst 0, 1) := by decide +kernel
theorem dX12_passes_1 : decode cX12_passes 1 = .ok (.istore_n 2, 1) := by decide +kernel
theorem dX12_passes_2 : decode cX12_passes 2 = .ok (.iload_n 2, 1) := by decide +kernel
theorem dX12_passes_3 : decode cX12_passes 3 = .ok (.aload_n 0, 1) := by decide +kernel
theorem dX12_passes_4 : decode cX12_passes 4 = .ok (.getfield 7, 3) := by decide +kernel
theorem dX12_passes_7 : decode cX12_passes 7 = .ok (.iconst 3, 1) := by decide +kernel
theorem dX12_passes_8 : decode cX12_passes 8 = .ok (.iaload, 1) := by decide +kernel
theorem dX12_passes_9 : decode cX12_passes 9 = .ok (.if_icmp .ge 14, 3) := by decide +kernel
theorem dX12_passes_12 : decode cX12_passes 12 = .ok (.aload_n 0, 1) := by decide +kernel
theorem dX12_passes_13 : decode cX12_passes 13 = .ok (.iload_n 2, 1) := by decide +kernel
theorem dX12_passes_14 : decode cX12_passes 14 = .ok (.invokevirtual 280, 3) := by decide +kernel
theorem dX12_passes_17 : decode cX12_passes 17 = .ok (.iinc 2 1, 3) := by decide +kernel
theorem dX12_passes_20 : decode cX12_passes 20 = .ok (.goto (-18), 3) := by decide +kernel
theorem dX12_passes_23 : decode cX12_passes 23 = .ok (.iconst 0, 1) := by decide +kernel
theorem dX12_passes_24 : decode cX12_passes 24 = .ok (.istore_n 2, 1) := by decide +kernel
theorem dX12_passes_25 : decode cX12_passes 25 = .ok (.iload_n 2, 1) := by decide +kernel
theorem dX12_passes_26 : decode cX12_passes 26 = .ok (.aload_n 0, 1) := by decide +kernel
theorem dX12_passes_27 : decode cX12_passes 27 = .ok (.getfield 7, 3) := by decide +kernel
theorem dX12_passes_30 : decode cX12_passes 30 = .ok (.iconst 3, 1) := by decide +kernel
theorem dX12_passes_31 : decode cX12_passes 31 = .ok (.iaload, 1) := by decide +kernel
theorem dX12_passes_32 : decode cX12_passes 32 = .ok (.if_icmp .ge 14, 3) := by decide +kernel
theorem dX12_passes_35 : decode cX12_passes 35 = .ok (.aload_n 0, 1) := by decide +kernel
theorem dX12_passes_36 : decode cX12_passes 36 = .ok (.iload_n 2, 1) := by decide +kernel
theorem dX12_passes_37 : decode cX12_passes 37 = .ok (.invokevirtual 283, 3) := by decide +kernel
theorem dX12_passes_40 : decode cX12_passes 40 = .ok (.iinc 2 1, 3) := by decide +kernel
theorem dX12_passes_43 : decode cX12_passes 43 = .ok (.goto (-18), 3) := by decide +kernel
theorem dX12_passes_46 : decode cX12_passes 46 = .ok (.aload_n 0, 1) := by decide +kernel
theorem dX12_passes_47 : decode cX12_passes 47 = .ok (.getfield 7, 3) := by decide +kernel
theorem dX12_passes_50 : decode cX12_passes 50 = .ok (.iconst 4, 1) := by decide +kernel
theorem dX12_passes_51 : decode cX12_passes 51 = .ok (.iaload, 1) := by decide +kernel
theorem dX12_passes_52 : decode cX12_passes 52 = .ok (.iconst 3, 1) := by decide +kernel
theorem dX12_passes_53 : decode cX12_passes 53 = .ok (.irem, 1) := by decide +kernel
theorem dX12_passes_54 : decode cX12_passes 54 = .ok (.ifCond .ne 10, 3) := by decide +kernel
theorem dX12_passes_57 : decode cX12_passes 57 = .ok (.aload_n 0, 1) := by decide +kernel
theorem dX12_passes_58 : decode cX12_passes 58 = .ok (.invokevirtual 286, 3) := by decide +kernel
theorem dX12_passes_61 : decode cX12_passes 61 = .ok (.goto 4, 3) := by decide +kernel
theorem dX12_passes_64 : decode cX12_passes 64 = .ok (.iconst 0, 1) := by decide +kernel
theorem dX12_passes_65 : decode cX12_passes 65 = .ok (.istore_n 2, 1) := by decide +kernel
theorem dX12_passes_66 : decode cX12_passes 66 = .ok (.iload_n 1, 1) := by decide +kernel
theorem dX12_passes_67 : decode cX12_passes 67 = .ok (.ifCond .eq 31, 3) := by decide +kernel
theorem dX12_passes_70 : decode cX12_passes 70 = .ok (.aload_n 0, 1) := by decide +kernel
theorem dX12_passes_71 : decode cX12_passes 71 = .ok (.bipush 100, 2) := by decide +kernel
theorem dX12_passes_73 : decode cX12_passes 73 = .ok (.invokevirtual 289, 3) := by decide +kernel
theorem dX12_passes_76 : decode cX12_passes 76 = .ok (.aload_n 0, 1) := by decide +kernel
theorem dX12_passes_77 : decode cX12_passes 77 = .ok (.getfield 7, 3) := by decide +kernel
theorem dX12_passes_80 : decode cX12_passes 80 = .ok (.bipush 8, 2) := by decide +kernel
theorem dX12_passes_82 : decode cX12_passes 82 = .ok (.iaload, 1) := by decide +kernel
theorem dX12_passes_83 : decode cX12_passes 83 = .ok (.if_icmp .ge 15, 3) := by decide +kernel
theorem dX12_passes_86 : decode cX12_passes 86 = .ok (.aload_n 0, 1) := by decide +kernel
theorem dX12_passes_87 : decode cX12_passes 87 = .ok (.getfield 7, 3) := by decide +kernel
theorem dX12_passes_90 : decode cX12_passes 90 = .ok (.bipush 7, 2) := by decide +kernel
theorem dX12_passes_92 : decode cX12_passes 92 = .ok (.aload_n 0, 1) := by decide +kernel
theorem dX12_passes_93 : decode cX12_passes 93 = .ok (.iconst 5, 1) := by decide +kernel
theorem dX12_passes_94 : decode cX12_passes 94 = .ok (.invokevirtual 289, 3) := by decide +kernel
theorem dX12_passes_97 : decode cX12_passes 97 = .ok (.iastore, 1) := by decide +kernel
theorem dX12_passes_98 : decode cX12_passes 98 = .ok (.iconst 0, 1) := by decide +kernel
theorem dX12_passes_99 : decode cX12_passes 99 = .ok (.istore_n 3, 1) := by decide +kernel
theorem dX12_passes_100 : decode cX12_passes 100 = .ok (.iload_n 3, 1) := by decide +kernel
theorem dX12_passes_101 : decode cX12_passes 101 = .ok (.iconst 4, 1) := by decide +kernel
theorem dX12_passes_102 : decode cX12_passes 102 = .ok (.if_icmp .ge 46, 3) := by decide +kernel
theorem dX12_passes_105 : decode cX12_passes 105 = .ok (.aload_n 0, 1) := by decide +kernel
theorem dX12_passes_106 : decode cX12_passes 106 = .ok (.iconst 4, 1) := by decide +kernel
theorem dX12_passes_107 : decode cX12_passes 107 = .ok (.iload_n 3, 1) := by decide +kernel
theorem dX12_passes_108 : decode cX12_passes 108 = .ok (.imul, 1) := by decide +kernel
theorem dX12_passes_109 : decode cX12_passes 109 = .ok (.invokevirtual 263, 3) := by decide +kernel
theorem dX12_passes_112 : decode cX12_passes 112 = .ok (.iconst 1, 1) := by decide +kernel
theorem dX12_passes_113 : decode cX12_passes 113 = .ok (.if_icmp .ne 29, 3) := by decide +kernel
theorem dX12_passes_116 : decode cX12_passes 116 = .ok (.aload_n 0, 1) := by decide +kernel
theorem dX12_passes_117 : decode cX12_passes 117 = .ok (.getfield 7, 3) := by decide +kernel
theorem dX12_passes_120 : decode cX12_passes 120 = .ok (.bipush 12, 2) := by decide +kernel
theorem dX12_passes_122 : decode cX12_passes 122 = .ok (.iload_n 3, 1) := by decide +kernel
theorem dX12_passes_123 : decode cX12_passes 123 = .ok (.iadd, 1) := by decide +kernel
theorem dX12_passes_124 : decode cX12_passes 124 = .ok (.sipush 999, 3) := by decide +kernel
theorem dX12_passes_127 : decode cX12_passes 127 = .ok (.aload_n 0, 1) := by decide +kernel
theorem dX12_passes_128 : decode cX12_passes 128 = .ok (.getfield 7, 3) := by decide +kernel
theorem dX12_passes_131 : decode cX12_passes 131 = .ok (.bipush 12, 2) := by decide +kernel
theorem dX12_passes_133 : decode cX12_passes 133 = .ok (.iload_n 3, 1) := by decide +kernel
theorem dX12_passes_134 : decode cX12_passes 134 = .ok (.iadd, 1) := by decide +kernel
theorem dX12_passes_135 : decode cX12_passes 135 = .ok (.iaload, 1) := by decide +kernel
theorem dX12_passes_136 : decode cX12_passes 136 = .ok (.iconst 2, 1) := by decide +kernel
theorem dX12_passes_137 : decode cX12_passes 137 = .ok (.iadd, 1) := by decide +kernel
theorem dX12_passes_138 : decode cX12_passes 138 = .ok (.invokestatic 73, 3) := by decide +kernel
theorem dX12_passes_141 : decode cX12_passes 141 = .ok (.iastore, 1) := by decide +kernel
theorem dX12_passes_142 : decode cX12_passes 142 = .ok (.iinc 3 1, 3) := by decide +kernel
theorem dX12_passes_145 : decode cX12_passes 145 = .ok (.goto (-45), 3) := by decide +kernel
theorem dX12_passes_148 : decode cX12_passes 148 = .ok (.aload_n 0, 1) := by decide +kernel
theorem dX12_passes_149 : decode cX12_passes 149 = .ok (.getfield 7, 3) := by decide +kernel
theorem dX12_passes_152 : decode cX12_passes 152 = .ok (.iconst 4, 1) := by decide +kernel
theorem dX12_passes_153 : decode cX12_passes 153 = .ok (.dup2, 1) := by decide +kernel
theorem dX12_passes_154 : decode cX12_passes 154 = .ok (.iaload, 1) := by decide +kernel
theorem dX12_passes_155 : decode cX12_passes 155 = .ok (.iconst 1, 1) := by decide +kernel
theorem dX12_passes_156 : decode cX12_passes 156 = .ok (.iadd, 1) := by decide +kernel
theorem dX12_passes_157 : decode cX12_passes 157 = .ok (.iastore, 1) := by decide +kernel
theorem dX12_passes_158 : decode cX12_passes 158 = .ok (.aload_n 0, 1) := by decide +kernel
theorem dX12_passes_159 : decode cX12_passes 159 = .ok (.getfield 7, 3) := by decide +kernel
theorem dX12_passes_162 : decode cX12_passes 162 = .ok (.iconst 4, 1) := by decide +kernel
theorem dX12_passes_163 : decode cX12_passes 163 = .ok (.iaload, 1) := by decide +kernel
theorem dX12_passes_164 : decode cX12_passes 164 = .ok (.bipush 24, 2) := by decide +kernel
theorem dX12_passes_166 : decode cX12_passes 166 = .ok (.if_icmp .ne 30, 3) := by decide +kernel
theorem dX12_passes_169 : decode cX12_passes 169 = .ok (.aload_n 0, 1) := by decide +kernel
theorem dX12_passes_170 : decode cX12_passes 170 = .ok (.getfield 7, 3) := by decide +kernel
theorem dX12_passes_173 : decode cX12_passes 173 = .ok (.iconst 4, 1) := by decide +kernel
theorem dX12_passes_174 : decode cX12_passes 174 = .ok (.iconst 0, 1) := by decide +kernel
theorem dX12_passes_175 : decode cX12_passes 175 = .ok (.iastore, 1) := by decide +kernel
theorem dX12_passes_176 : decode cX12_passes 176 = .ok (.aload_n 0, 1) := by decide +kernel
theorem dX12_passes_177 : decode cX12_passes 177 = .ok (.getfield 7, 3) := by decide +kernel
theorem dX12_passes_180 : decode cX12_passes 180 = .ok (.iconst 5, 1) := by decide +kernel
theorem dX12_passes_181 : decode cX12_passes 181 = .ok (.sipush 9999, 3) := by decide +kernel
theorem dX12_passes_184 : decode cX12_passes 184 = .ok (.aload_n 0, 1) := by decide +kernel
theorem dX12_passes_185 : decode cX12_passes 185 = .ok (.getfield 7, 3) := by decide +kernel
theorem dX12_passes_188 : decode cX12_passes 188 = .ok (.iconst 5, 1) := by decide +kernel
theorem dX12_passes_189 : decode cX12_passes 189 = .ok (.iaload, 1) := by decide +kernel
theorem dX12_passes_190 : decode cX12_passes 190 = .ok (.iconst 1, 1) := by decide +kernel
theorem dX12_passes_191 : decode cX12_passes 191 = .ok (.iadd, 1) := by decide +kernel
theorem dX12_passes_192 : decode cX12_passes 192 = .ok (.invokestatic 73, 3) := by decide +kernel
theorem dX12_passes_195 : decode cX12_passes 195 = .ok (.iastore, 1) := by decide +kernel
theorem dX12_passes_196 : decode cX12_passes 196 = .ok (.iload_n 2, 1) := by decide +kernel
theorem dX12_passes_197 : decode cX12_passes 197 = .ok (.ireturn, 1) := by decide +kernel
theorem dX12_goes_0 : decode cX12_goes 0 = .ok (.iconst 0, 1) := by decide +kernel
theorem dX12_goes_1 : decode cX12_goes 1 = .ok (.istore_n 3, 1) := by decide +kernel
theorem dX12_goes_2 : decode cX12_goes 2 = .ok (.iconst 0, 1) := by decide +kernel
theorem dX12_goes_3 : decode cX12_goes 3 = .ok (.istore 4, 2) := by decide +kernel
theorem dX12_goes_5 : decode cX12_goes 5 = .ok (.iload 4, 2) := by decide +kernel
theorem dX12_goes_7 : decode cX12_goes 7 = .ok (.iload_n 1, 1) := by decide +kernel
theorem dX12_goes_8 : decode cX12_goes 8 = .ok (.if_icmp .ge 17, 3) := by decide +kernel
theorem dX12_goes_11 : decode cX12_goes 11 = .ok (.iload_n 3, 1) := by decide +kernel
theorem dX12_goes_12 : decode cX12_goes 12 = .ok (.aload_n 0, 1) := by decide +kernel
theorem dX12_goes_13 : decode cX12_goes 13 = .ok (.iload_n 2, 1) := by decide +kernel
theorem dX12_goes_14 : decode cX12_goes 14 = .ok (.invokevirtual 292, 3) := by decide +kernel
theorem dX12_goes_17 : decode cX12_goes 17 = .ok (.iadd, 1) := by decide +kernel
theorem dX12_goes_18 : decode cX12_goes 18 = .ok (.istore_n 3, 1) := by decide +kernel
theorem dX12_goes_19 : decode cX12_goes 19 = .ok (.iinc 4 1, 3) := by decide +kernel
theorem dX12_goes_22 : decode cX12_goes 22 = .ok (.goto (-17), 3) := by decide +kernel
theorem dX12_goes_25 : decode cX12_goes 25 = .ok (.iload_n 3, 1) := by decide +kernel
theorem dX12_goes_26 : decode cX12_goes 26 = .ok (.ireturn, 1) := by decide +kernel
theorem dX12_lateOfAll_0 : decode cX12_lateOfAll 0 = .ok (.iconst 0, 1) := by decide +kernel
theorem dX12_lateOfAll_1 : decode cX12_lateOfAll 1 = .ok (.istore_n 1, 1) := by decide +kernel
theorem dX12_lateOfAll_2 : decode cX12_lateOfAll 2 = .ok (.iconst 0, 1) := by decide +kernel
theorem dX12_lateOfAll_3 : decode cX12_lateOfAll 3 = .ok (.istore_n 2, 1) := by decide +kernel
theorem dX12_lateOfAll_4 : decode cX12_lateOfAll 4 = .ok (.iload_n 2, 1) := by decide +kernel
theorem dX12_lateOfAll_5 : decode cX12_lateOfAll 5 = .ok (.aload_n 0, 1) := by decide +kernel
theorem dX12_lateOfAll_6 : decode cX12_lateOfAll 6 = .ok (.getfield 7, 3) := by decide +kernel
theorem dX12_lateOfAll_9 : decode cX12_lateOfAll 9 = .ok (.iconst 3, 1) := by decide +kernel
theorem dX12_lateOfAll_10 : decode cX12_lateOfAll 10 = .ok (.iaload, 1) := by decide +kernel
theorem dX12_lateOfAll_11 : decode cX12_lateOfAll 11 = .ok (.if_icmp .ge 18, 3) := by decide +kernel
theorem dX12_lateOfAll_14 : decode cX12_lateOfAll 14 = .ok (.iload_n 1, 1) := by decide +kernel
theorem dX12_lateOfAll_15 : decode cX12_lateOfAll 15 = .ok (.aload_n 0, 1) := by decide +kernel
theorem dX12_lateOfAll_16 : decode cX12_lateOfAll 16 = .ok (.iload_n 2, 1) := by decide +kernel
theorem dX12_lateOfAll_17 : decode cX12_lateOfAll 17 = .ok (.iconst 5, 1) := by decide +kernel
theorem dX12_lateOfAll_18 : decode cX12_lateOfAll 18 = .ok (.invokevirtual 65, 3) := by decide +kernel
theorem dX12_lateOfAll_21 : decode cX12_lateOfAll 21 = .ok (.iadd, 1) := by decide +kernel
theorem dX12_lateOfAll_22 : decode cX12_lateOfAll 22 = .ok (.istore_n 1, 1) := by decide +kernel
theorem dX12_lateOfAll_23 : decode cX12_lateOfAll 23 = .ok (.iinc 2 1, 3) := by decide +kernel
theorem dX12_lateOfAll_26 : decode cX12_lateOfAll 26 = .ok (.goto (-22), 3) := by decide +kernel
theorem dX12_lateOfAll_29 : decode cX12_lateOfAll 29 = .ok (.iload_n 1, 1) := by decide +kernel
theorem dX12_lateOfAll_30 : decode cX12_lateOfAll 30 = .ok (.ireturn, 1) := by decide +kernel
theorem dX12_monk_0 : decode cX12_monk 0 = .ok (.aload_n 0, 1) := by decide +kernel
theorem dX12_monk_1 : decode cX12_monk 1 = .ok (.aload_n 0, 1) := by decide +kernel
theorem dX12_monk_2 : decode cX12_monk 2 = .ok (.iload_n 1, 1) := by decide +kernel
theorem dX12_monk_3 : decode cX12_monk 3 = .ok (.invokevirtual 295, 3) := by decide +kernel
theorem dX12_monk_6 : decode cX12_monk 6 = .ok (.ifCond .ne 7, 3) := by decide +kernel
theorem dX12_monk_9 : decode cX12_monk 9 = .ok (.iconst 1, 1) := by decide +kernel
theorem dX12_monk_10 : decode cX12_monk 10 = .ok (.goto 18, 3) := by decide +kernel
theorem dX12_monk_13 : decode cX12_monk 13 = .ok (.iload_n 2, 1) := by decide +kernel
theorem dX12_monk_14 : decode cX12_monk 14 = .ok (.iconst 0, 1) := by decide +kernel
theorem dX12_monk_15 : decode cX12_monk 15 = .ok (.bipush 9, 2) := by decide +kernel
theorem dX12_monk_17 : decode cX12_monk 17 = .ok (.invokestatic 61, 3) := by decide +kernel
theorem dX12_monk_20 : decode cX12_monk 20 = .ok (.ifCond .ne 7, 3) := by decide +kernel
theorem dX12_monk_23 : decode cX12_monk 23 = .ok (.iconst 2, 1) := by decide +kernel
theorem dX12_monk_24 : decode cX12_monk 24 = .ok (.goto 4, 3) := by decide +kernel
theorem dX12_monk_27 : decode cX12_monk 27 = .ok (.iconst 0, 1) := by decide +kernel
theorem dX12_monk_28 : decode cX12_monk 28 = .ok (.putfield 58, 3) := by decide +kernel
theorem dX12_monk_31 : decode cX12_monk 31 = .ok (.aload_n 0, 1) := by decide +kernel
theorem dX12_monk_32 : decode cX12_monk 32 = .ok (.getfield 58, 3) := by decide +kernel
theorem dX12_monk_35 : decode cX12_monk 35 = .ok (.ifCond .le 5, 3) := by decide +kernel
theorem dX12_monk_38 : decode cX12_monk 38 = .ok (.iconst 0, 1) := by decide +kernel
theorem dX12_monk_39 : decode cX12_monk 39 = .ok (.ireturn, 1) := by decide +kernel
theorem dX12_monk_40 : decode cX12_monk 40 = .ok (.iload_n 2, 1) := by decide +kernel
theorem dX12_monk_41 : decode cX12_monk 41 = .ok (.bipush 8, 2) := by decide +kernel
theorem dX12_monk_43 : decode cX12_monk 43 = .ok (.if_icmp .ge 10, 3) := by decide +kernel
theorem dX12_monk_46 : decode cX12_monk 46 = .ok (.aload_n 0, 1) := by decide +kernel
theorem dX12_monk_47 : decode cX12_monk 47 = .ok (.iload_n 1, 1) := by decide +kernel
theorem dX12_monk_48 : decode cX12_monk 48 = .ok (.iload_n 2, 1) := by decide +kernel
theorem dX12_monk_49 : decode cX12_monk 49 = .ok (.invokevirtual 65, 3) := by decide +kernel
theorem dX12_monk_52 : decode cX12_monk 52 = .ok (.ireturn, 1) := by decide +kernel
theorem dX12_monk_53 : decode cX12_monk 53 = .ok (.iload_n 2, 1) := by decide +kernel
theorem dX12_monk_54 : decode cX12_monk 54 = .ok (.bipush 8, 2) := by decide +kernel
theorem dX12_monk_56 : decode cX12_monk 56 = .ok (.if_icmp .ne 9, 3) := by decide +kernel
theorem dX12_monk_59 : decode cX12_monk 59 = .ok (.aload_n 0, 1) := by decide +kernel
theorem dX12_monk_60 : decode cX12_monk 60 = .ok (.iload_n 1, 1) := by decide +kernel
theorem dX12_monk_61 : decode cX12_monk 61 = .ok (.invokevirtual 270, 3) := by decide +kernel
theorem dX12_monk_64 : decode cX12_monk 64 = .ok (.ireturn, 1) := by decide +kernel
theorem dX12_monk_65 : decode cX12_monk 65 = .ok (.aload_n 0, 1) := by decide +kernel
theorem dX12_monk_66 : decode cX12_monk 66 = .ok (.invokevirtual 298, 3) := by decide +kernel
theorem dX12_monk_69 : decode cX12_monk 69 = .ok (.ifCond .ne 7, 3) := by decide +kernel
theorem dX12_monk_72 : decode cX12_monk 72 = .ok (.iconst 0, 1) := by decide +kernel
theorem dX12_monk_73 : decode cX12_monk 73 = .ok (.goto 17, 3) := by decide +kernel
theorem dX12_monk_76 : decode cX12_monk 76 = .ok (.bipush 100, 2) := by decide +kernel
theorem dX12_monk_78 : decode cX12_monk 78 = .ok (.aload_n 0, 1) := by decide +kernel
theorem dX12_monk_79 : decode cX12_monk 79 = .ok (.iload_n 1, 1) := by decide +kernel
theorem dX12_monk_80 : decode cX12_monk 80 = .ok (.iconst 5, 1) := by decide +kernel
theorem dX12_monk_81 : decode cX12_monk 81 = .ok (.invokevirtual 65, 3) := by decide +kernel
theorem dX12_monk_84 : decode cX12_monk 84 = .ok (.imul, 1) := by decide +kernel
theorem dX12_monk_85 : decode cX12_monk 85 = .ok (.aload_n 0, 1) := by decide +kernel
theorem dX12_monk_86 : decode cX12_monk 86 = .ok (.invokevirtual 298, 3) := by decide +kernel
theorem dX12_monk_89 : decode cX12_monk 89 = .ok (.idiv, 1) := by decide +kernel
theorem dX12_monk_90 : decode cX12_monk 90 = .ok (.ireturn, 1) := by decide +kernel
theorem dX12_store_0 : decode cX12_store 0 = .ok (.aload_n 0, 1) := by decide +kernel
theorem dX12_store_1 : decode cX12_store 1 = .ok (.iload_n 1, 1) := by decide +kernel
theorem dX12_store_2 : decode cX12_store 2 = .ok (.invokestatic 301, 3) := by decide +kernel
theorem dX12_store_5 : decode cX12_store 5 = .ok (.ifCond .ne 7, 3) := by decide +kernel
theorem dX12_store_8 : decode cX12_store 8 = .ok (.iconst 1, 1) := by decide +kernel
theorem dX12_store_9 : decode cX12_store 9 = .ok (.goto 4, 3) := by decide +kernel
theorem dX12_store_12 : decode cX12_store 12 = .ok (.iconst 0, 1) := by decide +kernel
theorem dX12_store_13 : decode cX12_store 13 = .ok (.putfield 58, 3) := by decide +kernel
theorem dX12_store_16 : decode cX12_store 16 = .ok (.aload_n 0, 1) := by decide +kernel
theorem dX12_store_17 : decode cX12_store 17 = .ok (.getfield 58, 3) := by decide +kernel
theorem dX12_store_20 : decode cX12_store 20 = .ok (.ifCond .le 7, 3) := by decide +kernel
theorem dX12_store_23 : decode cX12_store 23 = .ok (.iconst 0, 1) := by decide +kernel
theorem dX12_store_24 : decode cX12_store 24 = .ok (.goto 12, 3) := by decide +kernel
theorem dX12_store_27 : decode cX12_store 27 = .ok (.aload_n 0, 1) := by decide +kernel
theorem dX12_store_28 : decode cX12_store 28 = .ok (.getfield 7, 3) := by decide +kernel
theorem dX12_store_31 : decode cX12_store 31 = .ok (.bipush 12, 2) := by decide +kernel
theorem dX12_store_33 : decode cX12_store 33 = .ok (.iload_n 1, 1) := by decide +kernel
theorem dX12_store_34 : decode cX12_store 34 = .ok (.iadd, 1) := by decide +kernel
theorem dX12_store_35 : decode cX12_store 35 = .ok (.iaload, 1) := by decide +kernel
theorem dX12_store_36 : decode cX12_store 36 = .ok (.ireturn, 1) := by decide +kernel
theorem dX12_season_0 : decode cX12_season 0 = .ok (.aload_n 0, 1) := by decide +kernel
theorem dX12_season_1 : decode cX12_season 1 = .ok (.iload_n 1, 1) := by decide +kernel
theorem dX12_season_2 : decode cX12_season 2 = .ok (.invokestatic 304, 3) := by decide +kernel
theorem dX12_season_5 : decode cX12_season 5 = .ok (.ifCond .ne 7, 3) := by decide +kernel
theorem dX12_season_8 : decode cX12_season 8 = .ok (.iconst 1, 1) := by decide +kernel
theorem dX12_season_9 : decode cX12_season 9 = .ok (.goto 4, 3) := by decide +kernel
theorem dX12_season_12 : decode cX12_season 12 = .ok (.iconst 0, 1) := by decide +kernel
theorem dX12_season_13 : decode cX12_season 13 = .ok (.putfield 58, 3) := by decide +kernel
theorem dX12_season_16 : decode cX12_season 16 = .ok (.aload_n 0, 1) := by decide +kernel
theorem dX12_season_17 : decode cX12_season 17 = .ok (.getfield 58, 3) := by decide +kernel
theorem dX12_season_20 : decode cX12_season 20 = .ok (.ifCond .le 7, 3) := by decide +kernel
theorem dX12_season_23 : decode cX12_season 23 = .ok (.iconst 0, 1) := by decide +kernel
theorem dX12_season_24 : decode cX12_season 24 = .ok (.goto 8, 3) := by decide +kernel
theorem dX12_season_27 : decode cX12_season 27 = .ok (.aload_n 0, 1) := by decide +kernel
theorem dX12_season_28 : decode cX12_season 28 = .ok (.iload_n 1, 1) := by decide +kernel
theorem dX12_season_29 : decode cX12_season 29 = .ok (.invokevirtual 263, 3) := by decide +kernel
theorem dX12_season_32 : decode cX12_season 32 = .ok (.ireturn, 1) := by decide +kernel
theorem dX12_remembers_0 : decode cX12_remembers 0 = .ok (.aload_n 0, 1) := by decide +kernel
theorem dX12_remembers_1 : decode cX12_remembers 1 = .ok (.getfield 204, 3) := by decide +kernel
theorem dX12_remembers_4 : decode cX12_remembers 4 = .ok (.bipush 12, 2) := by decide +kernel
theorem dX12_remembers_6 : decode cX12_remembers 6 = .ok (.if_icmp .ne 44, 3) := by decide +kernel
theorem dX12_remembers_9 : decode cX12_remembers 9 = .ok (.iconst 0, 1) := by decide +kernel
theorem dX12_remembers_10 : decode cX12_remembers 10 = .ok (.istore_n 1, 1) := by decide +kernel
theorem dX12_remembers_11 : decode cX12_remembers 11 = .ok (.iload_n 1, 1) := by decide +kernel
theorem dX12_remembers_12 : decode cX12_remembers 12 = .ok (.sipush 4092, 3) := by decide +kernel
theorem dX12_remembers_15 : decode cX12_remembers 15 = .ok (.if_icmp .ge 25, 3) := by decide +kernel
theorem dX12_remembers_18 : decode cX12_remembers 18 = .ok (.aload_n 0, 1) := by decide +kernel
theorem dX12_remembers_19 : decode cX12_remembers 19 = .ok (.getfield 19, 3) := by decide +kernel
theorem dX12_remembers_22 : decode cX12_remembers 22 = .ok (.iload_n 1, 1) := by decide +kernel
theorem dX12_remembers_23 : decode cX12_remembers 23 = .ok (.aload_n 0, 1) := by decide +kernel
theorem dX12_remembers_24 : decode cX12_remembers 24 = .ok (.getfield 19, 3) := by decide +kernel
theorem dX12_remembers_27 : decode cX12_remembers 27 = .ok (.iload_n 1, 1) := by decide +kernel
theorem dX12_remembers_28 : decode cX12_remembers 28 = .ok (.sipush 372, 3) := by decide +kernel
theorem dX12_remembers_31 : decode cX12_remembers 31 = .ok (.iadd, 1) := by decide +kernel
theorem dX12_remembers_32 : decode cX12_remembers 32 = .ok (.iaload, 1) := by decide +kernel
theorem dX12_remembers_33 : decode cX12_remembers 33 = .ok (.iastore, 1) := by decide +kernel
theorem dX12_remembers_34 : decode cX12_remembers 34 = .ok (.iinc 1 1, 3) := by decide +kernel
theorem dX12_remembers_37 : decode cX12_remembers 37 = .ok (.goto (-26), 3) := by decide +kernel
theorem dX12_remembers_40 : decode cX12_remembers 40 = .ok (.aload_n 0, 1) := by decide +kernel
theorem dX12_remembers_41 : decode cX12_remembers 41 = .ok (.dup, 1) := by decide +kernel
theorem dX12_remembers_42 : decode cX12_remembers 42 = .ok (.getfield 204, 3) := by decide +kernel
theorem dX12_remembers_45 : decode cX12_remembers 45 = .ok (.iconst 1, 1) := by decide +kernel
theorem dX12_remembers_46 : decode cX12_remembers 46 = .ok (.isub, 1) := by decide +kernel
theorem dX12_remembers_47 : decode cX12_remembers 47 = .ok (.putfield 204, 3) := by decide +kernel
theorem dX12_remembers_50 : decode cX12_remembers 50 = .ok (.iconst 0, 1) := by decide +kernel
theorem dX12_remembers_51 : decode cX12_remembers 51 = .ok (.istore_n 1, 1) := by decide +kernel
theorem dX12_remembers_52 : decode cX12_remembers 52 = .ok (.iload_n 1, 1) := by decide +kernel
theorem dX12_remembers_53 : decode cX12_remembers 53 = .ok (.sipush 372, 3) := by decide +kernel
theorem dX12_remembers_56 : decode cX12_remembers 56 = .ok (.if_icmp .ge 30, 3) := by decide +kernel
theorem dX12_remembers_59 : decode cX12_remembers 59 = .ok (.aload_n 0, 1) := by decide +kernel
theorem dX12_remembers_60 : decode cX12_remembers 60 = .ok (.getfield 19, 3) := by decide +kernel
theorem dX12_remembers_63 : decode cX12_remembers 63 = .ok (.sipush 372, 3) := by decide +kernel
theorem dX12_remembers_66 : decode cX12_remembers 66 = .ok (.aload_n 0, 1) := by decide +kernel
theorem dX12_remembers_67 : decode cX12_remembers 67 = .ok (.getfield 204, 3) := by decide +kernel
theorem dX12_remembers_70 : decode cX12_remembers 70 = .ok (.imul, 1) := by decide +kernel
theorem dX12_remembers_71 : decode cX12_remembers 71 = .ok (.iload_n 1, 1) := by decide +kernel
theorem dX12_remembers_72 : decode cX12_remembers 72 = .ok (.iadd, 1) := by decide +kernel
theorem dX12_remembers_73 : decode cX12_remembers 73 = .ok (.aload_n 0, 1) := by decide +kernel
theorem dX12_remembers_74 : decode cX12_remembers 74 = .ok (.getfield 7, 3) := by decide +kernel
theorem dX12_remembers_77 : decode cX12_remembers 77 = .ok (.iload_n 1, 1) := by decide +kernel
theorem dX12_remembers_78 : decode cX12_remembers 78 = .ok (.iaload, 1) := by decide +kernel
theorem dX12_remembers_79 : decode cX12_remembers 79 = .ok (.iastore, 1) := by decide +kernel
theorem dX12_remembers_80 : decode cX12_remembers 80 = .ok (.iinc 1 1, 3) := by decide +kernel
theorem dX12_remembers_83 : decode cX12_remembers 83 = .ok (.goto (-31), 3) := by decide +kernel
theorem dX12_remembers_86 : decode cX12_remembers 86 = .ok (.aload_n 0, 1) := by decide +kernel
theorem dX12_remembers_87 : decode cX12_remembers 87 = .ok (.dup, 1) := by decide +kernel
theorem dX12_remembers_88 : decode cX12_remembers 88 = .ok (.getfield 204, 3) := by decide +kernel
theorem dX12_remembers_91 : decode cX12_remembers 91 = .ok (.iconst 1, 1) := by decide +kernel
theorem dX12_remembers_92 : decode cX12_remembers 92 = .ok (.iadd, 1) := by decide +kernel
theorem dX12_remembers_93 : decode cX12_remembers 93 = .ok (.putfield 204, 3) := by decide +kernel
theorem dX12_remembers_96 : decode cX12_remembers 96 = .ok (.return_, 1) := by decide +kernel
theorem dX12_sets_0 : decode cX12_sets 0 = .ok (.aload_n 0, 1) := by decide +kernel
theorem dX12_sets_1 : decode cX12_sets 1 = .ok (.invokevirtual 307, 3) := by decide +kernel
theorem dX12_sets_4 : decode cX12_sets 4 = .ok (.aload_n 0, 1) := by decide +kernel
theorem dX12_sets_5 : decode cX12_sets 5 = .ok (.getfield 7, 3) := by decide +kernel
theorem dX12_sets_8 : decode cX12_sets 8 = .ok (.iload_n 1, 1) := by decide +kernel
theorem dX12_sets_9 : decode cX12_sets 9 = .ok (.iaload, 1) := by decide +kernel
theorem dX12_sets_10 : decode cX12_sets 10 = .ok (.istore_n 3, 1) := by decide +kernel
theorem dX12_sets_11 : decode cX12_sets 11 = .ok (.aload_n 0, 1) := by decide +kernel
theorem dX12_sets_12 : decode cX12_sets 12 = .ok (.getfield 7, 3) := by decide +kernel
theorem dX12_sets_15 : decode cX12_sets 15 = .ok (.iload_n 1, 1) := by decide +kernel
theorem dX12_sets_16 : decode cX12_sets 16 = .ok (.iload_n 2, 1) := by decide +kernel
theorem dX12_sets_17 : decode cX12_sets 17 = .ok (.iastore, 1) := by decide +kernel
theorem dX12_sets_18 : decode cX12_sets 18 = .ok (.iload_n 3, 1) := by decide +kernel
theorem dX12_sets_19 : decode cX12_sets 19 = .ok (.ireturn, 1) := by decide +kernel
theorem dX12_hours_0 : decode cX12_hours 0 = .ok (.aload_n 0, 1) := by decide +kernel
theorem dX12_hours_1 : decode cX12_hours 1 = .ok (.iload_n 1, 1) := by decide +kernel
theorem dX12_hours_2 : decode cX12_hours 2 = .ok (.iconst 1, 1) := by decide +kernel
theorem dX12_hours_3 : decode cX12_hours 3 = .ok (.bipush 72, 2) := by decide +kernel
theorem dX12_hours_5 : decode cX12_hours 5 = .ok (.invokestatic 61, 3) := by decide +kernel
theorem dX12_hours_8 : decode cX12_hours 8 = .ok (.ifCond .ne 7, 3) := by decide +kernel
theorem dX12_hours_11 : decode cX12_hours 11 = .ok (.iconst 1, 1) := by decide +kernel
theorem dX12_hours_12 : decode cX12_hours 12 = .ok (.goto 4, 3) := by decide +kernel
theorem dX12_hours_15 : decode cX12_hours 15 = .ok (.iconst 0, 1) := by decide +kernel
theorem dX12_hours_16 : decode cX12_hours 16 = .ok (.putfield 58, 3) := by decide +kernel
theorem dX12_hours_19 : decode cX12_hours 19 = .ok (.aload_n 0, 1) := by decide +kernel
theorem dX12_hours_20 : decode cX12_hours 20 = .ok (.getfield 58, 3) := by decide +kernel
theorem dX12_hours_23 : decode cX12_hours 23 = .ok (.ifCond .le 5, 3) := by decide +kernel
theorem dX12_hours_26 : decode cX12_hours 26 = .ok (.iconst 0, 1) := by decide +kernel
theorem dX12_hours_27 : decode cX12_hours 27 = .ok (.ireturn, 1) := by decide +kernel
theorem dX12_hours_28 : decode cX12_hours 28 = .ok (.aload_n 0, 1) := by decide +kernel
theorem dX12_hours_29 : decode cX12_hours 29 = .ok (.invokevirtual 307, 3) := by decide +kernel
theorem dX12_hours_32 : decode cX12_hours 32 = .ok (.aload_n 0, 1) := by decide +kernel
theorem dX12_hours_33 : decode cX12_hours 33 = .ok (.iload_n 1, 1) := by decide +kernel
theorem dX12_hours_34 : decode cX12_hours 34 = .ok (.iconst 1, 1) := by decide +kernel
theorem dX12_hours_35 : decode cX12_hours 35 = .ok (.invokevirtual 310, 3) := by decide +kernel
theorem dX12_hours_38 : decode cX12_hours 38 = .ok (.ireturn, 1) := by decide +kernel
theorem dX12_cross_0 : decode cX12_cross 0 = .ok (.aload_n 0, 1) := by decide +kernel
theorem dX12_cross_1 : decode cX12_cross 1 = .ok (.aload_n 0, 1) := by decide +kernel
theorem dX12_cross_2 : decode cX12_cross 2 = .ok (.iload_n 1, 1) := by decide +kernel
theorem dX12_cross_3 : decode cX12_cross 3 = .ok (.invokevirtual 295, 3) := by decide +kernel
theorem dX12_cross_6 : decode cX12_cross 6 = .ok (.ifCond .ne 7, 3) := by decide +kernel
theorem dX12_cross_9 : decode cX12_cross 9 = .ok (.iconst 1, 1) := by decide +kernel
theorem dX12_cross_10 : decode cX12_cross 10 = .ok (.goto 4, 3) := by decide +kernel
theorem dX12_cross_13 : decode cX12_cross 13 = .ok (.iconst 0, 1) := by decide +kernel
theorem dX12_cross_14 : decode cX12_cross 14 = .ok (.putfield 58, 3) := by decide +kernel
theorem dX12_cross_17 : decode cX12_cross 17 = .ok (.aload_n 0, 1) := by decide +kernel
theorem dX12_cross_18 : decode cX12_cross 18 = .ok (.getfield 58, 3) := by decide +kernel
theorem dX12_cross_21 : decode cX12_cross 21 = .ok (.ifCond .le 5, 3) := by decide +kernel
theorem dX12_cross_24 : decode cX12_cross 24 = .ok (.iconst 0, 1) := by decide +kernel
theorem dX12_cross_25 : decode cX12_cross 25 = .ok (.ireturn, 1) := by decide +kernel
theorem dX12_cross_26 : decode cX12_cross 26 = .ok (.aload_n 0, 1) := by decide +kernel
theorem dX12_cross_27 : decode cX12_cross 27 = .ok (.aload_n 0, 1) := by decide +kernel
theorem dX12_cross_28 : decode cX12_cross 28 = .ok (.iload_n 1, 1) := by decide +kernel
theorem dX12_cross_29 : decode cX12_cross 29 = .ok (.invokevirtual 69, 3) := by decide +kernel
theorem dX12_cross_32 : decode cX12_cross 32 = .ok (.ifCond .eq 7, 3) := by decide +kernel
theorem dX12_cross_35 : decode cX12_cross 35 = .ok (.iconst 2, 1) := by decide +kernel
theorem dX12_cross_36 : decode cX12_cross 36 = .ok (.goto 4, 3) := by decide +kernel
theorem dX12_cross_39 : decode cX12_cross 39 = .ok (.iconst 0, 1) := by decide +kernel
theorem dX12_cross_40 : decode cX12_cross 40 = .ok (.putfield 58, 3) := by decide +kernel
theorem dX12_cross_43 : decode cX12_cross 43 = .ok (.aload_n 0, 1) := by decide +kernel
theorem dX12_cross_44 : decode cX12_cross 44 = .ok (.getfield 58, 3) := by decide +kernel
theorem dX12_cross_47 : decode cX12_cross 47 = .ok (.ifCond .le 5, 3) := by decide +kernel
theorem dX12_cross_50 : decode cX12_cross 50 = .ok (.iconst 0, 1) := by decide +kernel
theorem dX12_cross_51 : decode cX12_cross 51 = .ok (.ireturn, 1) := by decide +kernel
theorem dX12_cross_52 : decode cX12_cross 52 = .ok (.aload_n 0, 1) := by decide +kernel
theorem dX12_cross_53 : decode cX12_cross 53 = .ok (.bipush 16, 2) := by decide +kernel
theorem dX12_cross_55 : decode cX12_cross 55 = .ok (.bipush 8, 2) := by decide +kernel
theorem dX12_cross_57 : decode cX12_cross 57 = .ok (.iload_n 1, 1) := by decide +kernel
theorem dX12_cross_58 : decode cX12_cross 58 = .ok (.imul, 1) := by decide +kernel
theorem dX12_cross_59 : decode cX12_cross 59 = .ok (.iadd, 1) := by decide +kernel
theorem dX12_cross_60 : decode cX12_cross 60 = .ok (.iconst 4, 1) := by decide +kernel
theorem dX12_cross_61 : decode cX12_cross 61 = .ok (.iadd, 1) := by decide +kernel
theorem dX12_cross_62 : decode cX12_cross 62 = .ok (.aload_n 0, 1) := by decide +kernel
theorem dX12_cross_63 : decode cX12_cross 63 = .ok (.getfield 7, 3) := by decide +kernel
theorem dX12_cross_66 : decode cX12_cross 66 = .ok (.bipush 9, 2) := by decide +kernel
theorem dX12_cross_68 : decode cX12_cross 68 = .ok (.iaload, 1) := by decide +kernel
theorem dX12_cross_69 : decode cX12_cross 69 = .ok (.invokevirtual 314, 3) := by decide +kernel
theorem dX12_cross_72 : decode cX12_cross 72 = .ok (.istore_n 2, 1) := by decide +kernel
theorem dX12_cross_73 : decode cX12_cross 73 = .ok (.aload_n 0, 1) := by decide +kernel
theorem dX12_cross_74 : decode cX12_cross 74 = .ok (.iload_n 1, 1) := by decide +kernel
theorem dX12_cross_75 : decode cX12_cross 75 = .ok (.iconst 0, 1) := by decide +kernel
theorem dX12_cross_76 : decode cX12_cross 76 = .ok (.aload_n 0, 1) := by decide +kernel
theorem dX12_cross_77 : decode cX12_cross 77 = .ok (.iload_n 1, 1) := by decide +kernel
theorem dX12_cross_78 : decode cX12_cross 78 = .ok (.iconst 0, 1) := by decide +kernel
theorem dX12_cross_79 : decode cX12_cross 79 = .ok (.invokevirtual 65, 3) := by decide +kernel
theorem dX12_cross_82 : decode cX12_cross 82 = .ok (.bipush 8, 2) := by decide +kernel
theorem dX12_cross_84 : decode cX12_cross 84 = .ok (.iadd, 1) := by decide +kernel
theorem dX12_cross_85 : decode cX12_cross 85 = .ok (.bipush 16, 2) := by decide +kernel
theorem dX12_cross_87 : decode cX12_cross 87 = .ok (.irem, 1) := by decide +kernel
theorem dX12_cross_88 : decode cX12_cross 88 = .ok (.invokevirtual 140, 3) := by decide +kernel
theorem dX12_cross_91 : decode cX12_cross 91 = .ok (.aload_n 0, 1) := by decide +kernel
theorem dX12_cross_92 : decode cX12_cross 92 = .ok (.iload_n 1, 1) := by decide +kernel
theorem dX12_cross_93 : decode cX12_cross 93 = .ok (.iconst 0, 1) := by decide +kernel
theorem dX12_cross_94 : decode cX12_cross 94 = .ok (.invokevirtual 65, 3) := by decide +kernel
theorem dX12_cross_97 : decode cX12_cross 97 = .ok (.ireturn, 1) := by decide +kernel
theorem dX12_bell_0 : decode cX12_bell 0 = .ok (.aload_n 0, 1) := by decide +kernel
theorem dX12_bell_1 : decode cX12_bell 1 = .ok (.iload_n 1, 1) := by decide +kernel
theorem dX12_bell_2 : decode cX12_bell 2 = .ok (.invokestatic 304, 3) := by decide +kernel
theorem dX12_bell_5 : decode cX12_bell 5 = .ok (.ifCond .ne 7, 3) := by decide +kernel
theorem dX12_bell_8 : decode cX12_bell 8 = .ok (.iconst 1, 1) := by decide +kernel
theorem dX12_bell_9 : decode cX12_bell 9 = .ok (.goto 4, 3) := by decide +kernel
theorem dX12_bell_12 : decode cX12_bell 12 = .ok (.iconst 0, 1) := by decide +kernel
theorem dX12_bell_13 : decode cX12_bell 13 = .ok (.putfield 58, 3) := by decide +kernel
theorem dX12_bell_16 : decode cX12_bell 16 = .ok (.aload_n 0, 1) := by decide +kernel
theorem dX12_bell_17 : decode cX12_bell 17 = .ok (.getfield 58, 3) := by decide +kernel
theorem dX12_bell_20 : decode cX12_bell 20 = .ok (.ifCond .le 7, 3) := by decide +kernel
theorem dX12_bell_23 : decode cX12_bell 23 = .ok (.iconst 0, 1) := by decide +kernel
theorem dX12_bell_24 : decode cX12_bell 24 = .ok (.goto 10, 3) := by decide +kernel
theorem dX12_bell_27 : decode cX12_bell 27 = .ok (.aload_n 0, 1) := by decide +kernel
theorem dX12_bell_28 : decode cX12_bell 28 = .ok (.bipush 6, 2) := by decide +kernel
theorem dX12_bell_30 : decode cX12_bell 30 = .ok (.iload_n 1, 1) := by decide +kernel
theorem dX12_bell_31 : decode cX12_bell 31 = .ok (.invokevirtual 314, 3) := by decide +kernel
theorem dX12_bell_34 : decode cX12_bell 34 = .ok (.ireturn, 1) := by decide +kernel
theorem dX12_mood_0 : decode cX12_mood 0 = .ok (.aload_n 0, 1) := by decide +kernel
theorem dX12_mood_1 : decode cX12_mood 1 = .ok (.iload_n 1, 1) := by decide +kernel
theorem dX12_mood_2 : decode cX12_mood 2 = .ok (.iconst 0, 1) := by decide +kernel
theorem dX12_mood_3 : decode cX12_mood 3 = .ok (.iconst 4, 1) := by decide +kernel
theorem dX12_mood_4 : decode cX12_mood 4 = .ok (.invokestatic 61, 3) := by decide +kernel
theorem dX12_mood_7 : decode cX12_mood 7 = .ok (.ifCond .ne 7, 3) := by decide +kernel
theorem dX12_mood_10 : decode cX12_mood 10 = .ok (.iconst 1, 1) := by decide +kernel
theorem dX12_mood_11 : decode cX12_mood 11 = .ok (.goto 4, 3) := by decide +kernel
theorem dX12_mood_14 : decode cX12_mood 14 = .ok (.iconst 0, 1) := by decide +kernel
theorem dX12_mood_15 : decode cX12_mood 15 = .ok (.putfield 58, 3) := by decide +kernel
theorem dX12_mood_18 : decode cX12_mood 18 = .ok (.aload_n 0, 1) := by decide +kernel
theorem dX12_mood_19 : decode cX12_mood 19 = .ok (.getfield 58, 3) := by decide +kernel
theorem dX12_mood_22 : decode cX12_mood 22 = .ok (.ifCond .le 7, 3) := by decide +kernel
theorem dX12_mood_25 : decode cX12_mood 25 = .ok (.iconst 0, 1) := by decide +kernel
theorem dX12_mood_26 : decode cX12_mood 26 = .ok (.goto 10, 3) := by decide +kernel
theorem dX12_mood_29 : decode cX12_mood 29 = .ok (.aload_n 0, 1) := by decide +kernel
theorem dX12_mood_30 : decode cX12_mood 30 = .ok (.bipush 7, 2) := by decide +kernel
theorem dX12_mood_32 : decode cX12_mood 32 = .ok (.iload_n 1, 1) := by decide +kernel
theorem dX12_mood_33 : decode cX12_mood 33 = .ok (.invokevirtual 314, 3) := by decide +kernel
theorem dX12_mood_36 : decode cX12_mood 36 = .ok (.ireturn, 1) := by decide +kernel
theorem dX12_areTwo_0 : decode cX12_areTwo 0 = .ok (.aload_n 0, 1) := by decide +kernel
theorem dX12_areTwo_1 : decode cX12_areTwo 1 = .ok (.aload_n 0, 1) := by decide +kernel
theorem dX12_areTwo_2 : decode cX12_areTwo 2 = .ok (.iload_n 1, 1) := by decide +kernel
theorem dX12_areTwo_3 : decode cX12_areTwo 3 = .ok (.invokevirtual 295, 3) := by decide +kernel
theorem dX12_areTwo_6 : decode cX12_areTwo 6 = .ok (.ifCond .eq 11, 3) := by decide +kernel
theorem dX12_areTwo_9 : decode cX12_areTwo 9 = .ok (.aload_n 0, 1) := by decide +kernel
theorem dX12_areTwo_10 : decode cX12_areTwo 10 = .ok (.iload_n 2, 1) := by decide +kernel
theorem dX12_areTwo_11 : decode cX12_areTwo 11 = .ok (.invokevirtual 295, 3) := by decide +kernel
theorem dX12_areTwo_14 : decode cX12_areTwo 14 = .ok (.ifCond .ne 7, 3) := by decide +kernel
theorem dX12_areTwo_17 : decode cX12_areTwo 17 = .ok (.iconst 1, 1) := by decide +kernel
theorem dX12_areTwo_18 : decode cX12_areTwo 18 = .ok (.goto 13, 3) := by decide +kernel
theorem dX12_areTwo_21 : decode cX12_areTwo 21 = .ok (.iload_n 1, 1) := by decide +kernel
theorem dX12_areTwo_22 : decode cX12_areTwo 22 = .ok (.iload_n 2, 1) := by decide +kernel
theorem dX12_areTwo_23 : decode cX12_areTwo 23 = .ok (.if_icmp .ne 7, 3) := by decide +kernel
theorem dX12_areTwo_26 : decode cX12_areTwo 26 = .ok (.iconst 2, 1) := by decide +kernel
theorem dX12_areTwo_27 : decode cX12_areTwo 27 = .ok (.goto 4, 3) := by decide +kernel
theorem dX12_areTwo_30 : decode cX12_areTwo 30 = .ok (.iconst 0, 1) := by decide +kernel
theorem dX12_areTwo_31 : decode cX12_areTwo 31 = .ok (.putfield 58, 3) := by decide +kernel
theorem dX12_areTwo_34 : decode cX12_areTwo 34 = .ok (.return_, 1) := by decide +kernel
theorem dX12_change_0 : decode cX12_change 0 = .ok (.aload_n 0, 1) := by decide +kernel
theorem dX12_change_1 : decode cX12_change 1 = .ok (.iload_n 1, 1) := by decide +kernel
theorem dX12_change_2 : decode cX12_change 2 = .ok (.iload_n 2, 1) := by decide +kernel
theorem dX12_change_3 : decode cX12_change 3 = .ok (.invokevirtual 317, 3) := by decide +kernel
theorem dX12_change_6 : decode cX12_change 6 = .ok (.aload_n 0, 1) := by decide +kernel
theorem dX12_change_7 : decode cX12_change 7 = .ok (.getfield 58, 3) := by decide +kernel
theorem dX12_change_10 : decode cX12_change 10 = .ok (.ifCond .le 5, 3) := by decide +kernel
theorem dX12_change_13 : decode cX12_change 13 = .ok (.iconst 0, 1) := by decide +kernel
theorem dX12_change_14 : decode cX12_change 14 = .ok (.ireturn, 1) := by decide +kernel
theorem dX12_change_15 : decode cX12_change 15 = .ok (.aload_n 0, 1) := by decide +kernel
theorem dX12_change_16 : decode cX12_change 16 = .ok (.bipush 16, 2) := by decide +kernel
theorem dX12_change_18 : decode cX12_change 18 = .ok (.bipush 8, 2) := by decide +kernel
theorem dX12_change_20 : decode cX12_change 20 = .ok (.iload_n 1, 1) := by decide +kernel
theorem dX12_change_21 : decode cX12_change 21 = .ok (.imul, 1) := by decide +kernel
theorem dX12_change_22 : decode cX12_change 22 = .ok (.iadd, 1) := by decide +kernel
theorem dX12_change_23 : decode cX12_change 23 = .ok (.iconst 2, 1) := by decide +kernel
theorem dX12_change_24 : decode cX12_change 24 = .ok (.iadd, 1) := by decide +kernel
theorem dX12_change_25 : decode cX12_change 25 = .ok (.aload_n 0, 1) := by decide +kernel
theorem dX12_change_26 : decode cX12_change 26 = .ok (.iload_n 2, 1) := by decide +kernel
theorem dX12_change_27 : decode cX12_change 27 = .ok (.iconst 2, 1) := by decide +kernel
theorem dX12_change_28 : decode cX12_change 28 = .ok (.invokevirtual 65, 3) := by decide +kernel
theorem dX12_change_31 : decode cX12_change 31 = .ok (.invokevirtual 314, 3) := by decide +kernel
theorem dX12_change_34 : decode cX12_change 34 = .ok (.istore_n 3, 1) := by decide +kernel
theorem dX12_change_35 : decode cX12_change 35 = .ok (.aload_n 0, 1) := by decide +kernel
theorem dX12_change_36 : decode cX12_change 36 = .ok (.iload_n 2, 1) := by decide +kernel
theorem dX12_change_37 : decode cX12_change 37 = .ok (.iconst 2, 1) := by decide +kernel
theorem dX12_change_38 : decode cX12_change 38 = .ok (.iload_n 3, 1) := by decide +kernel
theorem dX12_change_39 : decode cX12_change 39 = .ok (.invokevirtual 140, 3) := by decide +kernel
theorem dX12_change_42 : decode cX12_change 42 = .ok (.aload_n 0, 1) := by decide +kernel
theorem dX12_change_43 : decode cX12_change 43 = .ok (.iload_n 1, 1) := by decide +kernel
theorem dX12_change_44 : decode cX12_change 44 = .ok (.iconst 2, 1) := by decide +kernel
theorem dX12_change_45 : decode cX12_change 45 = .ok (.invokevirtual 65, 3) := by decide +kernel
theorem dX12_change_48 : decode cX12_change 48 = .ok (.ireturn, 1) := by decide +kernel
theorem dX12_pace_0 : decode cX12_pace 0 = .ok (.aload_n 0, 1) := by decide +kernel
theorem dX12_pace_1 : decode cX12_pace 1 = .ok (.aload_n 0, 1) := by decide +kernel
theorem dX12_pace_2 : decode cX12_pace 2 = .ok (.iload_n 1, 1) := by decide +kernel
theorem dX12_pace_3 : decode cX12_pace 3 = .ok (.invokevirtual 295, 3) := by decide +kernel
theorem dX12_pace_6 : decode cX12_pace 6 = .ok (.ifCond .ne 7, 3) := by decide +kernel
theorem dX12_pace_9 : decode cX12_pace 9 = .ok (.iconst 1, 1) := by decide +kernel
theorem dX12_pace_10 : decode cX12_pace 10 = .ok (.goto 18, 3) := by decide +kernel
theorem dX12_pace_13 : decode cX12_pace 13 = .ok (.iload_n 2, 1) := by decide +kernel
theorem dX12_pace_14 : decode cX12_pace 14 = .ok (.iconst 0, 1) := by decide +kernel
theorem dX12_pace_15 : decode cX12_pace 15 = .ok (.bipush 8, 2) := by decide +kernel
theorem dX12_pace_17 : decode cX12_pace 17 = .ok (.invokestatic 61, 3) := by decide +kernel
theorem dX12_pace_20 : decode cX12_pace 20 = .ok (.ifCond .ne 7, 3) := by decide +kernel
theorem dX12_pace_23 : decode cX12_pace 23 = .ok (.iconst 2, 1) := by decide +kernel
theorem dX12_pace_24 : decode cX12_pace 24 = .ok (.goto 4, 3) := by decide +kernel
theorem dX12_pace_27 : decode cX12_pace 27 = .ok (.iconst 0, 1) := by decide +kernel
theorem dX12_pace_28 : decode cX12_pace 28 = .ok (.putfield 58, 3) := by decide +kernel
theorem dX12_pace_31 : decode cX12_pace 31 = .ok (.aload_n 0, 1) := by decide +kernel
theorem dX12_pace_32 : decode cX12_pace 32 = .ok (.getfield 58, 3) := by decide +kernel
theorem dX12_pace_35 : decode cX12_pace 35 = .ok (.ifCond .le 7, 3) := by decide +kernel
theorem dX12_pace_38 : decode cX12_pace 38 = .ok (.iconst 0, 1) := by decide +kernel
theorem dX12_pace_39 : decode cX12_pace 39 = .ok (.goto 17, 3) := by decide +kernel
theorem dX12_pace_42 : decode cX12_pace 42 = .ok (.aload_n 0, 1) := by decide +kernel
theorem dX12_pace_43 : decode cX12_pace 43 = .ok (.bipush 16, 2) := by decide +kernel
theorem dX12_pace_45 : decode cX12_pace 45 = .ok (.bipush 8, 2) := by decide +kernel
theorem dX12_pace_47 : decode cX12_pace 47 = .ok (.iload_n 1, 1) := by decide +kernel
theorem dX12_pace_48 : decode cX12_pace 48 = .ok (.imul, 1) := by decide +kernel
theorem dX12_pace_49 : decode cX12_pace 49 = .ok (.iadd, 1) := by decide +kernel
theorem dX12_pace_50 : decode cX12_pace 50 = .ok (.iconst 1, 1) := by decide +kernel
theorem dX12_pace_51 : decode cX12_pace 51 = .ok (.iadd, 1) := by decide +kernel
theorem dX12_pace_52 : decode cX12_pace 52 = .ok (.iload_n 2, 1) := by decide +kernel
theorem dX12_pace_53 : decode cX12_pace 53 = .ok (.invokevirtual 314, 3) := by decide +kernel
theorem dX12_pace_56 : decode cX12_pace 56 = .ok (.ireturn, 1) := by decide +kernel
theorem dX12_fill_0 : decode cX12_fill 0 = .ok (.aload_n 0, 1) := by decide +kernel
theorem dX12_fill_1 : decode cX12_fill 1 = .ok (.iload_n 1, 1) := by decide +kernel
theorem dX12_fill_2 : decode cX12_fill 2 = .ok (.invokestatic 301, 3) := by decide +kernel
theorem dX12_fill_5 : decode cX12_fill 5 = .ok (.ifCond .ne 7, 3) := by decide +kernel
theorem dX12_fill_8 : decode cX12_fill 8 = .ok (.iconst 1, 1) := by decide +kernel
theorem dX12_fill_9 : decode cX12_fill 9 = .ok (.goto 18, 3) := by decide +kernel
theorem dX12_fill_12 : decode cX12_fill 12 = .ok (.iload_n 2, 1) := by decide +kernel
theorem dX12_fill_13 : decode cX12_fill 13 = .ok (.iconst 1, 1) := by decide +kernel
theorem dX12_fill_14 : decode cX12_fill 14 = .ok (.bipush 99, 2) := by decide +kernel
theorem dX12_fill_16 : decode cX12_fill 16 = .ok (.invokestatic 61, 3) := by decide +kernel
theorem dX12_fill_19 : decode cX12_fill 19 = .ok (.ifCond .ne 7, 3) := by decide +kernel
theorem dX12_fill_22 : decode cX12_fill 22 = .ok (.iconst 2, 1) := by decide +kernel
theorem dX12_fill_23 : decode cX12_fill 23 = .ok (.goto 4, 3) := by decide +kernel
theorem dX12_fill_26 : decode cX12_fill 26 = .ok (.iconst 0, 1) := by decide +kernel
theorem dX12_fill_27 : decode cX12_fill 27 = .ok (.putfield 58, 3) := by decide +kernel
theorem dX12_fill_30 : decode cX12_fill 30 = .ok (.aload_n 0, 1) := by decide +kernel
theorem dX12_fill_31 : decode cX12_fill 31 = .ok (.getfield 58, 3) := by decide +kernel
theorem dX12_fill_34 : decode cX12_fill 34 = .ok (.ifCond .le 5, 3) := by decide +kernel
theorem dX12_fill_37 : decode cX12_fill 37 = .ok (.iconst 0, 1) := by decide +kernel
theorem dX12_fill_38 : decode cX12_fill 38 = .ok (.ireturn, 1) := by decide +kernel
theorem dX12_fill_39 : decode cX12_fill 39 = .ok (.aload_n 0, 1) := by decide +kernel
theorem dX12_fill_40 : decode cX12_fill 40 = .ok (.bipush 12, 2) := by decide +kernel
theorem dX12_fill_42 : decode cX12_fill 42 = .ok (.iload_n 1, 1) := by decide +kernel
theorem dX12_fill_43 : decode cX12_fill 43 = .ok (.iadd, 1) := by decide +kernel
theorem dX12_fill_44 : decode cX12_fill 44 = .ok (.sipush 999, 3) := by decide +kernel
theorem dX12_fill_47 : decode cX12_fill 47 = .ok (.aload_n 0, 1) := by decide +kernel
theorem dX12_fill_48 : decode cX12_fill 48 = .ok (.getfield 7, 3) := by decide +kernel
theorem dX12_fill_51 : decode cX12_fill 51 = .ok (.bipush 12, 2) := by decide +kernel
theorem dX12_fill_53 : decode cX12_fill 53 = .ok (.iload_n 1, 1) := by decide +kernel
theorem dX12_fill_54 : decode cX12_fill 54 = .ok (.iadd, 1) := by decide +kernel
theorem dX12_fill_55 : decode cX12_fill 55 = .ok (.iaload, 1) := by decide +kernel
theorem dX12_fill_56 : decode cX12_fill 56 = .ok (.iload_n 2, 1) := by decide +kernel
theorem dX12_fill_57 : decode cX12_fill 57 = .ok (.iadd, 1) := by decide +kernel
theorem dX12_fill_58 : decode cX12_fill 58 = .ok (.invokestatic 73, 3) := by decide +kernel
theorem dX12_fill_61 : decode cX12_fill 61 = .ok (.invokevirtual 314, 3) := by decide +kernel
theorem dX12_fill_64 : decode cX12_fill 64 = .ok (.istore_n 3, 1) := by decide +kernel
theorem dX12_fill_65 : decode cX12_fill 65 = .ok (.aload_n 0, 1) := by decide +kernel
theorem dX12_fill_66 : decode cX12_fill 66 = .ok (.getfield 7, 3) := by decide +kernel
theorem dX12_fill_69 : decode cX12_fill 69 = .ok (.bipush 12, 2) := by decide +kernel
theorem dX12_fill_71 : decode cX12_fill 71 = .ok (.iload_n 1, 1) := by decide +kernel
theorem dX12_fill_72 : decode cX12_fill 72 = .ok (.iadd, 1) := by decide +kernel
theorem dX12_fill_73 : decode cX12_fill 73 = .ok (.iaload, 1) := by decide +kernel
theorem dX12_fill_74 : decode cX12_fill 74 = .ok (.ireturn, 1) := by decide +kernel
theorem dX12_find_0 : decode cX12_find 0 = .ok (.aload_n 0, 1) := by decide +kernel
theorem dX12_find_1 : decode cX12_find 1 = .ok (.aload_n 0, 1) := by decide +kernel
theorem dX12_find_2 : decode cX12_find 2 = .ok (.iload_n 1, 1) := by decide +kernel
theorem dX12_find_3 : decode cX12_find 3 = .ok (.invokevirtual 295, 3) := by decide +kernel
theorem dX12_find_6 : decode cX12_find 6 = .ok (.ifCond .ne 7, 3) := by decide +kernel
theorem dX12_find_9 : decode cX12_find 9 = .ok (.iconst 1, 1) := by decide +kernel
theorem dX12_find_10 : decode cX12_find 10 = .ok (.goto 4, 3) := by decide +kernel
theorem dX12_find_13 : decode cX12_find 13 = .ok (.iconst 0, 1) := by decide +kernel
theorem dX12_find_14 : decode cX12_find 14 = .ok (.putfield 58, 3) := by decide +kernel
theorem dX12_find_17 : decode cX12_find 17 = .ok (.aload_n 0, 1) := by decide +kernel
theorem dX12_find_18 : decode cX12_find 18 = .ok (.getfield 58, 3) := by decide +kernel
theorem dX12_find_21 : decode cX12_find 21 = .ok (.ifCond .le 5, 3) := by decide +kernel
theorem dX12_find_24 : decode cX12_find 24 = .ok (.iconst 0, 1) := by decide +kernel
theorem dX12_find_25 : decode cX12_find 25 = .ok (.ireturn, 1) := by decide +kernel
theorem dX12_find_26 : decode cX12_find 26 = .ok (.aload_n 0, 1) := by decide +kernel
theorem dX12_find_27 : decode cX12_find 27 = .ok (.aload_n 0, 1) := by decide +kernel
theorem dX12_find_28 : decode cX12_find 28 = .ok (.iload_n 1, 1) := by decide +kernel
theorem dX12_find_29 : decode cX12_find 29 = .ok (.invokevirtual 69, 3) := by decide +kernel
theorem dX12_find_32 : decode cX12_find 32 = .ok (.ifCond .ne 7, 3) := by decide +kernel
theorem dX12_find_35 : decode cX12_find 35 = .ok (.iconst 2, 1) := by decide +kernel
theorem dX12_find_36 : decode cX12_find 36 = .ok (.goto 4, 3) := by decide +kernel
theorem dX12_find_39 : decode cX12_find 39 = .ok (.iconst 0, 1) := by decide +kernel
theorem dX12_find_40 : decode cX12_find 40 = .ok (.putfield 58, 3) := by decide +kernel
theorem dX12_find_43 : decode cX12_find 43 = .ok (.aload_n 0, 1) := by decide +kernel
theorem dX12_find_44 : decode cX12_find 44 = .ok (.getfield 58, 3) := by decide +kernel
theorem dX12_find_47 : decode cX12_find 47 = .ok (.ifCond .le 7, 3) := by decide +kernel
theorem dX12_find_50 : decode cX12_find 50 = .ok (.iconst 0, 1) := by decide +kernel
theorem dX12_find_51 : decode cX12_find 51 = .ok (.goto 17, 3) := by decide +kernel
theorem dX12_find_54 : decode cX12_find 54 = .ok (.aload_n 0, 1) := by decide +kernel
theorem dX12_find_55 : decode cX12_find 55 = .ok (.bipush 16, 2) := by decide +kernel
theorem dX12_find_57 : decode cX12_find 57 = .ok (.bipush 8, 2) := by decide +kernel
theorem dX12_find_59 : decode cX12_find 59 = .ok (.iload_n 1, 1) := by decide +kernel
theorem dX12_find_60 : decode cX12_find 60 = .ok (.imul, 1) := by decide +kernel
theorem dX12_find_61 : decode cX12_find 61 = .ok (.iadd, 1) := by decide +kernel
theorem dX12_find_62 : decode cX12_find 62 = .ok (.iconst 4, 1) := by decide +kernel
theorem dX12_find_63 : decode cX12_find 63 = .ok (.iadd, 1) := by decide +kernel
theorem dX12_find_64 : decode cX12_find 64 = .ok (.iconst 0, 1) := by decide +kernel
theorem dX12_find_65 : decode cX12_find 65 = .ok (.invokevirtual 314, 3) := by decide +kernel
theorem dX12_find_68 : decode cX12_find 68 = .ok (.ireturn, 1) := by decide +kernel
theorem dX12_choir_0 : decode cX12_choir 0 = .ok (.aload_n 0, 1) := by decide +kernel
theorem dX12_choir_1 : decode cX12_choir 1 = .ok (.iconst 0, 1) := by decide +kernel
theorem dX12_choir_2 : decode cX12_choir 2 = .ok (.putfield 58, 3) := by decide +kernel
theorem dX12_choir_5 : decode cX12_choir 5 = .ok (.iconst 0, 1) := by decide +kernel
theorem dX12_choir_6 : decode cX12_choir 6 = .ok (.istore_n 1, 1) := by decide +kernel
theorem dX12_choir_7 : decode cX12_choir 7 = .ok (.iconst 0, 1) := by decide +kernel
theorem dX12_choir_8 : decode cX12_choir 8 = .ok (.istore_n 2, 1) := by decide +kernel
theorem dX12_choir_9 : decode cX12_choir 9 = .ok (.iload_n 2, 1) := by decide +kernel
theorem dX12_choir_10 : decode cX12_choir 10 = .ok (.aload_n 0, 1) := by decide +kernel
theorem dX12_choir_11 : decode cX12_choir 11 = .ok (.getfield 7, 3) := by decide +kernel
theorem dX12_choir_14 : decode cX12_choir 14 = .ok (.iconst 3, 1) := by decide +kernel
theorem dX12_choir_15 : decode cX12_choir 15 = .ok (.iaload, 1) := by decide +kernel
theorem dX12_choir_16 : decode cX12_choir 16 = .ok (.if_icmp .ge 27, 3) := by decide +kernel
theorem dX12_choir_19 : decode cX12_choir 19 = .ok (.iload_n 1, 1) := by decide +kernel
theorem dX12_choir_20 : decode cX12_choir 20 = .ok (.aload_n 0, 1) := by decide +kernel
theorem dX12_choir_21 : decode cX12_choir 21 = .ok (.iload_n 2, 1) := by decide +kernel
theorem dX12_choir_22 : decode cX12_choir 22 = .ok (.invokevirtual 277, 3) := by decide +kernel
theorem dX12_choir_25 : decode cX12_choir 25 = .ok (.ifCond .eq 9, 3) := by decide +kernel
theorem dX12_choir_28 : decode cX12_choir 28 = .ok (.iconst 1, 1) := by decide +kernel
theorem dX12_choir_29 : decode cX12_choir 29 = .ok (.iload_n 2, 1) := by decide +kernel
theorem dX12_choir_30 : decode cX12_choir 30 = .ok (.ishl, 1) := by decide +kernel
theorem dX12_choir_31 : decode cX12_choir 31 = .ok (.goto 4, 3) := by decide +kernel
theorem dX12_choir_34 : decode cX12_choir 34 = .ok (.iconst 0, 1) := by decide +kernel
theorem dX12_choir_35 : decode cX12_choir 35 = .ok (.ior, 1) := by decide +kernel
theorem dX12_choir_36 : decode cX12_choir 36 = .ok (.istore_n 1, 1) := by decide +kernel
theorem dX12_choir_37 : decode cX12_choir 37 = .ok (.iinc 2 1, 3) := by decide +kernel
theorem dX12_choir_40 : decode cX12_choir 40 = .ok (.goto (-31), 3) := by decide +kernel
theorem dX12_choir_43 : decode cX12_choir 43 = .ok (.iload_n 1, 1) := by decide +kernel
theorem dX12_choir_44 : decode cX12_choir 44 = .ok (.ireturn, 1) := by decide +kernel
theorem dX12_firstAt_0 : decode cX12_firstAt 0 = .ok (.aload_n 0, 1) := by decide +kernel
theorem dX12_firstAt_1 : decode cX12_firstAt 1 = .ok (.invokevirtual 192, 3) := by decide +kernel
theorem dX12_firstAt_4 : decode cX12_firstAt 4 = .ok (.iconst (-1), 1) := by decide +kernel
theorem dX12_firstAt_5 : decode cX12_firstAt 5 = .ok (.istore 4, 2) := by decide +kernel
theorem dX12_firstAt_7 : decode cX12_firstAt 7 = .ok (.iconst 0, 1) := by decide +kernel
theorem dX12_firstAt_8 : decode cX12_firstAt 8 = .ok (.istore 5, 2) := by decide +kernel
theorem dX12_firstAt_10 : decode cX12_firstAt 10 = .ok (.iload 5, 2) := by decide +kernel
theorem dX12_firstAt_12 : decode cX12_firstAt 12 = .ok (.bipush 72, 2) := by decide +kernel
theorem dX12_firstAt_14 : decode cX12_firstAt 14 = .ok (.if_icmp .gt 92, 3) := by decide +kernel
theorem dX12_firstAt_17 : decode cX12_firstAt 17 = .ok (.iload 4, 2) := by decide +kernel
theorem dX12_firstAt_19 : decode cX12_firstAt 19 = .ok (.iconst (-1), 1) := by decide +kernel
theorem dX12_firstAt_20 : decode cX12_firstAt 20 = .ok (.if_icmp .ne 86, 3) := by decide +kernel
theorem dX12_firstAt_23 : decode cX12_firstAt 23 = .ok (.iload_n 2, 1) := by decide +kernel
theorem dX12_firstAt_24 : decode cX12_firstAt 24 = .ok (.iconst (-1), 1) := by decide +kernel
theorem dX12_firstAt_25 : decode cX12_firstAt 25 = .ok (.if_icmp .ne 34, 3) := by decide +kernel
theorem dX12_firstAt_28 : decode cX12_firstAt 28 = .ok (.aload_n 0, 1) := by decide +kernel
theorem dX12_firstAt_29 : decode cX12_firstAt 29 = .ok (.iload_n 3, 1) := by decide +kernel
theorem dX12_firstAt_30 : decode cX12_firstAt 30 = .ok (.invokevirtual 69, 3) := by decide +kernel
theorem dX12_firstAt_33 : decode cX12_firstAt 33 = .ok (.ifCond .ne 22, 3) := by decide +kernel
theorem dX12_firstAt_36 : decode cX12_firstAt 36 = .ok (.aload_n 0, 1) := by decide +kernel
theorem dX12_firstAt_37 : decode cX12_firstAt 37 = .ok (.iload_n 1, 1) := by decide +kernel
theorem dX12_firstAt_38 : decode cX12_firstAt 38 = .ok (.iconst 0, 1) := by decide +kernel
theorem dX12_firstAt_39 : decode cX12_firstAt 39 = .ok (.invokevirtual 65, 3) := by decide +kernel
theorem dX12_firstAt_42 : decode cX12_firstAt 42 = .ok (.aload_n 0, 1) := by decide +kernel
theorem dX12_firstAt_43 : decode cX12_firstAt 43 = .ok (.iload_n 3, 1) := by decide +kernel
theorem dX12_firstAt_44 : decode cX12_firstAt 44 = .ok (.iconst 0, 1) := by decide +kernel
theorem dX12_firstAt_45 : decode cX12_firstAt 45 = .ok (.invokevirtual 65, 3) := by decide +kernel
theorem dX12_firstAt_48 : decode cX12_firstAt 48 = .ok (.if_icmp .ne 7, 3) := by decide +kernel
theorem dX12_firstAt_51 : decode cX12_firstAt 51 = .ok (.iconst 1, 1) := by decide +kernel
theorem dX12_firstAt_52 : decode cX12_firstAt 52 = .ok (.goto 22, 3) := by decide +kernel
theorem dX12_firstAt_55 : decode cX12_firstAt 55 = .ok (.iconst 0, 1) := by decide +kernel
theorem dX12_firstAt_56 : decode cX12_firstAt 56 = .ok (.goto 18, 3) := by decide +kernel
theorem dX12_firstAt_59 : decode cX12_firstAt 59 = .ok (.aload_n 0, 1) := by decide +kernel
theorem dX12_firstAt_60 : decode cX12_firstAt 60 = .ok (.iload_n 1, 1) := by decide +kernel
theorem dX12_firstAt_61 : decode cX12_firstAt 61 = .ok (.iconst 0, 1) := by decide +kernel
theorem dX12_firstAt_62 : decode cX12_firstAt 62 = .ok (.invokevirtual 65, 3) := by decide +kernel
theorem dX12_firstAt_65 : decode cX12_firstAt 65 = .ok (.iload_n 2, 1) := by decide +kernel
theorem dX12_firstAt_66 : decode cX12_firstAt 66 = .ok (.if_icmp .ne 7, 3) := by decide +kernel
theorem dX12_firstAt_69 : decode cX12_firstAt 69 = .ok (.iconst 1, 1) := by decide +kernel
theorem dX12_firstAt_70 : decode cX12_firstAt 70 = .ok (.goto 4, 3) := by decide +kernel
theorem dX12_firstAt_73 : decode cX12_firstAt 73 = .ok (.iconst 0, 1) := by decide +kernel
theorem dX12_firstAt_74 : decode cX12_firstAt 74 = .ok (.istore 6, 2) := by decide +kernel
theorem dX12_firstAt_76 : decode cX12_firstAt 76 = .ok (.iload 6, 2) := by decide +kernel
theorem dX12_firstAt_78 : decode cX12_firstAt 78 = .ok (.ifCond .eq 15, 3) := by decide +kernel
theorem dX12_firstAt_81 : decode cX12_firstAt 81 = .ok (.aload_n 0, 1) := by decide +kernel
theorem dX12_firstAt_82 : decode cX12_firstAt 82 = .ok (.iload_n 1, 1) := by decide +kernel
theorem dX12_firstAt_83 : decode cX12_firstAt 83 = .ok (.invokevirtual 69, 3) := by decide +kernel
theorem dX12_firstAt_86 : decode cX12_firstAt 86 = .ok (.ifCond .ne 7, 3) := by decide +kernel
theorem dX12_firstAt_89 : decode cX12_firstAt 89 = .ok (.iload 5, 2) := by decide +kernel
theorem dX12_firstAt_91 : decode cX12_firstAt 91 = .ok (.istore 4, 2) := by decide +kernel
theorem dX12_firstAt_93 : decode cX12_firstAt 93 = .ok (.aload_n 0, 1) := by decide +kernel
theorem dX12_firstAt_94 : decode cX12_firstAt 94 = .ok (.iconst 0, 1) := by decide +kernel
theorem dX12_firstAt_95 : decode cX12_firstAt 95 = .ok (.invokevirtual 292, 3) := by decide +kernel
theorem dX12_firstAt_98 : decode cX12_firstAt 98 = .ok (.istore 7, 2) := by decide +kernel
theorem dX12_firstAt_100 : decode cX12_firstAt 100 = .ok (.iinc 5 1, 3) := by decide +kernel
theorem dX12_firstAt_103 : decode cX12_firstAt 103 = .ok (.goto (-93), 3) := by decide +kernel
theorem dX12_firstAt_106 : decode cX12_firstAt 106 = .ok (.aload_n 0, 1) := by decide +kernel
theorem dX12_firstAt_107 : decode cX12_firstAt 107 = .ok (.invokevirtual 201, 3) := by decide +kernel
theorem dX12_firstAt_110 : decode cX12_firstAt 110 = .ok (.iload 4, 2) := by decide +kernel
theorem dX12_firstAt_112 : decode cX12_firstAt 112 = .ok (.ireturn, 1) := by decide +kernel
theorem dX12_when_0 : decode cX12_when 0 = .ok (.aload_n 0, 1) := by decide +kernel
theorem dX12_when_1 : decode cX12_when 1 = .ok (.aload_n 0, 1) := by decide +kernel
theorem dX12_when_2 : decode cX12_when 2 = .ok (.iload_n 1, 1) := by decide +kernel
theorem dX12_when_3 : decode cX12_when 3 = .ok (.invokevirtual 295, 3) := by decide +kernel
theorem dX12_when_6 : decode cX12_when 6 = .ok (.ifCond .eq 10, 3) := by decide +kernel
theorem dX12_when_9 : decode cX12_when 9 = .ok (.iload_n 2, 1) := by decide +kernel
theorem dX12_when_10 : decode cX12_when 10 = .ok (.invokestatic 304, 3) := by decide +kernel
theorem dX12_when_13 : decode cX12_when 13 = .ok (.ifCond .ne 7, 3) := by decide +kernel
theorem dX12_when_16 : decode cX12_when 16 = .ok (.iconst 1, 1) := by decide +kernel
theorem dX12_when_17 : decode cX12_when 17 = .ok (.goto 4, 3) := by decide +kernel
theorem dX12_when_20 : decode cX12_when 20 = .ok (.iconst 0, 1) := by decide +kernel
theorem dX12_when_21 : decode cX12_when 21 = .ok (.putfield 58, 3) := by decide +kernel
theorem dX12_when_24 : decode cX12_when 24 = .ok (.aload_n 0, 1) := by decide +kernel
theorem dX12_when_25 : decode cX12_when 25 = .ok (.getfield 58, 3) := by decide +kernel
theorem dX12_when_28 : decode cX12_when 28 = .ok (.ifCond .le 7, 3) := by decide +kernel
theorem dX12_when_31 : decode cX12_when 31 = .ok (.iconst 0, 1) := by decide +kernel
theorem dX12_when_32 : decode cX12_when 32 = .ok (.goto 10, 3) := by decide +kernel
theorem dX12_when_35 : decode cX12_when 35 = .ok (.aload_n 0, 1) := by decide +kernel
theorem dX12_when_36 : decode cX12_when 36 = .ok (.iload_n 1, 1) := by decide +kernel
theorem dX12_when_37 : decode cX12_when 37 = .ok (.iload_n 2, 1) := by decide +kernel
theorem dX12_when_38 : decode cX12_when 38 = .ok (.iload_n 1, 1) := by decide +kernel
theorem dX12_when_39 : decode cX12_when 39 = .ok (.invokevirtual 320, 3) := by decide +kernel
theorem dX12_when_42 : decode cX12_when 42 = .ok (.ireturn, 1) := by decide +kernel
theorem dX12_meet_0 : decode cX12_meet 0 = .ok (.aload_n 0, 1) := by decide +kernel
theorem dX12_meet_1 : decode cX12_meet 1 = .ok (.iload_n 1, 1) := by decide +kernel
theorem dX12_meet_2 : decode cX12_meet 2 = .ok (.iload_n 2, 1) := by decide +kernel
theorem dX12_meet_3 : decode cX12_meet 3 = .ok (.invokevirtual 317, 3) := by decide +kernel
theorem dX12_meet_6 : decode cX12_meet 6 = .ok (.aload_n 0, 1) := by decide +kernel
theorem dX12_meet_7 : decode cX12_meet 7 = .ok (.getfield 58, 3) := by decide +kernel
theorem dX12_meet_10 : decode cX12_meet 10 = .ok (.ifCond .le 7, 3) := by decide +kernel
theorem dX12_meet_13 : decode cX12_meet 13 = .ok (.iconst 0, 1) := by decide +kernel
theorem dX12_meet_14 : decode cX12_meet 14 = .ok (.goto 10, 3) := by decide +kernel
theorem dX12_meet_17 : decode cX12_meet 17 = .ok (.aload_n 0, 1) := by decide +kernel
theorem dX12_meet_18 : decode cX12_meet 18 = .ok (.iload_n 1, 1) := by decide +kernel
theorem dX12_meet_19 : decode cX12_meet 19 = .ok (.iconst (-1), 1) := by decide +kernel
theorem dX12_meet_20 : decode cX12_meet 20 = .ok (.iload_n 2, 1) := by decide +kernel
theorem dX12_meet_21 : decode cX12_meet 21 = .ok (.invokevirtual 320, 3) := by decide +kernel
theorem dX12_meet_24 : decode cX12_meet 24 = .ok (.ireturn, 1) := by decide +kernel
theorem dX12_latesIn_0 : decode cX12_latesIn 0 = .ok (.iconst 0, 1) := by decide +kernel
theorem dX12_latesIn_1 : decode cX12_latesIn 1 = .ok (.istore_n 2, 1) := by decide +kernel
theorem dX12_latesIn_2 : decode cX12_latesIn 2 = .ok (.iload_n 2, 1) := by decide +kernel
theorem dX12_latesIn_3 : decode cX12_latesIn 3 = .ok (.bipush 7, 2) := by decide +kernel
theorem dX12_latesIn_5 : decode cX12_latesIn 5 = .ok (.if_icmp .ge 16, 3) := by decide +kernel
theorem dX12_latesIn_8 : decode cX12_latesIn 8 = .ok (.aload_n 0, 1) := by decide +kernel
theorem dX12_latesIn_9 : decode cX12_latesIn 9 = .ok (.getfield 32, 3) := by decide +kernel
theorem dX12_latesIn_12 : decode cX12_latesIn 12 = .ok (.iload_n 2, 1) := by decide +kernel
theorem dX12_latesIn_13 : decode cX12_latesIn 13 = .ok (.iconst 0, 1) := by decide +kernel
theorem dX12_latesIn_14 : decode cX12_latesIn 14 = .ok (.iastore, 1) := by decide +kernel
theorem dX12_latesIn_15 : decode cX12_latesIn 15 = .ok (.iinc 2 1, 3) := by decide +kernel
theorem dX12_latesIn_18 : decode cX12_latesIn 18 = .ok (.goto (-16), 3) := by decide +kernel
theorem dX12_latesIn_21 : decode cX12_latesIn 21 = .ok (.aload_n 0, 1) := by decide +kernel
theorem dX12_latesIn_22 : decode cX12_latesIn 22 = .ok (.invokevirtual 192, 3) := by decide +kernel
theorem dX12_latesIn_25 : decode cX12_latesIn 25 = .ok (.iconst 0, 1) := by decide +kernel
theorem dX12_latesIn_26 : decode cX12_latesIn 26 = .ok (.istore_n 2, 1) := by decide +kernel
theorem dX12_latesIn_27 : decode cX12_latesIn 27 = .ok (.iconst 0, 1) := by decide +kernel
theorem dX12_latesIn_28 : decode cX12_latesIn 28 = .ok (.istore_n 3, 1) := by decide +kernel
theorem dX12_latesIn_29 : decode cX12_latesIn 29 = .ok (.iload_n 3, 1) := by decide +kernel
theorem dX12_latesIn_30 : decode cX12_latesIn 30 = .ok (.iload_n 1, 1) := by decide +kernel
theorem dX12_latesIn_31 : decode cX12_latesIn 31 = .ok (.if_icmp .ge 33, 3) := by decide +kernel
theorem dX12_latesIn_34 : decode cX12_latesIn 34 = .ok (.iload_n 3, 1) := by decide +kernel
theorem dX12_latesIn_35 : decode cX12_latesIn 35 = .ok (.aload_n 0, 1) := by decide +kernel
theorem dX12_latesIn_36 : decode cX12_latesIn 36 = .ok (.getfield 7, 3) := by decide +kernel
theorem dX12_latesIn_39 : decode cX12_latesIn 39 = .ok (.iconst 4, 1) := by decide +kernel
theorem dX12_latesIn_40 : decode cX12_latesIn 40 = .ok (.iaload, 1) := by decide +kernel
theorem dX12_latesIn_41 : decode cX12_latesIn 41 = .ok (.iconst 3, 1) := by decide +kernel
theorem dX12_latesIn_42 : decode cX12_latesIn 42 = .ok (.irem, 1) := by decide +kernel
theorem dX12_latesIn_43 : decode cX12_latesIn 43 = .ok (.ifCond .ne 7, 3) := by decide +kernel
theorem dX12_latesIn_46 : decode cX12_latesIn 46 = .ok (.iconst 1, 1) := by decide +kernel
theorem dX12_latesIn_47 : decode cX12_latesIn 47 = .ok (.goto 4, 3) := by decide +kernel
theorem dX12_latesIn_50 : decode cX12_latesIn 50 = .ok (.iconst 0, 1) := by decide +kernel
theorem dX12_latesIn_51 : decode cX12_latesIn 51 = .ok (.iadd, 1) := by decide +kernel
theorem dX12_latesIn_52 : decode cX12_latesIn 52 = .ok (.istore_n 3, 1) := by decide +kernel
theorem dX12_latesIn_53 : decode cX12_latesIn 53 = .ok (.iload_n 2, 1) := by decide +kernel
theorem dX12_latesIn_54 : decode cX12_latesIn 54 = .ok (.aload_n 0, 1) := by decide +kernel
theorem dX12_latesIn_55 : decode cX12_latesIn 55 = .ok (.iconst 0, 1) := by decide +kernel
theorem dX12_latesIn_56 : decode cX12_latesIn 56 = .ok (.invokevirtual 292, 3) := by decide +kernel
theorem dX12_latesIn_59 : decode cX12_latesIn 59 = .ok (.iadd, 1) := by decide +kernel
theorem dX12_latesIn_60 : decode cX12_latesIn 60 = .ok (.istore_n 2, 1) := by decide +kernel
theorem dX12_latesIn_61 : decode cX12_latesIn 61 = .ok (.goto (-32), 3) := by decide +kernel
theorem dX12_latesIn_64 : decode cX12_latesIn 64 = .ok (.aload_n 0, 1) := by decide +kernel
theorem dX12_latesIn_65 : decode cX12_latesIn 65 = .ok (.invokevirtual 201, 3) := by decide +kernel
theorem dX12_latesIn_68 : decode cX12_latesIn 68 = .ok (.iload_n 2, 1) := by decide +kernel
theorem dX12_latesIn_69 : decode cX12_latesIn 69 = .ok (.ireturn, 1) := by decide +kernel
theorem dX12_lates_0 : decode cX12_lates 0 = .ok (.aload_n 0, 1) := by decide +kernel
theorem dX12_lates_1 : decode cX12_lates 1 = .ok (.iload_n 1, 1) := by decide +kernel
theorem dX12_lates_2 : decode cX12_lates 2 = .ok (.iconst 0, 1) := by decide +kernel
theorem dX12_lates_3 : decode cX12_lates 3 = .ok (.bipush 9, 2) := by decide +kernel
theorem dX12_lates_5 : decode cX12_lates 5 = .ok (.invokestatic 61, 3) := by decide +kernel
theorem dX12_lates_8 : decode cX12_lates 8 = .ok (.ifCond .ne 7, 3) := by decide +kernel
theorem dX12_lates_11 : decode cX12_lates 11 = .ok (.iconst 1, 1) := by decide +kernel
theorem dX12_lates_12 : decode cX12_lates 12 = .ok (.goto 4, 3) := by decide +kernel
theorem dX12_lates_15 : decode cX12_lates 15 = .ok (.iconst 0, 1) := by decide +kernel
theorem dX12_lates_16 : decode cX12_lates 16 = .ok (.putfield 58, 3) := by decide +kernel
theorem dX12_lates_19 : decode cX12_lates 19 = .ok (.aload_n 0, 1) := by decide +kernel
theorem dX12_lates_20 : decode cX12_lates 20 = .ok (.getfield 58, 3) := by decide +kernel
theorem dX12_lates_23 : decode cX12_lates 23 = .ok (.ifCond .le 7, 3) := by decide +kernel
theorem dX12_lates_26 : decode cX12_lates 26 = .ok (.iconst 0, 1) := by decide +kernel
theorem dX12_lates_27 : decode cX12_lates 27 = .ok (.goto 8, 3) := by decide +kernel
theorem dX12_lates_30 : decode cX12_lates 30 = .ok (.aload_n 0, 1) := by decide +kernel
theorem dX12_lates_31 : decode cX12_lates 31 = .ok (.iload_n 1, 1) := by decide +kernel
theorem dX12_lates_32 : decode cX12_lates 32 = .ok (.invokevirtual 324, 3) := by decide +kernel
theorem dX12_lates_35 : decode cX12_lates 35 = .ok (.ireturn, 1) := by decide +kernel
theorem dX12_tardy_0 : decode cX12_tardy 0 = .ok (.aload_n 0, 1) := by decide +kernel
theorem dX12_tardy_1 : decode cX12_tardy 1 = .ok (.iconst 0, 1) := by decide +kernel
theorem dX12_tardy_2 : decode cX12_tardy 2 = .ok (.putfield 58, 3) := by decide +kernel
theorem dX12_tardy_5 : decode cX12_tardy 5 = .ok (.aload_n 0, 1) := by decide +kernel
theorem dX12_tardy_6 : decode cX12_tardy 6 = .ok (.bipush 8, 2) := by decide +kernel
theorem dX12_tardy_8 : decode cX12_tardy 8 = .ok (.invokevirtual 324, 3) := by decide +kernel
theorem dX12_tardy_11 : decode cX12_tardy 11 = .ok (.istore_n 1, 1) := by decide +kernel
theorem dX12_tardy_12 : decode cX12_tardy 12 = .ok (.iconst (-1), 1) := by decide +kernel
theorem dX12_tardy_13 : decode cX12_tardy 13 = .ok (.istore_n 2, 1) := by decide +kernel
theorem dX12_tardy_14 : decode cX12_tardy 14 = .ok (.iconst 0, 1) := by decide +kernel
theorem dX12_tardy_15 : decode cX12_tardy 15 = .ok (.istore_n 3, 1) := by decide +kernel
theorem dX12_tardy_16 : decode cX12_tardy 16 = .ok (.iload_n 3, 1) := by decide +kernel
theorem dX12_tardy_17 : decode cX12_tardy 17 = .ok (.aload_n 0, 1) := by decide +kernel
theorem dX12_tardy_18 : decode cX12_tardy 18 = .ok (.getfield 7, 3) := by decide +kernel
theorem dX12_tardy_21 : decode cX12_tardy 21 = .ok (.iconst 3, 1) := by decide +kernel
theorem dX12_tardy_22 : decode cX12_tardy 22 = .ok (.iaload, 1) := by decide +kernel
theorem dX12_tardy_23 : decode cX12_tardy 23 = .ok (.if_icmp .ge 35, 3) := by decide +kernel
theorem dX12_tardy_26 : decode cX12_tardy 26 = .ok (.aload_n 0, 1) := by decide +kernel
theorem dX12_tardy_27 : decode cX12_tardy 27 = .ok (.getfield 32, 3) := by decide +kernel
theorem dX12_tardy_30 : decode cX12_tardy 30 = .ok (.iload_n 3, 1) := by decide +kernel
theorem dX12_tardy_31 : decode cX12_tardy 31 = .ok (.iaload, 1) := by decide +kernel
theorem dX12_tardy_32 : decode cX12_tardy 32 = .ok (.iload_n 2, 1) := by decide +kernel
theorem dX12_tardy_33 : decode cX12_tardy 33 = .ok (.iconst (-1), 1) := by decide +kernel
theorem dX12_tardy_34 : decode cX12_tardy 34 = .ok (.if_icmp .ne 7, 3) := by decide +kernel
theorem dX12_tardy_37 : decode cX12_tardy 37 = .ok (.iconst 0, 1) := by decide +kernel
theorem dX12_tardy_38 : decode cX12_tardy 38 = .ok (.goto 9, 3) := by decide +kernel
theorem dX12_tardy_41 : decode cX12_tardy 41 = .ok (.aload_n 0, 1) := by decide +kernel
theorem dX12_tardy_42 : decode cX12_tardy 42 = .ok (.getfield 32, 3) := by decide +kernel
theorem dX12_tardy_45 : decode cX12_tardy 45 = .ok (.iload_n 2, 1) := by decide +kernel
theorem dX12_tardy_46 : decode cX12_tardy 46 = .ok (.iaload, 1) := by decide +kernel
theorem dX12_tardy_47 : decode cX12_tardy 47 = .ok (.if_icmp .le 5, 3) := by decide +kernel
theorem dX12_tardy_50 : decode cX12_tardy 50 = .ok (.iload_n 3, 1) := by decide +kernel
theorem dX12_tardy_51 : decode cX12_tardy 51 = .ok (.istore_n 2, 1) := by decide +kernel
theorem dX12_tardy_52 : decode cX12_tardy 52 = .ok (.iinc 3 1, 3) := by decide +kernel
theorem dX12_tardy_55 : decode cX12_tardy 55 = .ok (.goto (-39), 3) := by decide +kernel
theorem dX12_tardy_58 : decode cX12_tardy 58 = .ok (.iload_n 2, 1) := by decide +kernel
theorem dX12_tardy_59 : decode cX12_tardy 59 = .ok (.ireturn, 1) := by decide +kernel
theorem dX12_leastBy_0 : decode cX12_leastBy 0 = .ok (.aload_n 0, 1) := by decide +kernel
theorem dX12_leastBy_1 : decode cX12_leastBy 1 = .ok (.getfield 7, 3) := by decide +kernel
theorem dX12_leastBy_4 : decode cX12_leastBy 4 = .ok (.iload_n 1, 1) := by decide +kernel
theorem dX12_leastBy_5 : decode cX12_leastBy 5 = .ok (.iaload, 1) := by decide +kernel
theorem dX12_leastBy_6 : decode cX12_leastBy 6 = .ok (.istore_n 3, 1) := by decide +kernel
theorem dX12_leastBy_7 : decode cX12_leastBy 7 = .ok (.iconst 0, 1) := by decide +kernel
theorem dX12_leastBy_8 : decode cX12_leastBy 8 = .ok (.istore 4, 2) := by decide +kernel
theorem dX12_leastBy_10 : decode cX12_leastBy 10 = .ok (.ldc_w 327, 3) := by decide +kernel
theorem dX12_leastBy_13 : decode cX12_leastBy 13 = .ok (.istore 5, 2) := by decide +kernel
theorem dX12_leastBy_15 : decode cX12_leastBy 15 = .ok (.iconst 0, 1) := by decide +kernel
theorem dX12_leastBy_16 : decode cX12_leastBy 16 = .ok (.istore 6, 2) := by decide +kernel
theorem dX12_leastBy_18 : decode cX12_leastBy 18 = .ok (.iload 6, 2) := by decide +kernel
theorem dX12_leastBy_20 : decode cX12_leastBy 20 = .ok (.iload_n 2, 1) := by decide +kernel
theorem dX12_leastBy_21 : decode cX12_leastBy 21 = .ok (.if_icmp .ge 43, 3) := by decide +kernel
theorem dX12_leastBy_24 : decode cX12_leastBy 24 = .ok (.aload_n 0, 1) := by decide +kernel
theorem dX12_leastBy_25 : decode cX12_leastBy 25 = .ok (.getfield 7, 3) := by decide +kernel
theorem dX12_leastBy_28 : decode cX12_leastBy 28 = .ok (.iload_n 1, 1) := by decide +kernel
theorem dX12_leastBy_29 : decode cX12_leastBy 29 = .ok (.iload 6, 2) := by decide +kernel
theorem dX12_leastBy_31 : decode cX12_leastBy 31 = .ok (.iastore, 1) := by decide +kernel
theorem dX12_leastBy_32 : decode cX12_leastBy 32 = .ok (.aload_n 0, 1) := by decide +kernel
theorem dX12_leastBy_33 : decode cX12_leastBy 33 = .ok (.bipush 8, 2) := by decide +kernel
theorem dX12_leastBy_35 : decode cX12_leastBy 35 = .ok (.invokevirtual 324, 3) := by decide +kernel
theorem dX12_leastBy_38 : decode cX12_leastBy 38 = .ok (.istore 7, 2) := by decide +kernel
theorem dX12_leastBy_40 : decode cX12_leastBy 40 = .ok (.iload 7, 2) := by decide +kernel
theorem dX12_leastBy_42 : decode cX12_leastBy 42 = .ok (.iload 5, 2) := by decide +kernel
theorem dX12_leastBy_44 : decode cX12_leastBy 44 = .ok (.if_icmp .lt 6, 3) := by decide +kernel
theorem dX12_leastBy_47 : decode cX12_leastBy 47 = .ok (.goto 11, 3) := by decide +kernel
theorem dX12_leastBy_50 : decode cX12_leastBy 50 = .ok (.iload 7, 2) := by decide +kernel
theorem dX12_leastBy_52 : decode cX12_leastBy 52 = .ok (.istore 5, 2) := by decide +kernel
theorem dX12_leastBy_54 : decode cX12_leastBy 54 = .ok (.iload 6, 2) := by decide +kernel
theorem dX12_leastBy_56 : decode cX12_leastBy 56 = .ok (.istore 4, 2) := by decide +kernel
theorem dX12_leastBy_58 : decode cX12_leastBy 58 = .ok (.iinc 6 1, 3) := by decide +kernel
theorem dX12_leastBy_61 : decode cX12_leastBy 61 = .ok (.goto (-43), 3) := by decide +kernel
theorem dX12_leastBy_64 : decode cX12_leastBy 64 = .ok (.aload_n 0, 1) := by decide +kernel
theorem dX12_leastBy_65 : decode cX12_leastBy 65 = .ok (.getfield 7, 3) := by decide +kernel
theorem dX12_leastBy_68 : decode cX12_leastBy 68 = .ok (.iload_n 1, 1) := by decide +kernel
theorem dX12_leastBy_69 : decode cX12_leastBy 69 = .ok (.iload_n 3, 1) := by decide +kernel
theorem dX12_leastBy_70 : decode cX12_leastBy 70 = .ok (.iastore, 1) := by decide +kernel
theorem dX12_leastBy_71 : decode cX12_leastBy 71 = .ok (.iload 4, 2) := by decide +kernel
theorem dX12_leastBy_73 : decode cX12_leastBy 73 = .ok (.ireturn, 1) := by decide +kernel
theorem dX12_ring_0 : decode cX12_ring 0 = .ok (.aload_n 0, 1) := by decide +kernel
theorem dX12_ring_1 : decode cX12_ring 1 = .ok (.iconst 0, 1) := by decide +kernel
theorem dX12_ring_2 : decode cX12_ring 2 = .ok (.putfield 58, 3) := by decide +kernel
theorem dX12_ring_5 : decode cX12_ring 5 = .ok (.aload_n 0, 1) := by decide +kernel
theorem dX12_ring_6 : decode cX12_ring 6 = .ok (.bipush 6, 2) := by decide +kernel
theorem dX12_ring_8 : decode cX12_ring 8 = .ok (.bipush 16, 2) := by decide +kernel
theorem dX12_ring_10 : decode cX12_ring 10 = .ok (.invokevirtual 328, 3) := by decide +kernel
theorem dX12_ring_13 : decode cX12_ring 13 = .ok (.ireturn, 1) := by decide +kernel
theorem dX12_humour_0 : decode cX12_humour 0 = .ok (.aload_n 0, 1) := by decide +kernel
theorem dX12_humour_1 : decode cX12_humour 1 = .ok (.iconst 0, 1) := by decide +kernel
theorem dX12_humour_2 : decode cX12_humour 2 = .ok (.putfield 58, 3) := by decide +kernel
theorem dX12_humour_5 : decode cX12_humour 5 = .ok (.aload_n 0, 1) := by decide +kernel
theorem dX12_humour_6 : decode cX12_humour 6 = .ok (.bipush 7, 2) := by decide +kernel
theorem dX12_humour_8 : decode cX12_humour 8 = .ok (.iconst 5, 1) := by decide +kernel
theorem dX12_humour_9 : decode cX12_humour 9 = .ok (.invokevirtual 328, 3) := by decide +kernel
theorem dX12_humour_12 : decode cX12_humour 12 = .ok (.ireturn, 1) := by decide +kernel
theorem dX12_starves_0 : decode cX12_starves 0 = .ok (.aload_n 0, 1) := by decide +kernel
theorem dX12_starves_1 : decode cX12_starves 1 = .ok (.iconst 0, 1) := by decide +kernel
theorem dX12_starves_2 : decode cX12_starves 2 = .ok (.putfield 58, 3) := by decide +kernel
theorem dX12_starves_5 : decode cX12_starves 5 = .ok (.aload_n 0, 1) := by decide +kernel
theorem dX12_starves_6 : decode cX12_starves 6 = .ok (.invokevirtual 192, 3) := by decide +kernel
theorem dX12_starves_9 : decode cX12_starves 9 = .ok (.iconst (-1), 1) := by decide +kernel
theorem dX12_starves_10 : decode cX12_starves 10 = .ok (.istore_n 1, 1) := by decide +kernel
theorem dX12_starves_11 : decode cX12_starves 11 = .ok (.iconst 0, 1) := by decide +kernel
theorem dX12_starves_12 : decode cX12_starves 12 = .ok (.istore_n 2, 1) := by decide +kernel
theorem dX12_starves_13 : decode cX12_starves 13 = .ok (.iload_n 2, 1) := by decide +kernel
theorem dX12_starves_14 : decode cX12_starves 14 = .ok (.bipush 72, 2) := by decide +kernel
theorem dX12_starves_16 : decode cX12_starves 16 = .ok (.if_icmp .gt 50, 3) := by decide +kernel
theorem dX12_starves_19 : decode cX12_starves 19 = .ok (.iload_n 1, 1) := by decide +kernel
theorem dX12_starves_20 : decode cX12_starves 20 = .ok (.iconst (-1), 1) := by decide +kernel
theorem dX12_starves_21 : decode cX12_starves 21 = .ok (.if_icmp .ne 45, 3) := by decide +kernel
theorem dX12_starves_24 : decode cX12_starves 24 = .ok (.iconst 0, 1) := by decide +kernel
theorem dX12_starves_25 : decode cX12_starves 25 = .ok (.istore_n 3, 1) := by decide +kernel
theorem dX12_starves_26 : decode cX12_starves 26 = .ok (.iload_n 3, 1) := by decide +kernel
theorem dX12_starves_27 : decode cX12_starves 27 = .ok (.aload_n 0, 1) := by decide +kernel
theorem dX12_starves_28 : decode cX12_starves 28 = .ok (.getfield 7, 3) := by decide +kernel
theorem dX12_starves_31 : decode cX12_starves 31 = .ok (.iconst 3, 1) := by decide +kernel
theorem dX12_starves_32 : decode cX12_starves 32 = .ok (.iaload, 1) := by decide +kernel
theorem dX12_starves_33 : decode cX12_starves 33 = .ok (.if_icmp .ge 21, 3) := by decide +kernel
theorem dX12_starves_36 : decode cX12_starves 36 = .ok (.aload_n 0, 1) := by decide +kernel
theorem dX12_starves_37 : decode cX12_starves 37 = .ok (.iload_n 3, 1) := by decide +kernel
theorem dX12_starves_38 : decode cX12_starves 38 = .ok (.bipush 6, 2) := by decide +kernel
theorem dX12_starves_40 : decode cX12_starves 40 = .ok (.invokevirtual 65, 3) := by decide +kernel
theorem dX12_starves_43 : decode cX12_starves 43 = .ok (.ifCond .le 5, 3) := by decide +kernel
theorem dX12_starves_46 : decode cX12_starves 46 = .ok (.iload_n 2, 1) := by decide +kernel
theorem dX12_starves_47 : decode cX12_starves 47 = .ok (.istore_n 1, 1) := by decide +kernel
theorem dX12_starves_48 : decode cX12_starves 48 = .ok (.iinc 3 1, 3) := by decide +kernel
theorem dX12_starves_51 : decode cX12_starves 51 = .ok (.goto (-25), 3) := by decide +kernel
theorem dX12_starves_54 : decode cX12_starves 54 = .ok (.aload_n 0, 1) := by decide +kernel
theorem dX12_starves_55 : decode cX12_starves 55 = .ok (.iconst 0, 1) := by decide +kernel
theorem dX12_starves_56 : decode cX12_starves 56 = .ok (.invokevirtual 292, 3) := by decide +kernel
theorem dX12_starves_59 : decode cX12_starves 59 = .ok (.istore_n 3, 1) := by decide +kernel
theorem dX12_starves_60 : decode cX12_starves 60 = .ok (.iinc 2 1, 3) := by decide +kernel
theorem dX12_starves_63 : decode cX12_starves 63 = .ok (.goto (-50), 3) := by decide +kernel
theorem dX12_starves_66 : decode cX12_starves 66 = .ok (.aload_n 0, 1) := by decide +kernel
theorem dX12_starves_67 : decode cX12_starves 67 = .ok (.invokevirtual 201, 3) := by decide +kernel
theorem dX12_starves_70 : decode cX12_starves 70 = .ok (.iload_n 1, 1) := by decide +kernel
theorem dX12_starves_71 : decode cX12_starves 71 = .ok (.ireturn, 1) := by decide +kernel
theorem dX12_farOf_0 : decode cX12_farOf 0 = .ok (.iload_n 1, 1) := by decide +kernel
theorem dX12_farOf_1 : decode cX12_farOf 1 = .ok (.iload_n 2, 1) := by decide +kernel
theorem dX12_farOf_2 : decode cX12_farOf 2 = .ok (.invokestatic 331, 3) := by decide +kernel
theorem dX12_farOf_5 : decode cX12_farOf 5 = .ok (.iconst 1, 1) := by decide +kernel
theorem dX12_farOf_6 : decode cX12_farOf 6 = .ok (.aload_n 0, 1) := by decide +kernel
theorem dX12_farOf_7 : decode cX12_farOf 7 = .ok (.getfield 7, 3) := by decide +kernel
theorem dX12_farOf_10 : decode cX12_farOf 10 = .ok (.bipush 9, 2) := by decide +kernel
theorem dX12_farOf_12 : decode cX12_farOf 12 = .ok (.iaload, 1) := by decide +kernel
theorem dX12_farOf_13 : decode cX12_farOf 13 = .ok (.invokestatic 266, 3) := by decide +kernel
theorem dX12_farOf_16 : decode cX12_farOf 16 = .ok (.iload_n 1, 1) := by decide +kernel
theorem dX12_farOf_17 : decode cX12_farOf 17 = .ok (.bipush 8, 2) := by decide +kernel
theorem dX12_farOf_19 : decode cX12_farOf 19 = .ok (.iadd, 1) := by decide +kernel
theorem dX12_farOf_20 : decode cX12_farOf 20 = .ok (.bipush 16, 2) := by decide +kernel
theorem dX12_farOf_22 : decode cX12_farOf 22 = .ok (.irem, 1) := by decide +kernel
theorem dX12_farOf_23 : decode cX12_farOf 23 = .ok (.iload_n 2, 1) := by decide +kernel
theorem dX12_farOf_24 : decode cX12_farOf 24 = .ok (.invokestatic 331, 3) := by decide +kernel
theorem dX12_farOf_27 : decode cX12_farOf 27 = .ok (.iadd, 1) := by decide +kernel
theorem dX12_farOf_28 : decode cX12_farOf 28 = .ok (.invokestatic 73, 3) := by decide +kernel
theorem dX12_farOf_31 : decode cX12_farOf 31 = .ok (.ireturn, 1) := by decide +kernel
theorem dX12_far_0 : decode cX12_far 0 = .ok (.aload_n 0, 1) := by decide +kernel
theorem dX12_far_1 : decode cX12_far 1 = .ok (.iload_n 1, 1) := by decide +kernel
theorem dX12_far_2 : decode cX12_far 2 = .ok (.invokestatic 304, 3) := by decide +kernel
theorem dX12_far_5 : decode cX12_far 5 = .ok (.ifCond .eq 10, 3) := by decide +kernel
theorem dX12_far_8 : decode cX12_far 8 = .ok (.iload_n 2, 1) := by decide +kernel
theorem dX12_far_9 : decode cX12_far 9 = .ok (.invokestatic 304, 3) := by decide +kernel
theorem dX12_far_12 : decode cX12_far 12 = .ok (.ifCond .ne 7, 3) := by decide +kernel
theorem dX12_far_15 : decode cX12_far 15 = .ok (.iconst 1, 1) := by decide +kernel
theorem dX12_far_16 : decode cX12_far 16 = .ok (.goto 4, 3) := by decide +kernel
theorem dX12_far_19 : decode cX12_far 19 = .ok (.iconst 0, 1) := by decide +kernel
theorem dX12_far_20 : decode cX12_far 20 = .ok (.putfield 58, 3) := by decide +kernel
theorem dX12_far_23 : decode cX12_far 23 = .ok (.aload_n 0, 1) := by decide +kernel
theorem dX12_far_24 : decode cX12_far 24 = .ok (.getfield 58, 3) := by decide +kernel
theorem dX12_far_27 : decode cX12_far 27 = .ok (.ifCond .le 7, 3) := by decide +kernel
theorem dX12_far_30 : decode cX12_far 30 = .ok (.iconst 0, 1) := by decide +kernel
theorem dX12_far_31 : decode cX12_far 31 = .ok (.goto 9, 3) := by decide +kernel
theorem dX12_far_34 : decode cX12_far 34 = .ok (.aload_n 0, 1) := by decide +kernel
theorem dX12_far_35 : decode cX12_far 35 = .ok (.iload_n 1, 1) := by decide +kernel
theorem dX12_far_36 : decode cX12_far 36 = .ok (.iload_n 2, 1) := by decide +kernel
theorem dX12_far_37 : decode cX12_far 37 = .ok (.invokevirtual 334, 3) := by decide +kernel
theorem dX12_far_40 : decode cX12_far 40 = .ok (.ireturn, 1) := by decide +kernel
theorem dX12_areFlags_0 : decode cX12_areFlags 0 = .ok (.iload_n 1, 1) := by decide +kernel
theorem dX12_areFlags_1 : decode cX12_areFlags 1 = .ok (.bipush 7, 2) := by decide +kernel
theorem dX12_areFlags_3 : decode cX12_areFlags 3 = .ok (.if_icmp .gt 7, 3) := by decide +kernel
theorem dX12_areFlags_6 : decode cX12_areFlags 6 = .ok (.iconst 1, 1) := by decide +kernel
theorem dX12_areFlags_7 : decode cX12_areFlags 7 = .ok (.goto 4, 3) := by decide +kernel
theorem dX12_areFlags_10 : decode cX12_areFlags 10 = .ok (.iconst 0, 1) := by decide +kernel
theorem dX12_areFlags_11 : decode cX12_areFlags 11 = .ok (.istore_n 2, 1) := by decide +kernel
theorem dX12_areFlags_12 : decode cX12_areFlags 12 = .ok (.iconst 0, 1) := by decide +kernel
theorem dX12_areFlags_13 : decode cX12_areFlags 13 = .ok (.istore_n 3, 1) := by decide +kernel
theorem dX12_areFlags_14 : decode cX12_areFlags 14 = .ok (.iconst 0, 1) := by decide +kernel
theorem dX12_areFlags_15 : decode cX12_areFlags 15 = .ok (.istore 4, 2) := by decide +kernel
theorem dX12_areFlags_17 : decode cX12_areFlags 17 = .ok (.iload 4, 2) := by decide +kernel
theorem dX12_areFlags_19 : decode cX12_areFlags 19 = .ok (.iload_n 1, 1) := by decide +kernel
theorem dX12_areFlags_20 : decode cX12_areFlags 20 = .ok (.if_icmp .ge 65, 3) := by decide +kernel
theorem dX12_areFlags_23 : decode cX12_areFlags 23 = .ok (.iload_n 2, 1) := by decide +kernel
theorem dX12_areFlags_24 : decode cX12_areFlags 24 = .ok (.ifCond .eq 61, 3) := by decide +kernel
theorem dX12_areFlags_27 : decode cX12_areFlags 27 = .ok (.aload_n 0, 1) := by decide +kernel
theorem dX12_areFlags_28 : decode cX12_areFlags 28 = .ok (.getfield 22, 3) := by decide +kernel
theorem dX12_areFlags_31 : decode cX12_areFlags 31 = .ok (.iload 4, 2) := by decide +kernel
theorem dX12_areFlags_33 : decode cX12_areFlags 33 = .ok (.iaload, 1) := by decide +kernel
theorem dX12_areFlags_34 : decode cX12_areFlags 34 = .ok (.bipush 16, 2) := by decide +kernel
theorem dX12_areFlags_36 : decode cX12_areFlags 36 = .ok (.if_icmp .ge 21, 3) := by decide +kernel
theorem dX12_areFlags_39 : decode cX12_areFlags 39 = .ok (.iload_n 3, 1) := by decide +kernel
theorem dX12_areFlags_40 : decode cX12_areFlags 40 = .ok (.aload_n 0, 1) := by decide +kernel
theorem dX12_areFlags_41 : decode cX12_areFlags 41 = .ok (.getfield 22, 3) := by decide +kernel
theorem dX12_areFlags_44 : decode cX12_areFlags 44 = .ok (.iload 4, 2) := by decide +kernel
theorem dX12_areFlags_46 : decode cX12_areFlags 46 = .ok (.iaload, 1) := by decide +kernel
theorem dX12_areFlags_47 : decode cX12_areFlags 47 = .ok (.invokestatic 119, 3) := by decide +kernel
theorem dX12_areFlags_50 : decode cX12_areFlags 50 = .ok (.ifCond .ne 7, 3) := by decide +kernel
theorem dX12_areFlags_53 : decode cX12_areFlags 53 = .ok (.iconst 1, 1) := by decide +kernel
theorem dX12_areFlags_54 : decode cX12_areFlags 54 = .ok (.goto 4, 3) := by decide +kernel
theorem dX12_areFlags_57 : decode cX12_areFlags 57 = .ok (.iconst 0, 1) := by decide +kernel
theorem dX12_areFlags_58 : decode cX12_areFlags 58 = .ok (.istore_n 2, 1) := by decide +kernel
theorem dX12_areFlags_59 : decode cX12_areFlags 59 = .ok (.iload_n 3, 1) := by decide +kernel
theorem dX12_areFlags_60 : decode cX12_areFlags 60 = .ok (.iload_n 2, 1) := by decide +kernel
theorem dX12_areFlags_61 : decode cX12_areFlags 61 = .ok (.ifCond .eq 15, 3) := by decide +kernel
theorem dX12_areFlags_64 : decode cX12_areFlags 64 = .ok (.iconst 1, 1) := by decide +kernel
theorem dX12_areFlags_65 : decode cX12_areFlags 65 = .ok (.aload_n 0, 1) := by decide +kernel
theorem dX12_areFlags_66 : decode cX12_areFlags 66 = .ok (.getfield 22, 3) := by decide +kernel
theorem dX12_areFlags_69 : decode cX12_areFlags 69 = .ok (.iload 4, 2) := by decide +kernel
theorem dX12_areFlags_71 : decode cX12_areFlags 71 = .ok (.iaload, 1) := by decide +kernel
theorem dX12_areFlags_72 : decode cX12_areFlags 72 = .ok (.ishl, 1) := by decide +kernel
theorem dX12_areFlags_73 : decode cX12_areFlags 73 = .ok (.goto 4, 3) := by decide +kernel
theorem dX12_areFlags_76 : decode cX12_areFlags 76 = .ok (.iconst 0, 1) := by decide +kernel
theorem dX12_areFlags_77 : decode cX12_areFlags 77 = .ok (.ior, 1) := by decide +kernel
theorem dX12_areFlags_78 : decode cX12_areFlags 78 = .ok (.istore_n 3, 1) := by decide +kernel
theorem dX12_areFlags_79 : decode cX12_areFlags 79 = .ok (.iinc 4 1, 3) := by decide +kernel
theorem dX12_areFlags_82 : decode cX12_areFlags 82 = .ok (.goto (-65), 3) := by decide +kernel
theorem dX12_areFlags_85 : decode cX12_areFlags 85 = .ok (.iload_n 2, 1) := by decide +kernel
theorem dX12_areFlags_86 : decode cX12_areFlags 86 = .ok (.ireturn, 1) := by decide +kernel
theorem dX12_roadsOf_0 : decode cX12_roadsOf 0 = .ok (.iconst 1, 1) := by decide +kernel
theorem dX12_roadsOf_1 : decode cX12_roadsOf 1 = .ok (.iload_n 1, 1) := by decide +kernel
theorem dX12_roadsOf_2 : decode cX12_roadsOf 2 = .ok (.ishl, 1) := by decide +kernel
theorem dX12_roadsOf_3 : decode cX12_roadsOf 3 = .ok (.iconst 1, 1) := by decide +kernel
theorem dX12_roadsOf_4 : decode cX12_roadsOf 4 = .ok (.isub, 1) := by decide +kernel
theorem dX12_roadsOf_5 : decode cX12_roadsOf 5 = .ok (.istore_n 2, 1) := by decide +kernel
theorem dX12_roadsOf_6 : decode cX12_roadsOf 6 = .ok (.iload_n 2, 1) := by decide +kernel
theorem dX12_roadsOf_7 : decode cX12_roadsOf 7 = .ok (.ifCond .lt 119, 3) := by decide +kernel
theorem dX12_roadsOf_10 : decode cX12_roadsOf 10 = .ok (.iconst 0, 1) := by decide +kernel
theorem dX12_roadsOf_11 : decode cX12_roadsOf 11 = .ok (.istore_n 3, 1) := by decide +kernel
theorem dX12_roadsOf_12 : decode cX12_roadsOf 12 = .ok (.iload_n 3, 1) := by decide +kernel
theorem dX12_roadsOf_13 : decode cX12_roadsOf 13 = .ok (.iload_n 1, 1) := by decide +kernel
theorem dX12_roadsOf_14 : decode cX12_roadsOf 14 = .ok (.if_icmp .ge 106, 3) := by decide +kernel
theorem dX12_roadsOf_17 : decode cX12_roadsOf 17 = .ok (.iload_n 2, 1) := by decide +kernel
theorem dX12_roadsOf_18 : decode cX12_roadsOf 18 = .ok (.iconst 1, 1) := by decide +kernel
theorem dX12_roadsOf_19 : decode cX12_roadsOf 19 = .ok (.iload_n 1, 1) := by decide +kernel
theorem dX12_roadsOf_20 : decode cX12_roadsOf 20 = .ok (.ishl, 1) := by decide +kernel
theorem dX12_roadsOf_21 : decode cX12_roadsOf 21 = .ok (.iconst 1, 1) := by decide +kernel
theorem dX12_roadsOf_22 : decode cX12_roadsOf 22 = .ok (.isub, 1) := by decide +kernel
theorem dX12_roadsOf_23 : decode cX12_roadsOf 23 = .ok (.if_icmp .ne 7, 3) := by decide +kernel
theorem dX12_roadsOf_26 : decode cX12_roadsOf 26 = .ok (.iconst 0, 1) := by decide +kernel
theorem dX12_roadsOf_27 : decode cX12_roadsOf 27 = .ok (.goto 6, 3) := by decide +kernel
theorem dX12_roadsOf_30 : decode cX12_roadsOf 30 = .ok (.ldc_w 327, 3) := by decide +kernel
theorem dX12_roadsOf_33 : decode cX12_roadsOf 33 = .ok (.istore 4, 2) := by decide +kernel
theorem dX12_roadsOf_35 : decode cX12_roadsOf 35 = .ok (.iconst 0, 1) := by decide +kernel
theorem dX12_roadsOf_36 : decode cX12_roadsOf 36 = .ok (.istore 5, 2) := by decide +kernel
theorem dX12_roadsOf_38 : decode cX12_roadsOf 38 = .ok (.iload 5, 2) := by decide +kernel
theorem dX12_roadsOf_40 : decode cX12_roadsOf 40 = .ok (.iload_n 1, 1) := by decide +kernel
theorem dX12_roadsOf_41 : decode cX12_roadsOf 41 = .ok (.if_icmp .ge 60, 3) := by decide +kernel
theorem dX12_roadsOf_44 : decode cX12_roadsOf 44 = .ok (.iload_n 2, 1) := by decide +kernel
theorem dX12_roadsOf_45 : decode cX12_roadsOf 45 = .ok (.iload 5, 2) := by decide +kernel
theorem dX12_roadsOf_47 : decode cX12_roadsOf 47 = .ok (.invokestatic 119, 3) := by decide +kernel
theorem dX12_roadsOf_50 : decode cX12_roadsOf 50 = .ok (.ifCond .ne 45, 3) := by decide +kernel
theorem dX12_roadsOf_53 : decode cX12_roadsOf 53 = .ok (.iload 4, 2) := by decide +kernel
theorem dX12_roadsOf_55 : decode cX12_roadsOf 55 = .ok (.aload_n 0, 1) := by decide +kernel
theorem dX12_roadsOf_56 : decode cX12_roadsOf 56 = .ok (.aload_n 0, 1) := by decide +kernel
theorem dX12_roadsOf_57 : decode cX12_roadsOf 57 = .ok (.getfield 22, 3) := by decide +kernel
theorem dX12_roadsOf_60 : decode cX12_roadsOf 60 = .ok (.iload_n 3, 1) := by decide +kernel
theorem dX12_roadsOf_61 : decode cX12_roadsOf 61 = .ok (.iaload, 1) := by decide +kernel
theorem dX12_roadsOf_62 : decode cX12_roadsOf 62 = .ok (.aload_n 0, 1) := by decide +kernel
theorem dX12_roadsOf_63 : decode cX12_roadsOf 63 = .ok (.getfield 22, 3) := by decide +kernel
theorem dX12_roadsOf_66 : decode cX12_roadsOf 66 = .ok (.iload 5, 2) := by decide +kernel
theorem dX12_roadsOf_68 : decode cX12_roadsOf 68 = .ok (.iaload, 1) := by decide +kernel
theorem dX12_roadsOf_69 : decode cX12_roadsOf 69 = .ok (.invokevirtual 334, 3) := by decide +kernel
theorem dX12_roadsOf_72 : decode cX12_roadsOf 72 = .ok (.aload_n 0, 1) := by decide +kernel
theorem dX12_roadsOf_73 : decode cX12_roadsOf 73 = .ok (.getfield 42, 3) := by decide +kernel
theorem dX12_roadsOf_76 : decode cX12_roadsOf 76 = .ok (.bipush 8, 2) := by decide +kernel
theorem dX12_roadsOf_78 : decode cX12_roadsOf 78 = .ok (.iload_n 2, 1) := by decide +kernel
theorem dX12_roadsOf_79 : decode cX12_roadsOf 79 = .ok (.iconst 1, 1) := by decide +kernel
theorem dX12_roadsOf_80 : decode cX12_roadsOf 80 = .ok (.iload 5, 2) := by decide +kernel
theorem dX12_roadsOf_82 : decode cX12_roadsOf 82 = .ok (.ishl, 1) := by decide +kernel
theorem dX12_roadsOf_83 : decode cX12_roadsOf 83 = .ok (.ior, 1) := by decide +kernel
theorem dX12_roadsOf_84 : decode cX12_roadsOf 84 = .ok (.imul, 1) := by decide +kernel
theorem dX12_roadsOf_85 : decode cX12_roadsOf 85 = .ok (.iload 5, 2) := by decide +kernel
theorem dX12_roadsOf_87 : decode cX12_roadsOf 87 = .ok (.iadd, 1) := by decide +kernel
theorem dX12_roadsOf_88 : decode cX12_roadsOf 88 = .ok (.iaload, 1) := by decide +kernel
theorem dX12_roadsOf_89 : decode cX12_roadsOf 89 = .ok (.iadd, 1) := by decide +kernel
theorem dX12_roadsOf_90 : decode cX12_roadsOf 90 = .ok (.invokestatic 73, 3) := by decide +kernel
theorem dX12_roadsOf_93 : decode cX12_roadsOf 93 = .ok (.istore 4, 2) := by decide +kernel
theorem dX12_roadsOf_95 : decode cX12_roadsOf 95 = .ok (.iinc 5 1, 3) := by decide +kernel
theorem dX12_roadsOf_98 : decode cX12_roadsOf 98 = .ok (.goto (-60), 3) := by decide +kernel
theorem dX12_roadsOf_101 : decode cX12_roadsOf 101 = .ok (.aload_n 0, 1) := by decide +kernel
theorem dX12_roadsOf_102 : decode cX12_roadsOf 102 = .ok (.getfield 42, 3) := by decide +kernel
theorem dX12_roadsOf_105 : decode cX12_roadsOf 105 = .ok (.bipush 8, 2) := by decide +kernel
theorem dX12_roadsOf_107 : decode cX12_roadsOf 107 = .ok (.iload_n 2, 1) := by decide +kernel
theorem dX12_roadsOf_108 : decode cX12_roadsOf 108 = .ok (.imul, 1) := by decide +kernel
theorem dX12_roadsOf_109 : decode cX12_roadsOf 109 = .ok (.iload_n 3, 1) := by decide +kernel
theorem dX12_roadsOf_110 : decode cX12_roadsOf 110 = .ok (.iadd, 1) := by decide +kernel
theorem dX12_roadsOf_111 : decode cX12_roadsOf 111 = .ok (.iload 4, 2) := by decide +kernel
theorem dX12_roadsOf_113 : decode cX12_roadsOf 113 = .ok (.iastore, 1) := by decide +kernel
theorem dX12_roadsOf_114 : decode cX12_roadsOf 114 = .ok (.iinc 3 1, 3) := by decide +kernel
theorem dX12_roadsOf_117 : decode cX12_roadsOf 117 = .ok (.goto (-105), 3) := by decide +kernel
theorem dX12_roadsOf_120 : decode cX12_roadsOf 120 = .ok (.iinc 2 (-1), 3) := by decide +kernel
theorem dX12_roadsOf_123 : decode cX12_roadsOf 123 = .ok (.goto (-117), 3) := by decide +kernel
theorem dX12_roadsOf_126 : decode cX12_roadsOf 126 = .ok (.return_, 1) := by decide +kernel
theorem dX12_road_0 : decode cX12_road 0 = .ok (.aload_n 0, 1) := by decide +kernel
theorem dX12_road_1 : decode cX12_road 1 = .ok (.getfield 76, 3) := by decide +kernel
theorem dX12_road_4 : decode cX12_road 4 = .ok (.istore_n 3, 1) := by decide +kernel
theorem dX12_road_5 : decode cX12_road 5 = .ok (.aload_n 0, 1) := by decide +kernel
theorem dX12_road_6 : decode cX12_road 6 = .ok (.iconst 0, 1) := by decide +kernel
theorem dX12_road_7 : decode cX12_road 7 = .ok (.putfield 76, 3) := by decide +kernel
theorem dX12_road_10 : decode cX12_road 10 = .ok (.aload_n 0, 1) := by decide +kernel
theorem dX12_road_11 : decode cX12_road 11 = .ok (.iload_n 1, 1) := by decide +kernel
theorem dX12_road_12 : decode cX12_road 12 = .ok (.invokestatic 304, 3) := by decide +kernel
theorem dX12_road_15 : decode cX12_road 15 = .ok (.ifCond .ne 7, 3) := by decide +kernel
theorem dX12_road_18 : decode cX12_road 18 = .ok (.iconst 1, 1) := by decide +kernel
theorem dX12_road_19 : decode cX12_road 19 = .ok (.goto 16, 3) := by decide +kernel
theorem dX12_road_22 : decode cX12_road 22 = .ok (.aload_n 0, 1) := by decide +kernel
theorem dX12_road_23 : decode cX12_road 23 = .ok (.iload_n 3, 1) := by decide +kernel
theorem dX12_road_24 : decode cX12_road 24 = .ok (.invokevirtual 337, 3) := by decide +kernel
theorem dX12_road_27 : decode cX12_road 27 = .ok (.ifCond .ne 7, 3) := by decide +kernel
theorem dX12_road_30 : decode cX12_road 30 = .ok (.iconst 2, 1) := by decide +kernel
theorem dX12_road_31 : decode cX12_road 31 = .ok (.goto 4, 3) := by decide +kernel
theorem dX12_road_34 : decode cX12_road 34 = .ok (.iconst 0, 1) := by decide +kernel
theorem dX12_road_35 : decode cX12_road 35 = .ok (.putfield 58, 3) := by decide +kernel
theorem dX12_road_38 : decode cX12_road 38 = .ok (.aload_n 0, 1) := by decide +kernel
theorem dX12_road_39 : decode cX12_road 39 = .ok (.getfield 58, 3) := by decide +kernel
theorem dX12_road_42 : decode cX12_road 42 = .ok (.ifCond .le 5, 3) := by decide +kernel
theorem dX12_road_45 : decode cX12_road 45 = .ok (.iconst 0, 1) := by decide +kernel
theorem dX12_road_46 : decode cX12_road 46 = .ok (.ireturn, 1) := by decide +kernel
theorem dX12_road_47 : decode cX12_road 47 = .ok (.iload_n 3, 1) := by decide +kernel
theorem dX12_road_48 : decode cX12_road 48 = .ok (.ifCond .ne 13, 3) := by decide +kernel
theorem dX12_road_51 : decode cX12_road 51 = .ok (.iload_n 2, 1) := by decide +kernel
theorem dX12_road_52 : decode cX12_road 52 = .ok (.ifCond .eq 7, 3) := by decide +kernel
theorem dX12_road_55 : decode cX12_road 55 = .ok (.iconst (-1), 1) := by decide +kernel
theorem dX12_road_56 : decode cX12_road 56 = .ok (.goto 4, 3) := by decide +kernel
theorem dX12_road_59 : decode cX12_road 59 = .ok (.iconst 0, 1) := by decide +kernel
theorem dX12_road_60 : decode cX12_road 60 = .ok (.ireturn, 1) := by decide +kernel
theorem dX12_road_61 : decode cX12_road 61 = .ok (.aload_n 0, 1) := by decide +kernel
theorem dX12_road_62 : decode cX12_road 62 = .ok (.iload_n 3, 1) := by decide +kernel
theorem dX12_road_63 : decode cX12_road 63 = .ok (.invokevirtual 340, 3) := by decide +kernel
theorem dX12_road_66 : decode cX12_road 66 = .ok (.ldc_w 327, 3) := by decide +kernel
theorem dX12_road_69 : decode cX12_road 69 = .ok (.istore 4, 2) := by decide +kernel
theorem dX12_road_71 : decode cX12_road 71 = .ok (.bipush 16, 2) := by decide +kernel
theorem dX12_road_73 : decode cX12_road 73 = .ok (.istore 5, 2) := by decide +kernel
theorem dX12_road_75 : decode cX12_road 75 = .ok (.iconst 0, 1) := by decide +kernel
theorem dX12_road_76 : decode cX12_road 76 = .ok (.istore 6, 2) := by decide +kernel
theorem dX12_road_78 : decode cX12_road 78 = .ok (.iload 6, 2) := by decide +kernel
theorem dX12_road_80 : decode cX12_road 80 = .ok (.iload_n 3, 1) := by decide +kernel
theorem dX12_road_81 : decode cX12_road 81 = .ok (.if_icmp .ge 80, 3) := by decide +kernel
theorem dX12_road_84 : decode cX12_road 84 = .ok (.aload_n 0, 1) := by decide +kernel
theorem dX12_road_85 : decode cX12_road 85 = .ok (.iload_n 1, 1) := by decide +kernel
theorem dX12_road_86 : decode cX12_road 86 = .ok (.aload_n 0, 1) := by decide +kernel
theorem dX12_road_87 : decode cX12_road 87 = .ok (.getfield 22, 3) := by decide +kernel
theorem dX12_road_90 : decode cX12_road 90 = .ok (.iload 6, 2) := by decide +kernel
theorem dX12_road_92 : decode cX12_road 92 = .ok (.iaload, 1) := by decide +kernel
theorem dX12_road_93 : decode cX12_road 93 = .ok (.invokevirtual 334, 3) := by decide +kernel
theorem dX12_road_96 : decode cX12_road 96 = .ok (.aload_n 0, 1) := by decide +kernel
theorem dX12_road_97 : decode cX12_road 97 = .ok (.getfield 42, 3) := by decide +kernel
theorem dX12_road_100 : decode cX12_road 100 = .ok (.bipush 8, 2) := by decide +kernel
theorem dX12_road_102 : decode cX12_road 102 = .ok (.iconst 1, 1) := by decide +kernel
theorem dX12_road_103 : decode cX12_road 103 = .ok (.iload 6, 2) := by decide +kernel
theorem dX12_road_105 : decode cX12_road 105 = .ok (.ishl, 1) := by decide +kernel
theorem dX12_road_106 : decode cX12_road 106 = .ok (.imul, 1) := by decide +kernel
theorem dX12_road_107 : decode cX12_road 107 = .ok (.iload 6, 2) := by decide +kernel
theorem dX12_road_109 : decode cX12_road 109 = .ok (.iadd, 1) := by decide +kernel
theorem dX12_road_110 : decode cX12_road 110 = .ok (.iaload, 1) := by decide +kernel
theorem dX12_road_111 : decode cX12_road 111 = .ok (.iadd, 1) := by decide +kernel
theorem dX12_road_112 : decode cX12_road 112 = .ok (.istore 7, 2) := by decide +kernel
theorem dX12_road_114 : decode cX12_road 114 = .ok (.iload 7, 2) := by decide +kernel
theorem dX12_road_116 : decode cX12_road 116 = .ok (.iload 4, 2) := by decide +kernel
theorem dX12_road_118 : decode cX12_road 118 = .ok (.if_icmp .ge 7, 3) := by decide +kernel
theorem dX12_road_121 : decode cX12_road 121 = .ok (.bipush 16, 2) := by decide +kernel
theorem dX12_road_123 : decode cX12_road 123 = .ok (.istore 5, 2) := by decide +kernel
theorem dX12_road_125 : decode cX12_road 125 = .ok (.iload 7, 2) := by decide +kernel
theorem dX12_road_127 : decode cX12_road 127 = .ok (.iload 4, 2) := by decide +kernel
theorem dX12_road_129 : decode cX12_road 129 = .ok (.if_icmp .gt 17, 3) := by decide +kernel
theorem dX12_road_132 : decode cX12_road 132 = .ok (.iload 5, 2) := by decide +kernel
theorem dX12_road_134 : decode cX12_road 134 = .ok (.aload_n 0, 1) := by decide +kernel
theorem dX12_road_135 : decode cX12_road 135 = .ok (.getfield 22, 3) := by decide +kernel
theorem dX12_road_138 : decode cX12_road 138 = .ok (.iload 6, 2) := by decide +kernel
theorem dX12_road_140 : decode cX12_road 140 = .ok (.iaload, 1) := by decide +kernel
theorem dX12_road_141 : decode cX12_road 141 = .ok (.invokestatic 73, 3) := by decide +kernel
theorem dX12_road_144 : decode cX12_road 144 = .ok (.istore 5, 2) := by decide +kernel
theorem dX12_road_146 : decode cX12_road 146 = .ok (.iload 4, 2) := by decide +kernel
theorem dX12_road_148 : decode cX12_road 148 = .ok (.iload 7, 2) := by decide +kernel
theorem dX12_road_150 : decode cX12_road 150 = .ok (.invokestatic 73, 3) := by decide +kernel
theorem dX12_road_153 : decode cX12_road 153 = .ok (.istore 4, 2) := by decide +kernel
theorem dX12_road_155 : decode cX12_road 155 = .ok (.iinc 6 1, 3) := by decide +kernel
theorem dX12_road_158 : decode cX12_road 158 = .ok (.goto (-80), 3) := by decide +kernel
theorem dX12_road_161 : decode cX12_road 161 = .ok (.iload_n 2, 1) := by decide +kernel
theorem dX12_road_162 : decode cX12_road 162 = .ok (.ifCond .eq 8, 3) := by decide +kernel
theorem dX12_road_165 : decode cX12_road 165 = .ok (.iload 5, 2) := by decide +kernel
theorem dX12_road_167 : decode cX12_road 167 = .ok (.goto 5, 3) := by decide +kernel
theorem dX12_road_170 : decode cX12_road 170 = .ok (.iload 4, 2) := by decide +kernel
theorem dX12_road_172 : decode cX12_road 172 = .ok (.ireturn, 1) := by decide +kernel
theorem dX12_seatsOf_0 : decode cX12_seatsOf 0 = .ok (.iconst 0, 1) := by decide +kernel
theorem dX12_seatsOf_1 : decode cX12_seatsOf 1 = .ok (.istore_n 1, 1) := by decide +kernel
theorem dX12_seatsOf_2 : decode cX12_seatsOf 2 = .ok (.iload_n 1, 1) := by decide +kernel
theorem dX12_seatsOf_3 : decode cX12_seatsOf 3 = .ok (.sipush 4096, 3) := by decide +kernel
theorem dX12_seatsOf_6 : decode cX12_seatsOf 6 = .ok (.if_icmp .ge 27, 3) := by decide +kernel
theorem dX12_seatsOf_9 : decode cX12_seatsOf 9 = .ok (.aload_n 0, 1) := by decide +kernel
theorem dX12_seatsOf_10 : decode cX12_seatsOf 10 = .ok (.getfield 36, 3) := by decide +kernel
theorem dX12_seatsOf_13 : decode cX12_seatsOf 13 = .ok (.sipush 4096, 3) := by decide +kernel
theorem dX12_seatsOf_16 : decode cX12_seatsOf 16 = .ok (.aload_n 0, 1) := by decide +kernel
theorem dX12_seatsOf_17 : decode cX12_seatsOf 17 = .ok (.getfield 7, 3) := by decide +kernel
theorem dX12_seatsOf_20 : decode cX12_seatsOf 20 = .ok (.iconst 3, 1) := by decide +kernel
theorem dX12_seatsOf_21 : decode cX12_seatsOf 21 = .ok (.iaload, 1) := by decide +kernel
theorem dX12_seatsOf_22 : decode cX12_seatsOf 22 = .ok (.imul, 1) := by decide +kernel
theorem dX12_seatsOf_23 : decode cX12_seatsOf 23 = .ok (.iload_n 1, 1) := by decide +kernel
theorem dX12_seatsOf_24 : decode cX12_seatsOf 24 = .ok (.iadd, 1) := by decide +kernel
theorem dX12_seatsOf_25 : decode cX12_seatsOf 25 = .ok (.iconst 0, 1) := by decide +kernel
theorem dX12_seatsOf_26 : decode cX12_seatsOf 26 = .ok (.iastore, 1) := by decide +kernel
theorem dX12_seatsOf_27 : decode cX12_seatsOf 27 = .ok (.iinc 1 1, 3) := by decide +kernel
theorem dX12_seatsOf_30 : decode cX12_seatsOf 30 = .ok (.goto (-28), 3) := by decide +kernel
theorem dX12_seatsOf_33 : decode cX12_seatsOf 33 = .ok (.aload_n 0, 1) := by decide +kernel
theorem dX12_seatsOf_34 : decode cX12_seatsOf 34 = .ok (.getfield 7, 3) := by decide +kernel
theorem dX12_seatsOf_37 : decode cX12_seatsOf 37 = .ok (.iconst 3, 1) := by decide +kernel
theorem dX12_seatsOf_38 : decode cX12_seatsOf 38 = .ok (.iaload, 1) := by decide +kernel
theorem dX12_seatsOf_39 : decode cX12_seatsOf 39 = .ok (.iconst 1, 1) := by decide +kernel
theorem dX12_seatsOf_40 : decode cX12_seatsOf 40 = .ok (.isub, 1) := by decide +kernel
theorem dX12_seatsOf_41 : decode cX12_seatsOf 41 = .ok (.istore_n 1, 1) := by decide +kernel
theorem dX12_seatsOf_42 : decode cX12_seatsOf 42 = .ok (.iload_n 1, 1) := by decide +kernel
theorem dX12_seatsOf_43 : decode cX12_seatsOf 43 = .ok (.ifCond .lt 116, 3) := by decide +kernel
theorem dX12_seatsOf_46 : decode cX12_seatsOf 46 = .ok (.iconst 0, 1) := by decide +kernel
theorem dX12_seatsOf_47 : decode cX12_seatsOf 47 = .ok (.istore_n 2, 1) := by decide +kernel
theorem dX12_seatsOf_48 : decode cX12_seatsOf 48 = .ok (.iload_n 2, 1) := by decide +kernel
theorem dX12_seatsOf_49 : decode cX12_seatsOf 49 = .ok (.sipush 4096, 3) := by decide +kernel
theorem dX12_seatsOf_52 : decode cX12_seatsOf 52 = .ok (.if_icmp .ge 101, 3) := by decide +kernel
theorem dX12_seatsOf_55 : decode cX12_seatsOf 55 = .ok (.aload_n 0, 1) := by decide +kernel
theorem dX12_seatsOf_56 : decode cX12_seatsOf 56 = .ok (.getfield 36, 3) := by decide +kernel
theorem dX12_seatsOf_59 : decode cX12_seatsOf 59 = .ok (.sipush 4096, 3) := by decide +kernel
theorem dX12_seatsOf_62 : decode cX12_seatsOf 62 = .ok (.iload_n 1, 1) := by decide +kernel
theorem dX12_seatsOf_63 : decode cX12_seatsOf 63 = .ok (.iconst 1, 1) := by decide +kernel
theorem dX12_seatsOf_64 : decode cX12_seatsOf 64 = .ok (.iadd, 1) := by decide +kernel
theorem dX12_seatsOf_65 : decode cX12_seatsOf 65 = .ok (.imul, 1) := by decide +kernel
theorem dX12_seatsOf_66 : decode cX12_seatsOf 66 = .ok (.iload_n 2, 1) := by decide +kernel
theorem dX12_seatsOf_67 : decode cX12_seatsOf 67 = .ok (.iadd, 1) := by decide +kernel
theorem dX12_seatsOf_68 : decode cX12_seatsOf 68 = .ok (.iaload, 1) := by decide +kernel
theorem dX12_seatsOf_69 : decode cX12_seatsOf 69 = .ok (.istore_n 3, 1) := by decide +kernel
theorem dX12_seatsOf_70 : decode cX12_seatsOf 70 = .ok (.aload_n 0, 1) := by decide +kernel
theorem dX12_seatsOf_71 : decode cX12_seatsOf 71 = .ok (.iload_n 1, 1) := by decide +kernel
theorem dX12_seatsOf_72 : decode cX12_seatsOf 72 = .ok (.iconst 3, 1) := by decide +kernel
theorem dX12_seatsOf_73 : decode cX12_seatsOf 73 = .ok (.invokevirtual 65, 3) := by decide +kernel
theorem dX12_seatsOf_76 : decode cX12_seatsOf 76 = .ok (.iload_n 2, 1) := by decide +kernel
theorem dX12_seatsOf_77 : decode cX12_seatsOf 77 = .ok (.iconst (-1), 1) := by decide +kernel
theorem dX12_seatsOf_78 : decode cX12_seatsOf 78 = .ok (.ixor, 1) := by decide +kernel
theorem dX12_seatsOf_79 : decode cX12_seatsOf 79 = .ok (.iand, 1) := by decide +kernel
theorem dX12_seatsOf_80 : decode cX12_seatsOf 80 = .ok (.istore 4, 2) := by decide +kernel
theorem dX12_seatsOf_82 : decode cX12_seatsOf 82 = .ok (.iconst 0, 1) := by decide +kernel
theorem dX12_seatsOf_83 : decode cX12_seatsOf 83 = .ok (.istore 5, 2) := by decide +kernel
theorem dX12_seatsOf_85 : decode cX12_seatsOf 85 = .ok (.iload 5, 2) := by decide +kernel
theorem dX12_seatsOf_87 : decode cX12_seatsOf 87 = .ok (.bipush 12, 2) := by decide +kernel
theorem dX12_seatsOf_89 : decode cX12_seatsOf 89 = .ok (.if_icmp .ge 45, 3) := by decide +kernel
theorem dX12_seatsOf_92 : decode cX12_seatsOf 92 = .ok (.iload 4, 2) := by decide +kernel
theorem dX12_seatsOf_94 : decode cX12_seatsOf 94 = .ok (.iload 5, 2) := by decide +kernel
theorem dX12_seatsOf_96 : decode cX12_seatsOf 96 = .ok (.invokestatic 119, 3) := by decide +kernel
theorem dX12_seatsOf_99 : decode cX12_seatsOf 99 = .ok (.ifCond .eq 29, 3) := by decide +kernel
theorem dX12_seatsOf_102 : decode cX12_seatsOf 102 = .ok (.iload_n 3, 1) := by decide +kernel
theorem dX12_seatsOf_103 : decode cX12_seatsOf 103 = .ok (.iconst 1, 1) := by decide +kernel
theorem dX12_seatsOf_104 : decode cX12_seatsOf 104 = .ok (.aload_n 0, 1) := by decide +kernel
theorem dX12_seatsOf_105 : decode cX12_seatsOf 105 = .ok (.getfield 36, 3) := by decide +kernel
theorem dX12_seatsOf_108 : decode cX12_seatsOf 108 = .ok (.sipush 4096, 3) := by decide +kernel
theorem dX12_seatsOf_111 : decode cX12_seatsOf 111 = .ok (.iload_n 1, 1) := by decide +kernel
theorem dX12_seatsOf_112 : decode cX12_seatsOf 112 = .ok (.iconst 1, 1) := by decide +kernel
theorem dX12_seatsOf_113 : decode cX12_seatsOf 113 = .ok (.iadd, 1) := by decide +kernel
theorem dX12_seatsOf_114 : decode cX12_seatsOf 114 = .ok (.imul, 1) := by decide +kernel
theorem dX12_seatsOf_115 : decode cX12_seatsOf 115 = .ok (.iload_n 2, 1) := by decide +kernel
theorem dX12_seatsOf_116 : decode cX12_seatsOf 116 = .ok (.iconst 1, 1) := by decide +kernel
theorem dX12_seatsOf_117 : decode cX12_seatsOf 117 = .ok (.iload 5, 2) := by decide +kernel
theorem dX12_seatsOf_119 : decode cX12_seatsOf 119 = .ok (.ishl, 1) := by decide +kernel
theorem dX12_seatsOf_120 : decode cX12_seatsOf 120 = .ok (.ior, 1) := by decide +kernel
theorem dX12_seatsOf_121 : decode cX12_seatsOf 121 = .ok (.iadd, 1) := by decide +kernel
theorem dX12_seatsOf_122 : decode cX12_seatsOf 122 = .ok (.iaload, 1) := by decide +kernel
theorem dX12_seatsOf_123 : decode cX12_seatsOf 123 = .ok (.iadd, 1) := by decide +kernel
theorem dX12_seatsOf_124 : decode cX12_seatsOf 124 = .ok (.invokestatic 266, 3) := by decide +kernel
theorem dX12_seatsOf_127 : decode cX12_seatsOf 127 = .ok (.istore_n 3, 1) := by decide +kernel
theorem dX12_seatsOf_128 : decode cX12_seatsOf 128 = .ok (.iinc 5 1, 3) := by decide +kernel
theorem dX12_seatsOf_131 : decode cX12_seatsOf 131 = .ok (.goto (-46), 3) := by decide +kernel
theorem dX12_seatsOf_134 : decode cX12_seatsOf 134 = .ok (.aload_n 0, 1) := by decide +kernel
theorem dX12_seatsOf_135 : decode cX12_seatsOf 135 = .ok (.getfield 36, 3) := by decide +kernel
theorem dX12_seatsOf_138 : decode cX12_seatsOf 138 = .ok (.sipush 4096, 3) := by decide +kernel
theorem dX12_seatsOf_141 : decode cX12_seatsOf 141 = .ok (.iload_n 1, 1) := by decide +kernel
theorem dX12_seatsOf_142 : decode cX12_seatsOf 142 = .ok (.imul, 1) := by decide +kernel
theorem dX12_seatsOf_143 : decode cX12_seatsOf 143 = .ok (.iload_n 2, 1) := by decide +kernel
theorem dX12_seatsOf_144 : decode cX12_seatsOf 144 = .ok (.iadd, 1) := by decide +kernel
theorem dX12_seatsOf_145 : decode cX12_seatsOf 145 = .ok (.iload_n 3, 1) := by decide +kernel
theorem dX12_seatsOf_146 : decode cX12_seatsOf 146 = .ok (.iastore, 1) := by decide +kernel
theorem dX12_seatsOf_147 : decode cX12_seatsOf 147 = .ok (.iinc 2 1, 3) := by decide +kernel
theorem dX12_seatsOf_150 : decode cX12_seatsOf 150 = .ok (.goto (-102), 3) := by decide +kernel
theorem dX12_seatsOf_153 : decode cX12_seatsOf 153 = .ok (.iinc 1 (-1), 3) := by decide +kernel
theorem dX12_seatsOf_156 : decode cX12_seatsOf 156 = .ok (.goto (-114), 3) := by decide +kernel
theorem dX12_seatsOf_159 : decode cX12_seatsOf 159 = .ok (.return_, 1) := by decide +kernel
theorem dX12_seats_0 : decode cX12_seats 0 = .ok (.aload_n 0, 1) := by decide +kernel
theorem dX12_seats_1 : decode cX12_seats 1 = .ok (.iload_n 1, 1) := by decide +kernel
theorem dX12_seats_2 : decode cX12_seats 2 = .ok (.iconst (-1), 1) := by decide +kernel
theorem dX12_seats_3 : decode cX12_seats 3 = .ok (.if_icmp .eq 15, 3) := by decide +kernel
theorem dX12_seats_6 : decode cX12_seats 6 = .ok (.aload_n 0, 1) := by decide +kernel
theorem dX12_seats_7 : decode cX12_seats 7 = .ok (.iload_n 1, 1) := by decide +kernel
theorem dX12_seats_8 : decode cX12_seats 8 = .ok (.invokevirtual 295, 3) := by decide +kernel
theorem dX12_seats_11 : decode cX12_seats 11 = .ok (.ifCond .ne 7, 3) := by decide +kernel
theorem dX12_seats_14 : decode cX12_seats 14 = .ok (.iconst 1, 1) := by decide +kernel
theorem dX12_seats_15 : decode cX12_seats 15 = .ok (.goto 4, 3) := by decide +kernel
theorem dX12_seats_18 : decode cX12_seats 18 = .ok (.iconst 0, 1) := by decide +kernel
theorem dX12_seats_19 : decode cX12_seats 19 = .ok (.putfield 58, 3) := by decide +kernel
theorem dX12_seats_22 : decode cX12_seats 22 = .ok (.aload_n 0, 1) := by decide +kernel
theorem dX12_seats_23 : decode cX12_seats 23 = .ok (.getfield 58, 3) := by decide +kernel
theorem dX12_seats_26 : decode cX12_seats 26 = .ok (.ifCond .le 5, 3) := by decide +kernel
theorem dX12_seats_29 : decode cX12_seats 29 = .ok (.iconst 0, 1) := by decide +kernel
theorem dX12_seats_30 : decode cX12_seats 30 = .ok (.ireturn, 1) := by decide +kernel
theorem dX12_seats_31 : decode cX12_seats 31 = .ok (.aload_n 0, 1) := by decide +kernel
theorem dX12_seats_32 : decode cX12_seats 32 = .ok (.invokevirtual 343, 3) := by decide +kernel
theorem dX12_seats_35 : decode cX12_seats 35 = .ok (.iload_n 1, 1) := by decide +kernel
theorem dX12_seats_36 : decode cX12_seats 36 = .ok (.iconst (-1), 1) := by decide +kernel
theorem dX12_seats_37 : decode cX12_seats 37 = .ok (.if_icmp .ne 10, 3) := by decide +kernel
theorem dX12_seats_40 : decode cX12_seats 40 = .ok (.aload_n 0, 1) := by decide +kernel
theorem dX12_seats_41 : decode cX12_seats 41 = .ok (.getfield 36, 3) := by decide +kernel
theorem dX12_seats_44 : decode cX12_seats 44 = .ok (.iconst 0, 1) := by decide +kernel
theorem dX12_seats_45 : decode cX12_seats 45 = .ok (.iaload, 1) := by decide +kernel
theorem dX12_seats_46 : decode cX12_seats 46 = .ok (.ireturn, 1) := by decide +kernel
theorem dX12_seats_47 : decode cX12_seats 47 = .ok (.iconst 0, 1) := by decide +kernel
theorem dX12_seats_48 : decode cX12_seats 48 = .ok (.istore_n 2, 1) := by decide +kernel
theorem dX12_seats_49 : decode cX12_seats 49 = .ok (.iconst (-1), 1) := by decide +kernel
theorem dX12_seats_50 : decode cX12_seats 50 = .ok (.istore_n 3, 1) := by decide +kernel
theorem dX12_seats_51 : decode cX12_seats 51 = .ok (.iconst 0, 1) := by decide +kernel
theorem dX12_seats_52 : decode cX12_seats 52 = .ok (.istore 4, 2) := by decide +kernel
theorem dX12_seats_54 : decode cX12_seats 54 = .ok (.iload 4, 2) := by decide +kernel
theorem dX12_seats_56 : decode cX12_seats 56 = .ok (.iload_n 1, 1) := by decide +kernel
theorem dX12_seats_57 : decode cX12_seats 57 = .ok (.if_icmp .gt 101, 3) := by decide +kernel
theorem dX12_seats_60 : decode cX12_seats 60 = .ok (.iconst (-1), 1) := by decide +kernel
theorem dX12_seats_61 : decode cX12_seats 61 = .ok (.istore_n 3, 1) := by decide +kernel
theorem dX12_seats_62 : decode cX12_seats 62 = .ok (.bipush 11, 2) := by decide +kernel
theorem dX12_seats_64 : decode cX12_seats 64 = .ok (.istore 5, 2) := by decide +kernel
theorem dX12_seats_66 : decode cX12_seats 66 = .ok (.iload 5, 2) := by decide +kernel
theorem dX12_seats_68 : decode cX12_seats 68 = .ok (.ifCond .lt 69, 3) := by decide +kernel
theorem dX12_seats_71 : decode cX12_seats 71 = .ok (.aload_n 0, 1) := by decide +kernel
theorem dX12_seats_72 : decode cX12_seats 72 = .ok (.iload 4, 2) := by decide +kernel
theorem dX12_seats_74 : decode cX12_seats 74 = .ok (.iconst 3, 1) := by decide +kernel
theorem dX12_seats_75 : decode cX12_seats 75 = .ok (.invokevirtual 65, 3) := by decide +kernel
theorem dX12_seats_78 : decode cX12_seats 78 = .ok (.iload_n 2, 1) := by decide +kernel
theorem dX12_seats_79 : decode cX12_seats 79 = .ok (.iconst (-1), 1) := by decide +kernel
theorem dX12_seats_80 : decode cX12_seats 80 = .ok (.ixor, 1) := by decide +kernel
theorem dX12_seats_81 : decode cX12_seats 81 = .ok (.iand, 1) := by decide +kernel
theorem dX12_seats_82 : decode cX12_seats 82 = .ok (.iload 5, 2) := by decide +kernel
theorem dX12_seats_84 : decode cX12_seats 84 = .ok (.invokestatic 119, 3) := by decide +kernel
theorem dX12_seats_87 : decode cX12_seats 87 = .ok (.ifCond .eq 44, 3) := by decide +kernel
theorem dX12_seats_90 : decode cX12_seats 90 = .ok (.iconst 1, 1) := by decide +kernel
theorem dX12_seats_91 : decode cX12_seats 91 = .ok (.aload_n 0, 1) := by decide +kernel
theorem dX12_seats_92 : decode cX12_seats 92 = .ok (.getfield 36, 3) := by decide +kernel
theorem dX12_seats_95 : decode cX12_seats 95 = .ok (.sipush 4096, 3) := by decide +kernel
theorem dX12_seats_98 : decode cX12_seats 98 = .ok (.iload 4, 2) := by decide +kernel
theorem dX12_seats_100 : decode cX12_seats 100 = .ok (.iconst 1, 1) := by decide +kernel
theorem dX12_seats_101 : decode cX12_seats 101 = .ok (.iadd, 1) := by decide +kernel
theorem dX12_seats_102 : decode cX12_seats 102 = .ok (.imul, 1) := by decide +kernel
theorem dX12_seats_103 : decode cX12_seats 103 = .ok (.iload_n 2, 1) := by decide +kernel
theorem dX12_seats_104 : decode cX12_seats 104 = .ok (.iconst 1, 1) := by decide +kernel
theorem dX12_seats_105 : decode cX12_seats 105 = .ok (.iload 5, 2) := by decide +kernel
theorem dX12_seats_107 : decode cX12_seats 107 = .ok (.ishl, 1) := by decide +kernel
theorem dX12_seats_108 : decode cX12_seats 108 = .ok (.ior, 1) := by decide +kernel
theorem dX12_seats_109 : decode cX12_seats 109 = .ok (.iadd, 1) := by decide +kernel
theorem dX12_seats_110 : decode cX12_seats 110 = .ok (.iaload, 1) := by decide +kernel
theorem dX12_seats_111 : decode cX12_seats 111 = .ok (.iadd, 1) := by decide +kernel
theorem dX12_seats_112 : decode cX12_seats 112 = .ok (.aload_n 0, 1) := by decide +kernel
theorem dX12_seats_113 : decode cX12_seats 113 = .ok (.getfield 36, 3) := by decide +kernel
theorem dX12_seats_116 : decode cX12_seats 116 = .ok (.sipush 4096, 3) := by decide +kernel
theorem dX12_seats_119 : decode cX12_seats 119 = .ok (.iload 4, 2) := by decide +kernel
theorem dX12_seats_121 : decode cX12_seats 121 = .ok (.imul, 1) := by decide +kernel
theorem dX12_seats_122 : decode cX12_seats 122 = .ok (.iload_n 2, 1) := by decide +kernel
theorem dX12_seats_123 : decode cX12_seats 123 = .ok (.iadd, 1) := by decide +kernel
theorem dX12_seats_124 : decode cX12_seats 124 = .ok (.iaload, 1) := by decide +kernel
theorem dX12_seats_125 : decode cX12_seats 125 = .ok (.if_icmp .ne 6, 3) := by decide +kernel
theorem dX12_seats_128 : decode cX12_seats 128 = .ok (.iload 5, 2) := by decide +kernel
theorem dX12_seats_130 : decode cX12_seats 130 = .ok (.istore_n 3, 1) := by decide +kernel
theorem dX12_seats_131 : decode cX12_seats 131 = .ok (.iinc 5 (-1), 3) := by decide +kernel
theorem dX12_seats_134 : decode cX12_seats 134 = .ok (.goto (-68), 3) := by decide +kernel
theorem dX12_seats_137 : decode cX12_seats 137 = .ok (.iload_n 2, 1) := by decide +kernel
theorem dX12_seats_138 : decode cX12_seats 138 = .ok (.iload_n 3, 1) := by decide +kernel
theorem dX12_seats_139 : decode cX12_seats 139 = .ok (.iconst (-1), 1) := by decide +kernel
theorem dX12_seats_140 : decode cX12_seats 140 = .ok (.if_icmp .ne 7, 3) := by decide +kernel
theorem dX12_seats_143 : decode cX12_seats 143 = .ok (.iconst 0, 1) := by decide +kernel
theorem dX12_seats_144 : decode cX12_seats 144 = .ok (.goto 6, 3) := by decide +kernel
theorem dX12_seats_147 : decode cX12_seats 147 = .ok (.iconst 1, 1) := by decide +kernel
theorem dX12_seats_148 : decode cX12_seats 148 = .ok (.iload_n 3, 1) := by decide +kernel
theorem dX12_seats_149 : decode cX12_seats 149 = .ok (.ishl, 1) := by decide +kernel
theorem dX12_seats_150 : decode cX12_seats 150 = .ok (.ior, 1) := by decide +kernel
theorem dX12_seats_151 : decode cX12_seats 151 = .ok (.istore_n 2, 1) := by decide +kernel
theorem dX12_seats_152 : decode cX12_seats 152 = .ok (.iinc 4 1, 3) := by decide +kernel
theorem dX12_seats_155 : decode cX12_seats 155 = .ok (.goto (-101), 3) := by decide +kernel
theorem dX12_seats_158 : decode cX12_seats 158 = .ok (.iload_n 3, 1) := by decide +kernel
theorem dX12_seats_159 : decode cX12_seats 159 = .ok (.ireturn, 1) := by decide +kernel
theorem dX12_likesOf_0 : decode cX12_likesOf 0 = .ok (.iconst 0, 1) := by decide +kernel
theorem dX12_likesOf_1 : decode cX12_likesOf 1 = .ok (.istore_n 2, 1) := by decide +kernel
theorem dX12_likesOf_2 : decode cX12_likesOf 2 = .ok (.iconst 0, 1) := by decide +kernel
theorem dX12_likesOf_3 : decode cX12_likesOf 3 = .ok (.istore_n 3, 1) := by decide +kernel
theorem dX12_likesOf_4 : decode cX12_likesOf 4 = .ok (.iload_n 3, 1) := by decide +kernel
theorem dX12_likesOf_5 : decode cX12_likesOf 5 = .ok (.aload_n 0, 1) := by decide +kernel
theorem dX12_likesOf_6 : decode cX12_likesOf 6 = .ok (.getfield 7, 3) := by decide +kernel
theorem dX12_likesOf_9 : decode cX12_likesOf 9 = .ok (.iconst 3, 1) := by decide +kernel
theorem dX12_likesOf_10 : decode cX12_likesOf 10 = .ok (.iaload, 1) := by decide +kernel
theorem dX12_likesOf_11 : decode cX12_likesOf 11 = .ok (.if_icmp .ge 30, 3) := by decide +kernel
theorem dX12_likesOf_14 : decode cX12_likesOf 14 = .ok (.iload_n 2, 1) := by decide +kernel
theorem dX12_likesOf_15 : decode cX12_likesOf 15 = .ok (.iload_n 1, 1) := by decide +kernel
theorem dX12_likesOf_16 : decode cX12_likesOf 16 = .ok (.iload_n 3, 1) := by decide +kernel
theorem dX12_likesOf_17 : decode cX12_likesOf 17 = .ok (.invokestatic 119, 3) := by decide +kernel
theorem dX12_likesOf_20 : decode cX12_likesOf 20 = .ok (.ifCond .eq 12, 3) := by decide +kernel
theorem dX12_likesOf_23 : decode cX12_likesOf 23 = .ok (.aload_n 0, 1) := by decide +kernel
theorem dX12_likesOf_24 : decode cX12_likesOf 24 = .ok (.iload_n 3, 1) := by decide +kernel
theorem dX12_likesOf_25 : decode cX12_likesOf 25 = .ok (.iconst 3, 1) := by decide +kernel
theorem dX12_likesOf_26 : decode cX12_likesOf 26 = .ok (.invokevirtual 65, 3) := by decide +kernel
theorem dX12_likesOf_29 : decode cX12_likesOf 29 = .ok (.goto 4, 3) := by decide +kernel
theorem dX12_likesOf_32 : decode cX12_likesOf 32 = .ok (.iconst 0, 1) := by decide +kernel
theorem dX12_likesOf_33 : decode cX12_likesOf 33 = .ok (.ior, 1) := by decide +kernel
theorem dX12_likesOf_34 : decode cX12_likesOf 34 = .ok (.istore_n 2, 1) := by decide +kernel
theorem dX12_likesOf_35 : decode cX12_likesOf 35 = .ok (.iinc 3 1, 3) := by decide +kernel
theorem dX12_likesOf_38 : decode cX12_likesOf 38 = .ok (.goto (-34), 3) := by decide +kernel
theorem dX12_likesOf_41 : decode cX12_likesOf 41 = .ok (.iload_n 2, 1) := by decide +kernel
theorem dX12_likesOf_42 : decode cX12_likesOf 42 = .ok (.ireturn, 1) := by decide +kernel
theorem dX12_shown_0 : decode cX12_shown 0 = .ok (.aload_n 0, 1) := by decide +kernel
theorem dX12_shown_1 : decode cX12_shown 1 = .ok (.iconst 0, 1) := by decide +kernel
theorem dX12_shown_2 : decode cX12_shown 2 = .ok (.putfield 58, 3) := by decide +kernel
theorem dX12_shown_5 : decode cX12_shown 5 = .ok (.iconst 0, 1) := by decide +kernel
theorem dX12_shown_6 : decode cX12_shown 6 = .ok (.istore_n 1, 1) := by decide +kernel
theorem dX12_shown_7 : decode cX12_shown 7 = .ok (.iconst 1, 1) := by decide +kernel
theorem dX12_shown_8 : decode cX12_shown 8 = .ok (.istore_n 2, 1) := by decide +kernel
theorem dX12_shown_9 : decode cX12_shown 9 = .ok (.iload_n 2, 1) := by decide +kernel
theorem dX12_shown_10 : decode cX12_shown 10 = .ok (.aload_n 0, 1) := by decide +kernel
theorem dX12_shown_11 : decode cX12_shown 11 = .ok (.invokevirtual 346, 3) := by decide +kernel
theorem dX12_shown_14 : decode cX12_shown 14 = .ok (.if_icmp .gt 41, 3) := by decide +kernel
theorem dX12_shown_17 : decode cX12_shown 17 = .ok (.aload_n 0, 1) := by decide +kernel
theorem dX12_shown_18 : decode cX12_shown 18 = .ok (.iload_n 2, 1) := by decide +kernel
theorem dX12_shown_19 : decode cX12_shown 19 = .ok (.invokevirtual 349, 3) := by decide +kernel
theorem dX12_shown_22 : decode cX12_shown 22 = .ok (.invokestatic 352, 3) := by decide +kernel
theorem dX12_shown_25 : decode cX12_shown 25 = .ok (.iload_n 2, 1) := by decide +kernel
theorem dX12_shown_26 : decode cX12_shown 26 = .ok (.invokestatic 352, 3) := by decide +kernel
theorem dX12_shown_29 : decode cX12_shown 29 = .ok (.if_icmp .ge 20, 3) := by decide +kernel
theorem dX12_shown_32 : decode cX12_shown 32 = .ok (.iload_n 1, 1) := by decide +kernel
theorem dX12_shown_33 : decode cX12_shown 33 = .ok (.ifCond .eq 14, 3) := by decide +kernel
theorem dX12_shown_36 : decode cX12_shown 36 = .ok (.iload_n 2, 1) := by decide +kernel
theorem dX12_shown_37 : decode cX12_shown 37 = .ok (.invokestatic 352, 3) := by decide +kernel
theorem dX12_shown_40 : decode cX12_shown 40 = .ok (.iload_n 1, 1) := by decide +kernel
theorem dX12_shown_41 : decode cX12_shown 41 = .ok (.invokestatic 352, 3) := by decide +kernel
theorem dX12_shown_44 : decode cX12_shown 44 = .ok (.if_icmp .ge 5, 3) := by decide +kernel
theorem dX12_shown_47 : decode cX12_shown 47 = .ok (.iload_n 2, 1) := by decide +kernel
theorem dX12_shown_48 : decode cX12_shown 48 = .ok (.istore_n 1, 1) := by decide +kernel
theorem dX12_shown_49 : decode cX12_shown 49 = .ok (.iinc 2 1, 3) := by decide +kernel
theorem dX12_shown_52 : decode cX12_shown 52 = .ok (.goto (-43), 3) := by decide +kernel
theorem dX12_shown_55 : decode cX12_shown 55 = .ok (.iload_n 1, 1) := by decide +kernel
theorem dX12_shown_56 : decode cX12_shown 56 = .ok (.ireturn, 1) := by decide +kernel
theorem dX12_serves_0 : decode cX12_serves 0 = .ok (.aload_n 0, 1) := by decide +kernel
theorem dX12_serves_1 : decode cX12_serves 1 = .ok (.iload_n 1, 1) := by decide +kernel
theorem dX12_serves_2 : decode cX12_serves 2 = .ok (.iconst 0, 1) := by decide +kernel
theorem dX12_serves_3 : decode cX12_serves 3 = .ok (.bipush 11, 2) := by decide +kernel
theorem dX12_serves_5 : decode cX12_serves 5 = .ok (.invokestatic 61, 3) := by decide +kernel
theorem dX12_serves_8 : decode cX12_serves 8 = .ok (.ifCond .ne 7, 3) := by decide +kernel
theorem dX12_serves_11 : decode cX12_serves 11 = .ok (.iconst 1, 1) := by decide +kernel
theorem dX12_serves_12 : decode cX12_serves 12 = .ok (.goto 4, 3) := by decide +kernel
theorem dX12_serves_15 : decode cX12_serves 15 = .ok (.iconst 0, 1) := by decide +kernel
theorem dX12_serves_16 : decode cX12_serves 16 = .ok (.putfield 58, 3) := by decide +kernel
theorem dX12_serves_19 : decode cX12_serves 19 = .ok (.aload_n 0, 1) := by decide +kernel
theorem dX12_serves_20 : decode cX12_serves 20 = .ok (.getfield 58, 3) := by decide +kernel
theorem dX12_serves_23 : decode cX12_serves 23 = .ok (.ifCond .le 5, 3) := by decide +kernel
theorem dX12_serves_26 : decode cX12_serves 26 = .ok (.iconst 0, 1) := by decide +kernel
theorem dX12_serves_27 : decode cX12_serves 27 = .ok (.ireturn, 1) := by decide +kernel
theorem dX12_serves_28 : decode cX12_serves 28 = .ok (.iconst 0, 1) := by decide +kernel
theorem dX12_serves_29 : decode cX12_serves 29 = .ok (.istore_n 2, 1) := by decide +kernel
theorem dX12_serves_30 : decode cX12_serves 30 = .ok (.iconst 0, 1) := by decide +kernel
theorem dX12_serves_31 : decode cX12_serves 31 = .ok (.istore_n 3, 1) := by decide +kernel
theorem dX12_serves_32 : decode cX12_serves 32 = .ok (.iload_n 3, 1) := by decide +kernel
theorem dX12_serves_33 : decode cX12_serves 33 = .ok (.aload_n 0, 1) := by decide +kernel
theorem dX12_serves_34 : decode cX12_serves 34 = .ok (.getfield 7, 3) := by decide +kernel
theorem dX12_serves_37 : decode cX12_serves 37 = .ok (.iconst 3, 1) := by decide +kernel
theorem dX12_serves_38 : decode cX12_serves 38 = .ok (.iaload, 1) := by decide +kernel
theorem dX12_serves_39 : decode cX12_serves 39 = .ok (.if_icmp .ge 32, 3) := by decide +kernel
theorem dX12_serves_42 : decode cX12_serves 42 = .ok (.iload_n 2, 1) := by decide +kernel
theorem dX12_serves_43 : decode cX12_serves 43 = .ok (.aload_n 0, 1) := by decide +kernel
theorem dX12_serves_44 : decode cX12_serves 44 = .ok (.iload_n 3, 1) := by decide +kernel
theorem dX12_serves_45 : decode cX12_serves 45 = .ok (.iconst 3, 1) := by decide +kernel
theorem dX12_serves_46 : decode cX12_serves 46 = .ok (.invokevirtual 65, 3) := by decide +kernel
theorem dX12_serves_49 : decode cX12_serves 49 = .ok (.iload_n 1, 1) := by decide +kernel
theorem dX12_serves_50 : decode cX12_serves 50 = .ok (.invokestatic 119, 3) := by decide +kernel
theorem dX12_serves_53 : decode cX12_serves 53 = .ok (.ifCond .eq 9, 3) := by decide +kernel
theorem dX12_serves_56 : decode cX12_serves 56 = .ok (.iconst 1, 1) := by decide +kernel
theorem dX12_serves_57 : decode cX12_serves 57 = .ok (.iload_n 3, 1) := by decide +kernel
theorem dX12_serves_58 : decode cX12_serves 58 = .ok (.ishl, 1) := by decide +kernel
theorem dX12_serves_59 : decode cX12_serves 59 = .ok (.goto 4, 3) := by decide +kernel
theorem dX12_serves_62 : decode cX12_serves 62 = .ok (.iconst 0, 1) := by decide +kernel
theorem dX12_serves_63 : decode cX12_serves 63 = .ok (.ior, 1) := by decide +kernel
theorem dX12_serves_64 : decode cX12_serves 64 = .ok (.istore_n 2, 1) := by decide +kernel
theorem dX12_serves_65 : decode cX12_serves 65 = .ok (.iinc 3 1, 3) := by decide +kernel
theorem dX12_serves_68 : decode cX12_serves 68 = .ok (.goto (-36), 3) := by decide +kernel
theorem dX12_serves_71 : decode cX12_serves 71 = .ok (.iload_n 2, 1) := by decide +kernel
theorem dX12_serves_72 : decode cX12_serves 72 = .ok (.ireturn, 1) := by decide +kernel
theorem dX12_pains_0 : decode cX12_pains 0 = .ok (.iload_n 2, 1) := by decide +kernel
theorem dX12_pains_1 : decode cX12_pains 1 = .ok (.aload_n 0, 1) := by decide +kernel
theorem dX12_pains_2 : decode cX12_pains 2 = .ok (.iload_n 1, 1) := by decide +kernel
theorem dX12_pains_3 : decode cX12_pains 3 = .ok (.iconst 2, 1) := by decide +kernel
theorem dX12_pains_4 : decode cX12_pains 4 = .ok (.invokevirtual 65, 3) := by decide +kernel
theorem dX12_pains_7 : decode cX12_pains 7 = .ok (.isub, 1) := by decide +kernel
theorem dX12_pains_8 : decode cX12_pains 8 = .ok (.bipush 12, 2) := by decide +kernel
theorem dX12_pains_10 : decode cX12_pains 10 = .ok (.iadd, 1) := by decide +kernel
theorem dX12_pains_11 : decode cX12_pains 11 = .ok (.bipush 12, 2) := by decide +kernel
theorem dX12_pains_13 : decode cX12_pains 13 = .ok (.irem, 1) := by decide +kernel
theorem dX12_pains_14 : decode cX12_pains 14 = .ok (.istore_n 3, 1) := by decide +kernel
theorem dX12_pains_15 : decode cX12_pains 15 = .ok (.aload_n 0, 1) := by decide +kernel
theorem dX12_pains_16 : decode cX12_pains 16 = .ok (.iload_n 1, 1) := by decide +kernel
theorem dX12_pains_17 : decode cX12_pains 17 = .ok (.iconst 3, 1) := by decide +kernel
theorem dX12_pains_18 : decode cX12_pains 18 = .ok (.invokevirtual 65, 3) := by decide +kernel
theorem dX12_pains_21 : decode cX12_pains 21 = .ok (.iload_n 2, 1) := by decide +kernel
theorem dX12_pains_22 : decode cX12_pains 22 = .ok (.invokestatic 119, 3) := by decide +kernel
theorem dX12_pains_25 : decode cX12_pains 25 = .ok (.ifCond .eq 7, 3) := by decide +kernel
theorem dX12_pains_28 : decode cX12_pains 28 = .ok (.iconst 0, 1) := by decide +kernel
theorem dX12_pains_29 : decode cX12_pains 29 = .ok (.goto 5, 3) := by decide +kernel
theorem dX12_pains_32 : decode cX12_pains 32 = .ok (.bipush 100, 2) := by decide +kernel
theorem dX12_pains_34 : decode cX12_pains 34 = .ok (.iload_n 3, 1) := by decide +kernel
theorem dX12_pains_35 : decode cX12_pains 35 = .ok (.bipush 12, 2) := by decide +kernel
theorem dX12_pains_37 : decode cX12_pains 37 = .ok (.iload_n 3, 1) := by decide +kernel
theorem dX12_pains_38 : decode cX12_pains 38 = .ok (.isub, 1) := by decide +kernel
theorem dX12_pains_39 : decode cX12_pains 39 = .ok (.invokestatic 73, 3) := by decide +kernel
theorem dX12_pains_42 : decode cX12_pains 42 = .ok (.iadd, 1) := by decide +kernel
theorem dX12_pains_43 : decode cX12_pains 43 = .ok (.ireturn, 1) := by decide +kernel
theorem dX12_pointsTo_0 : decode cX12_pointsTo 0 = .ok (.iconst (-1), 1) := by decide +kernel
theorem dX12_pointsTo_1 : decode cX12_pointsTo 1 = .ok (.istore_n 3, 1) := by decide +kernel
theorem dX12_pointsTo_2 : decode cX12_pointsTo 2 = .ok (.iconst 0, 1) := by decide +kernel
theorem dX12_pointsTo_3 : decode cX12_pointsTo 3 = .ok (.istore 4, 2) := by decide +kernel
theorem dX12_pointsTo_5 : decode cX12_pointsTo 5 = .ok (.iload 4, 2) := by decide +kernel
theorem dX12_pointsTo_7 : decode cX12_pointsTo 7 = .ok (.aload_n 0, 1) := by decide +kernel
theorem dX12_pointsTo_8 : decode cX12_pointsTo 8 = .ok (.getfield 7, 3) := by decide +kernel
theorem dX12_pointsTo_11 : decode cX12_pointsTo 11 = .ok (.iconst 3, 1) := by decide +kernel
theorem dX12_pointsTo_12 : decode cX12_pointsTo 12 = .ok (.iaload, 1) := by decide +kernel
theorem dX12_pointsTo_13 : decode cX12_pointsTo 13 = .ok (.if_icmp .ge 52, 3) := by decide +kernel
theorem dX12_pointsTo_16 : decode cX12_pointsTo 16 = .ok (.iload_n 2, 1) := by decide +kernel
theorem dX12_pointsTo_17 : decode cX12_pointsTo 17 = .ok (.iload 4, 2) := by decide +kernel
theorem dX12_pointsTo_19 : decode cX12_pointsTo 19 = .ok (.invokestatic 119, 3) := by decide +kernel
theorem dX12_pointsTo_22 : decode cX12_pointsTo 22 = .ok (.ifCond .eq 37, 3) := by decide +kernel
theorem dX12_pointsTo_25 : decode cX12_pointsTo 25 = .ok (.iload_n 3, 1) := by decide +kernel
theorem dX12_pointsTo_26 : decode cX12_pointsTo 26 = .ok (.iconst (-1), 1) := by decide +kernel
theorem dX12_pointsTo_27 : decode cX12_pointsTo 27 = .ok (.if_icmp .eq 29, 3) := by decide +kernel
theorem dX12_pointsTo_30 : decode cX12_pointsTo 30 = .ok (.aload_n 0, 1) := by decide +kernel
theorem dX12_pointsTo_31 : decode cX12_pointsTo 31 = .ok (.iload_n 1, 1) := by decide +kernel
theorem dX12_pointsTo_32 : decode cX12_pointsTo 32 = .ok (.aload_n 0, 1) := by decide +kernel
theorem dX12_pointsTo_33 : decode cX12_pointsTo 33 = .ok (.iload 4, 2) := by decide +kernel
theorem dX12_pointsTo_35 : decode cX12_pointsTo 35 = .ok (.iconst 2, 1) := by decide +kernel
theorem dX12_pointsTo_36 : decode cX12_pointsTo 36 = .ok (.invokevirtual 65, 3) := by decide +kernel
theorem dX12_pointsTo_39 : decode cX12_pointsTo 39 = .ok (.invokevirtual 355, 3) := by decide +kernel
theorem dX12_pointsTo_42 : decode cX12_pointsTo 42 = .ok (.aload_n 0, 1) := by decide +kernel
theorem dX12_pointsTo_43 : decode cX12_pointsTo 43 = .ok (.iload_n 1, 1) := by decide +kernel
theorem dX12_pointsTo_44 : decode cX12_pointsTo 44 = .ok (.aload_n 0, 1) := by decide +kernel
theorem dX12_pointsTo_45 : decode cX12_pointsTo 45 = .ok (.iload_n 3, 1) := by decide +kernel
theorem dX12_pointsTo_46 : decode cX12_pointsTo 46 = .ok (.iconst 2, 1) := by decide +kernel
theorem dX12_pointsTo_47 : decode cX12_pointsTo 47 = .ok (.invokevirtual 65, 3) := by decide +kernel
theorem dX12_pointsTo_50 : decode cX12_pointsTo 50 = .ok (.invokevirtual 355, 3) := by decide +kernel
theorem dX12_pointsTo_53 : decode cX12_pointsTo 53 = .ok (.if_icmp .ge 6, 3) := by decide +kernel
theorem dX12_pointsTo_56 : decode cX12_pointsTo 56 = .ok (.iload 4, 2) := by decide +kernel
theorem dX12_pointsTo_58 : decode cX12_pointsTo 58 = .ok (.istore_n 3, 1) := by decide +kernel
theorem dX12_pointsTo_59 : decode cX12_pointsTo 59 = .ok (.iinc 4 1, 3) := by decide +kernel
theorem dX12_pointsTo_62 : decode cX12_pointsTo 62 = .ok (.goto (-57), 3) := by decide +kernel
theorem dX12_pointsTo_65 : decode cX12_pointsTo 65 = .ok (.iload_n 3, 1) := by decide +kernel
theorem dX12_pointsTo_66 : decode cX12_pointsTo 66 = .ok (.ireturn, 1) := by decide +kernel
theorem dX12_ringOf_0 : decode cX12_ringOf 0 = .ok (.aload_n 0, 1) := by decide +kernel
theorem dX12_ringOf_1 : decode cX12_ringOf 1 = .ok (.iload_n 1, 1) := by decide +kernel
theorem dX12_ringOf_2 : decode cX12_ringOf 2 = .ok (.iload_n 2, 1) := by decide +kernel
theorem dX12_ringOf_3 : decode cX12_ringOf 3 = .ok (.invokevirtual 358, 3) := by decide +kernel
theorem dX12_ringOf_6 : decode cX12_ringOf 6 = .ok (.istore_n 3, 1) := by decide +kernel
theorem dX12_ringOf_7 : decode cX12_ringOf 7 = .ok (.iconst 1, 1) := by decide +kernel
theorem dX12_ringOf_8 : decode cX12_ringOf 8 = .ok (.istore 4, 2) := by decide +kernel
theorem dX12_ringOf_10 : decode cX12_ringOf 10 = .ok (.iload_n 3, 1) := by decide +kernel
theorem dX12_ringOf_11 : decode cX12_ringOf 11 = .ok (.iload_n 1, 1) := by decide +kernel
theorem dX12_ringOf_12 : decode cX12_ringOf 12 = .ok (.if_icmp .eq 23, 3) := by decide +kernel
theorem dX12_ringOf_15 : decode cX12_ringOf 15 = .ok (.iload 4, 2) := by decide +kernel
theorem dX12_ringOf_17 : decode cX12_ringOf 17 = .ok (.bipush 7, 2) := by decide +kernel
theorem dX12_ringOf_19 : decode cX12_ringOf 19 = .ok (.if_icmp .gt 16, 3) := by decide +kernel
theorem dX12_ringOf_22 : decode cX12_ringOf 22 = .ok (.aload_n 0, 1) := by decide +kernel
theorem dX12_ringOf_23 : decode cX12_ringOf 23 = .ok (.iload_n 3, 1) := by decide +kernel
theorem dX12_ringOf_24 : decode cX12_ringOf 24 = .ok (.iload_n 2, 1) := by decide +kernel
theorem dX12_ringOf_25 : decode cX12_ringOf 25 = .ok (.invokevirtual 358, 3) := by decide +kernel
theorem dX12_ringOf_28 : decode cX12_ringOf 28 = .ok (.istore_n 3, 1) := by decide +kernel
theorem dX12_ringOf_29 : decode cX12_ringOf 29 = .ok (.iinc 4 1, 3) := by decide +kernel
theorem dX12_ringOf_32 : decode cX12_ringOf 32 = .ok (.goto (-22), 3) := by decide +kernel
theorem dX12_ringOf_35 : decode cX12_ringOf 35 = .ok (.iload_n 3, 1) := by decide +kernel
theorem dX12_ringOf_36 : decode cX12_ringOf 36 = .ok (.iload_n 1, 1) := by decide +kernel
theorem dX12_ringOf_37 : decode cX12_ringOf 37 = .ok (.if_icmp .ne 8, 3) := by decide +kernel
theorem dX12_ringOf_40 : decode cX12_ringOf 40 = .ok (.iload 4, 2) := by decide +kernel
theorem dX12_ringOf_42 : decode cX12_ringOf 42 = .ok (.goto 4, 3) := by decide +kernel
theorem dX12_ringOf_45 : decode cX12_ringOf 45 = .ok (.iconst (-1), 1) := by decide +kernel
theorem dX12_ringOf_46 : decode cX12_ringOf 46 = .ok (.ireturn, 1) := by decide +kernel
theorem dX12_trades_0 : decode cX12_trades 0 = .ok (.aload_n 0, 1) := by decide +kernel
theorem dX12_trades_1 : decode cX12_trades 1 = .ok (.invokevirtual 346, 3) := by decide +kernel
theorem dX12_trades_4 : decode cX12_trades 4 = .ok (.istore_n 1, 1) := by decide +kernel
theorem dX12_trades_5 : decode cX12_trades 5 = .ok (.iload_n 1, 1) := by decide +kernel
theorem dX12_trades_6 : decode cX12_trades 6 = .ok (.ifCond .eq 87, 3) := by decide +kernel
theorem dX12_trades_9 : decode cX12_trades 9 = .ok (.iconst 0, 1) := by decide +kernel
theorem dX12_trades_10 : decode cX12_trades 10 = .ok (.istore_n 2, 1) := by decide +kernel
theorem dX12_trades_11 : decode cX12_trades 11 = .ok (.iconst 0, 1) := by decide +kernel
theorem dX12_trades_12 : decode cX12_trades 12 = .ok (.istore_n 3, 1) := by decide +kernel
theorem dX12_trades_13 : decode cX12_trades 13 = .ok (.iload_n 3, 1) := by decide +kernel
theorem dX12_trades_14 : decode cX12_trades 14 = .ok (.aload_n 0, 1) := by decide +kernel
theorem dX12_trades_15 : decode cX12_trades 15 = .ok (.getfield 7, 3) := by decide +kernel
theorem dX12_trades_18 : decode cX12_trades 18 = .ok (.iconst 3, 1) := by decide +kernel
theorem dX12_trades_19 : decode cX12_trades 19 = .ok (.iaload, 1) := by decide +kernel
theorem dX12_trades_20 : decode cX12_trades 20 = .ok (.if_icmp .ge 64, 3) := by decide +kernel
theorem dX12_trades_23 : decode cX12_trades 23 = .ok (.iload_n 1, 1) := by decide +kernel
theorem dX12_trades_24 : decode cX12_trades 24 = .ok (.iload_n 3, 1) := by decide +kernel
theorem dX12_trades_25 : decode cX12_trades 25 = .ok (.invokestatic 119, 3) := by decide +kernel
theorem dX12_trades_28 : decode cX12_trades 28 = .ok (.ifCond .eq 12, 3) := by decide +kernel
theorem dX12_trades_31 : decode cX12_trades 31 = .ok (.aload_n 0, 1) := by decide +kernel
theorem dX12_trades_32 : decode cX12_trades 32 = .ok (.iload_n 3, 1) := by decide +kernel
theorem dX12_trades_33 : decode cX12_trades 33 = .ok (.iload_n 1, 1) := by decide +kernel
theorem dX12_trades_34 : decode cX12_trades 34 = .ok (.invokevirtual 361, 3) := by decide +kernel
theorem dX12_trades_37 : decode cX12_trades 37 = .ok (.goto 4, 3) := by decide +kernel
theorem dX12_trades_40 : decode cX12_trades 40 = .ok (.iconst (-1), 1) := by decide +kernel
theorem dX12_trades_41 : decode cX12_trades 41 = .ok (.istore 4, 2) := by decide +kernel
theorem dX12_trades_43 : decode cX12_trades 43 = .ok (.iload 4, 2) := by decide +kernel
theorem dX12_trades_45 : decode cX12_trades 45 = .ok (.iconst (-1), 1) := by decide +kernel
theorem dX12_trades_46 : decode cX12_trades 46 = .ok (.if_icmp .ne 6, 3) := by decide +kernel
theorem dX12_trades_49 : decode cX12_trades 49 = .ok (.goto 29, 3) := by decide +kernel
theorem dX12_trades_52 : decode cX12_trades 52 = .ok (.aload_n 0, 1) := by decide +kernel
theorem dX12_trades_53 : decode cX12_trades 53 = .ok (.getfield 49, 3) := by decide +kernel
theorem dX12_trades_56 : decode cX12_trades 56 = .ok (.iload_n 3, 1) := by decide +kernel
theorem dX12_trades_57 : decode cX12_trades 57 = .ok (.aload_n 0, 1) := by decide +kernel
theorem dX12_trades_58 : decode cX12_trades 58 = .ok (.iload_n 3, 1) := by decide +kernel
theorem dX12_trades_59 : decode cX12_trades 59 = .ok (.iload_n 1, 1) := by decide +kernel
theorem dX12_trades_60 : decode cX12_trades 60 = .ok (.invokevirtual 358, 3) := by decide +kernel
theorem dX12_trades_63 : decode cX12_trades 63 = .ok (.iastore, 1) := by decide +kernel
theorem dX12_trades_64 : decode cX12_trades 64 = .ok (.aload_n 0, 1) := by decide +kernel
theorem dX12_trades_65 : decode cX12_trades 65 = .ok (.getfield 52, 3) := by decide +kernel
theorem dX12_trades_68 : decode cX12_trades 68 = .ok (.iload_n 3, 1) := by decide +kernel
theorem dX12_trades_69 : decode cX12_trades 69 = .ok (.iload 4, 2) := by decide +kernel
theorem dX12_trades_71 : decode cX12_trades 71 = .ok (.iastore, 1) := by decide +kernel
theorem dX12_trades_72 : decode cX12_trades 72 = .ok (.iload_n 2, 1) := by decide +kernel
theorem dX12_trades_73 : decode cX12_trades 73 = .ok (.iconst 1, 1) := by decide +kernel
theorem dX12_trades_74 : decode cX12_trades 74 = .ok (.iload_n 3, 1) := by decide +kernel
theorem dX12_trades_75 : decode cX12_trades 75 = .ok (.ishl, 1) := by decide +kernel
theorem dX12_trades_76 : decode cX12_trades 76 = .ok (.ior, 1) := by decide +kernel
theorem dX12_trades_77 : decode cX12_trades 77 = .ok (.istore_n 2, 1) := by decide +kernel
theorem dX12_trades_78 : decode cX12_trades 78 = .ok (.iinc 3 1, 3) := by decide +kernel
theorem dX12_trades_81 : decode cX12_trades 81 = .ok (.goto (-68), 3) := by decide +kernel
theorem dX12_trades_84 : decode cX12_trades 84 = .ok (.iload_n 1, 1) := by decide +kernel
theorem dX12_trades_85 : decode cX12_trades 85 = .ok (.iload_n 2, 1) := by decide +kernel
theorem dX12_trades_86 : decode cX12_trades 86 = .ok (.iconst (-1), 1) := by decide +kernel
theorem dX12_trades_87 : decode cX12_trades 87 = .ok (.ixor, 1) := by decide +kernel
theorem dX12_trades_88 : decode cX12_trades 88 = .ok (.iand, 1) := by decide +kernel
theorem dX12_trades_89 : decode cX12_trades 89 = .ok (.istore_n 1, 1) := by decide +kernel
theorem dX12_trades_90 : decode cX12_trades 90 = .ok (.goto (-85), 3) := by decide +kernel
theorem dX12_trades_93 : decode cX12_trades 93 = .ok (.return_, 1) := by decide +kernel
theorem dX12_trade_0 : decode cX12_trade 0 = .ok (.aload_n 0, 1) := by decide +kernel
theorem dX12_trade_1 : decode cX12_trade 1 = .ok (.aload_n 0, 1) := by decide +kernel
theorem dX12_trade_2 : decode cX12_trade 2 = .ok (.iload_n 1, 1) := by decide +kernel
theorem dX12_trade_3 : decode cX12_trade 3 = .ok (.invokevirtual 295, 3) := by decide +kernel
theorem dX12_trade_6 : decode cX12_trade 6 = .ok (.ifCond .ne 7, 3) := by decide +kernel
theorem dX12_trade_9 : decode cX12_trade 9 = .ok (.iconst 1, 1) := by decide +kernel
theorem dX12_trade_10 : decode cX12_trade 10 = .ok (.goto 4, 3) := by decide +kernel
theorem dX12_trade_13 : decode cX12_trade 13 = .ok (.iconst 0, 1) := by decide +kernel
theorem dX12_trade_14 : decode cX12_trade 14 = .ok (.putfield 58, 3) := by decide +kernel
theorem dX12_trade_17 : decode cX12_trade 17 = .ok (.aload_n 0, 1) := by decide +kernel
theorem dX12_trade_18 : decode cX12_trade 18 = .ok (.getfield 58, 3) := by decide +kernel
theorem dX12_trade_21 : decode cX12_trade 21 = .ok (.ifCond .le 5, 3) := by decide +kernel
theorem dX12_trade_24 : decode cX12_trade 24 = .ok (.iconst 0, 1) := by decide +kernel
theorem dX12_trade_25 : decode cX12_trade 25 = .ok (.ireturn, 1) := by decide +kernel
theorem dX12_trade_26 : decode cX12_trade 26 = .ok (.aload_n 0, 1) := by decide +kernel
theorem dX12_trade_27 : decode cX12_trade 27 = .ok (.invokevirtual 364, 3) := by decide +kernel
theorem dX12_trade_30 : decode cX12_trade 30 = .ok (.iload_n 2, 1) := by decide +kernel
theorem dX12_trade_31 : decode cX12_trade 31 = .ok (.ifCond .eq 12, 3) := by decide +kernel
theorem dX12_trade_34 : decode cX12_trade 34 = .ok (.aload_n 0, 1) := by decide +kernel
theorem dX12_trade_35 : decode cX12_trade 35 = .ok (.getfield 52, 3) := by decide +kernel
theorem dX12_trade_38 : decode cX12_trade 38 = .ok (.iload_n 1, 1) := by decide +kernel
theorem dX12_trade_39 : decode cX12_trade 39 = .ok (.iaload, 1) := by decide +kernel
theorem dX12_trade_40 : decode cX12_trade 40 = .ok (.goto 9, 3) := by decide +kernel
theorem dX12_trade_43 : decode cX12_trade 43 = .ok (.aload_n 0, 1) := by decide +kernel
theorem dX12_trade_44 : decode cX12_trade 44 = .ok (.getfield 49, 3) := by decide +kernel
theorem dX12_trade_47 : decode cX12_trade 47 = .ok (.iload_n 1, 1) := by decide +kernel
theorem dX12_trade_48 : decode cX12_trade 48 = .ok (.iaload, 1) := by decide +kernel
theorem dX12_trade_49 : decode cX12_trade 49 = .ok (.ireturn, 1) := by decide +kernel
theorem dX12_content_0 : decode cX12_content 0 = .ok (.aload_n 0, 1) := by decide +kernel
theorem dX12_content_1 : decode cX12_content 1 = .ok (.iconst 0, 1) := by decide +kernel
theorem dX12_content_2 : decode cX12_content 2 = .ok (.putfield 58, 3) := by decide +kernel
theorem dX12_content_5 : decode cX12_content 5 = .ok (.iconst 0, 1) := by decide +kernel
theorem dX12_content_6 : decode cX12_content 6 = .ok (.istore_n 1, 1) := by decide +kernel
theorem dX12_content_7 : decode cX12_content 7 = .ok (.iconst 0, 1) := by decide +kernel
theorem dX12_content_8 : decode cX12_content 8 = .ok (.istore_n 2, 1) := by decide +kernel
theorem dX12_content_9 : decode cX12_content 9 = .ok (.iload_n 2, 1) := by decide +kernel
theorem dX12_content_10 : decode cX12_content 10 = .ok (.aload_n 0, 1) := by decide +kernel
theorem dX12_content_11 : decode cX12_content 11 = .ok (.getfield 7, 3) := by decide +kernel
theorem dX12_content_14 : decode cX12_content 14 = .ok (.iconst 3, 1) := by decide +kernel
theorem dX12_content_15 : decode cX12_content 15 = .ok (.iaload, 1) := by decide +kernel
theorem dX12_content_16 : decode cX12_content 16 = .ok (.if_icmp .ge 37, 3) := by decide +kernel
theorem dX12_content_19 : decode cX12_content 19 = .ok (.iload_n 1, 1) := by decide +kernel
theorem dX12_content_20 : decode cX12_content 20 = .ok (.aload_n 0, 1) := by decide +kernel
theorem dX12_content_21 : decode cX12_content 21 = .ok (.iload_n 2, 1) := by decide +kernel
theorem dX12_content_22 : decode cX12_content 22 = .ok (.iconst 3, 1) := by decide +kernel
theorem dX12_content_23 : decode cX12_content 23 = .ok (.invokevirtual 65, 3) := by decide +kernel
theorem dX12_content_26 : decode cX12_content 26 = .ok (.aload_n 0, 1) := by decide +kernel
theorem dX12_content_27 : decode cX12_content 27 = .ok (.iload_n 2, 1) := by decide +kernel
theorem dX12_content_28 : decode cX12_content 28 = .ok (.iconst 2, 1) := by decide +kernel
theorem dX12_content_29 : decode cX12_content 29 = .ok (.invokevirtual 65, 3) := by decide +kernel
theorem dX12_content_32 : decode cX12_content 32 = .ok (.invokestatic 119, 3) := by decide +kernel
theorem dX12_content_35 : decode cX12_content 35 = .ok (.ifCond .eq 9, 3) := by decide +kernel
theorem dX12_content_38 : decode cX12_content 38 = .ok (.iconst 1, 1) := by decide +kernel
theorem dX12_content_39 : decode cX12_content 39 = .ok (.iload_n 2, 1) := by decide +kernel
theorem dX12_content_40 : decode cX12_content 40 = .ok (.ishl, 1) := by decide +kernel
theorem dX12_content_41 : decode cX12_content 41 = .ok (.goto 4, 3) := by decide +kernel
theorem dX12_content_44 : decode cX12_content 44 = .ok (.iconst 0, 1) := by decide +kernel
theorem dX12_content_45 : decode cX12_content 45 = .ok (.ior, 1) := by decide +kernel
theorem dX12_content_46 : decode cX12_content 46 = .ok (.istore_n 1, 1) := by decide +kernel
theorem dX12_content_47 : decode cX12_content 47 = .ok (.iinc 2 1, 3) := by decide +kernel
theorem dX12_content_50 : decode cX12_content 50 = .ok (.goto (-41), 3) := by decide +kernel
theorem dX12_content_53 : decode cX12_content 53 = .ok (.iload_n 1, 1) := by decide +kernel
theorem dX12_content_54 : decode cX12_content 54 = .ok (.ireturn, 1) := by decide +kernel
theorem dX12_areRows_0 : decode cX12_areRows 0 = .ok (.iload_n 1, 1) := by decide +kernel
theorem dX12_areRows_1 : decode cX12_areRows 1 = .ok (.iconst 2, 1) := by decide +kernel
theorem dX12_areRows_2 : decode cX12_areRows 2 = .ok (.irem, 1) := by decide +kernel
theorem dX12_areRows_3 : decode cX12_areRows 3 = .ok (.ifCond .ne 13, 3) := by decide +kernel
theorem dX12_areRows_6 : decode cX12_areRows 6 = .ok (.iload_n 1, 1) := by decide +kernel
theorem dX12_areRows_7 : decode cX12_areRows 7 = .ok (.bipush 40, 2) := by decide +kernel
theorem dX12_areRows_9 : decode cX12_areRows 9 = .ok (.if_icmp .gt 7, 3) := by decide +kernel
theorem dX12_areRows_12 : decode cX12_areRows 12 = .ok (.iconst 1, 1) := by decide +kernel
theorem dX12_areRows_13 : decode cX12_areRows 13 = .ok (.goto 4, 3) := by decide +kernel
theorem dX12_areRows_16 : decode cX12_areRows 16 = .ok (.iconst 0, 1) := by decide +kernel
theorem dX12_areRows_17 : decode cX12_areRows 17 = .ok (.istore_n 3, 1) := by decide +kernel
theorem dX12_areRows_18 : decode cX12_areRows 18 = .ok (.iconst 0, 1) := by decide +kernel
theorem dX12_areRows_19 : decode cX12_areRows 19 = .ok (.istore 4, 2) := by decide +kernel
theorem dX12_areRows_21 : decode cX12_areRows 21 = .ok (.iload 4, 2) := by decide +kernel
theorem dX12_areRows_23 : decode cX12_areRows 23 = .ok (.iload_n 1, 1) := by decide +kernel
theorem dX12_areRows_24 : decode cX12_areRows 24 = .ok (.if_icmp .ge 42, 3) := by decide +kernel
theorem dX12_areRows_27 : decode cX12_areRows 27 = .ok (.iload_n 3, 1) := by decide +kernel
theorem dX12_areRows_28 : decode cX12_areRows 28 = .ok (.ifCond .eq 38, 3) := by decide +kernel
theorem dX12_areRows_31 : decode cX12_areRows 31 = .ok (.aload_n 0, 1) := by decide +kernel
theorem dX12_areRows_32 : decode cX12_areRows 32 = .ok (.getfield 22, 3) := by decide +kernel
theorem dX12_areRows_35 : decode cX12_areRows 35 = .ok (.iload 4, 2) := by decide +kernel
theorem dX12_areRows_37 : decode cX12_areRows 37 = .ok (.iaload, 1) := by decide +kernel
theorem dX12_areRows_38 : decode cX12_areRows 38 = .ok (.iload 4, 2) := by decide +kernel
theorem dX12_areRows_40 : decode cX12_areRows 40 = .ok (.iconst 2, 1) := by decide +kernel
theorem dX12_areRows_41 : decode cX12_areRows 41 = .ok (.irem, 1) := by decide +kernel
theorem dX12_areRows_42 : decode cX12_areRows 42 = .ok (.ifCond .ne 8, 3) := by decide +kernel
theorem dX12_areRows_45 : decode cX12_areRows 45 = .ok (.bipush 23, 2) := by decide +kernel
theorem dX12_areRows_47 : decode cX12_areRows 47 = .ok (.goto 4, 3) := by decide +kernel
theorem dX12_areRows_50 : decode cX12_areRows 50 = .ok (.iload_n 2, 1) := by decide +kernel
theorem dX12_areRows_51 : decode cX12_areRows 51 = .ok (.if_icmp .gt 7, 3) := by decide +kernel
theorem dX12_areRows_54 : decode cX12_areRows 54 = .ok (.iconst 1, 1) := by decide +kernel
theorem dX12_areRows_55 : decode cX12_areRows 55 = .ok (.goto 4, 3) := by decide +kernel
theorem dX12_areRows_58 : decode cX12_areRows 58 = .ok (.iconst 0, 1) := by decide +kernel
theorem dX12_areRows_59 : decode cX12_areRows 59 = .ok (.istore_n 3, 1) := by decide +kernel
theorem dX12_areRows_60 : decode cX12_areRows 60 = .ok (.iinc 4 1, 3) := by decide +kernel
theorem dX12_areRows_63 : decode cX12_areRows 63 = .ok (.goto (-42), 3) := by decide +kernel
theorem dX12_areRows_66 : decode cX12_areRows 66 = .ok (.iload_n 3, 1) := by decide +kernel
theorem dX12_areRows_67 : decode cX12_areRows 67 = .ok (.ireturn, 1) := by decide +kernel
theorem dX12_isThere_0 : decode cX12_isThere 0 = .ok (.iload_n 1, 1) := by decide +kernel
theorem dX12_isThere_1 : decode cX12_isThere 1 = .ok (.bipush 9, 2) := by decide +kernel
theorem dX12_isThere_3 : decode cX12_isThere 3 = .ok (.idiv, 1) := by decide +kernel
theorem dX12_isThere_4 : decode cX12_isThere 4 = .ok (.iload_n 2, 1) := by decide +kernel
theorem dX12_isThere_5 : decode cX12_isThere 5 = .ok (.iload_n 1, 1) := by decide +kernel
theorem dX12_isThere_6 : decode cX12_isThere 6 = .ok (.bipush 9, 2) := by decide +kernel
theorem dX12_isThere_8 : decode cX12_isThere 8 = .ok (.irem, 1) := by decide +kernel
theorem dX12_isThere_9 : decode cX12_isThere 9 = .ok (.imul, 1) := by decide +kernel
theorem dX12_isThere_10 : decode cX12_isThere 10 = .ok (.iadd, 1) := by decide +kernel
theorem dX12_isThere_11 : decode cX12_isThere 11 = .ok (.bipush 16, 2) := by decide +kernel
theorem dX12_isThere_13 : decode cX12_isThere 13 = .ok (.irem, 1) := by decide +kernel
theorem dX12_isThere_14 : decode cX12_isThere 14 = .ok (.aload_n 0, 1) := by decide +kernel
theorem dX12_isThere_15 : decode cX12_isThere 15 = .ok (.getfield 7, 3) := by decide +kernel
theorem dX12_isThere_18 : decode cX12_isThere 18 = .ok (.bipush 6, 2) := by decide +kernel
theorem dX12_isThere_20 : decode cX12_isThere 20 = .ok (.iaload, 1) := by decide +kernel
theorem dX12_isThere_21 : decode cX12_isThere 21 = .ok (.if_icmp .ne 7, 3) := by decide +kernel
theorem dX12_isThere_24 : decode cX12_isThere 24 = .ok (.iconst 1, 1) := by decide +kernel
theorem dX12_isThere_25 : decode cX12_isThere 25 = .ok (.goto 4, 3) := by decide +kernel
theorem dX12_isThere_28 : decode cX12_isThere 28 = .ok (.iconst 0, 1) := by decide +kernel
theorem dX12_isThere_29 : decode cX12_isThere 29 = .ok (.ireturn, 1) := by decide +kernel
theorem dX12_heard_0 : decode cX12_heard 0 = .ok (.aload_n 0, 1) := by decide +kernel
theorem dX12_heard_1 : decode cX12_heard 1 = .ok (.getfield 76, 3) := by decide +kernel
theorem dX12_heard_4 : decode cX12_heard 4 = .ok (.istore_n 1, 1) := by decide +kernel
theorem dX12_heard_5 : decode cX12_heard 5 = .ok (.aload_n 0, 1) := by decide +kernel
theorem dX12_heard_6 : decode cX12_heard 6 = .ok (.iconst 0, 1) := by decide +kernel
theorem dX12_heard_7 : decode cX12_heard 7 = .ok (.putfield 76, 3) := by decide +kernel
theorem dX12_heard_10 : decode cX12_heard 10 = .ok (.aload_n 0, 1) := by decide +kernel
theorem dX12_heard_11 : decode cX12_heard 11 = .ok (.iload_n 1, 1) := by decide +kernel
theorem dX12_heard_12 : decode cX12_heard 12 = .ok (.iconst 1, 1) := by decide +kernel
theorem dX12_heard_13 : decode cX12_heard 13 = .ok (.invokevirtual 367, 3) := by decide +kernel
theorem dX12_heard_16 : decode cX12_heard 16 = .ok (.ifCond .ne 5, 3) := by decide +kernel
theorem dX12_heard_19 : decode cX12_heard 19 = .ok (.iconst (-1), 1) := by decide +kernel
theorem dX12_heard_20 : decode cX12_heard 20 = .ok (.ireturn, 1) := by decide +kernel
theorem dX12_heard_21 : decode cX12_heard 21 = .ok (.iconst 0, 1) := by decide +kernel
theorem dX12_heard_22 : decode cX12_heard 22 = .ok (.istore_n 2, 1) := by decide +kernel
theorem dX12_heard_23 : decode cX12_heard 23 = .ok (.iconst 0, 1) := by decide +kernel
theorem dX12_heard_24 : decode cX12_heard 24 = .ok (.istore_n 3, 1) := by decide +kernel
theorem dX12_heard_25 : decode cX12_heard 25 = .ok (.iload_n 3, 1) := by decide +kernel
theorem dX12_heard_26 : decode cX12_heard 26 = .ok (.sipush 144, 3) := by decide +kernel
theorem dX12_heard_29 : decode cX12_heard 29 = .ok (.if_icmp .ge 101, 3) := by decide +kernel
theorem dX12_heard_32 : decode cX12_heard 32 = .ok (.aload_n 0, 1) := by decide +kernel
theorem dX12_heard_33 : decode cX12_heard 33 = .ok (.getfield 45, 3) := by decide +kernel
theorem dX12_heard_36 : decode cX12_heard 36 = .ok (.iload_n 3, 1) := by decide +kernel
theorem dX12_heard_37 : decode cX12_heard 37 = .ok (.iconst 1, 1) := by decide +kernel
theorem dX12_heard_38 : decode cX12_heard 38 = .ok (.bastore, 1) := by decide +kernel
theorem dX12_heard_39 : decode cX12_heard 39 = .ok (.iconst 0, 1) := by decide +kernel
theorem dX12_heard_40 : decode cX12_heard 40 = .ok (.istore 4, 2) := by decide +kernel
theorem dX12_heard_42 : decode cX12_heard 42 = .ok (.iload 4, 2) := by decide +kernel
theorem dX12_heard_44 : decode cX12_heard 44 = .ok (.iload_n 1, 1) := by decide +kernel
theorem dX12_heard_45 : decode cX12_heard 45 = .ok (.if_icmp .ge 62, 3) := by decide +kernel
theorem dX12_heard_48 : decode cX12_heard 48 = .ok (.aload_n 0, 1) := by decide +kernel
theorem dX12_heard_49 : decode cX12_heard 49 = .ok (.getfield 45, 3) := by decide +kernel
theorem dX12_heard_52 : decode cX12_heard 52 = .ok (.iload_n 3, 1) := by decide +kernel
theorem dX12_heard_53 : decode cX12_heard 53 = .ok (.baload, 1) := by decide +kernel
theorem dX12_heard_54 : decode cX12_heard 54 = .ok (.ifCond .eq 53, 3) := by decide +kernel
theorem dX12_heard_57 : decode cX12_heard 57 = .ok (.aload_n 0, 1) := by decide +kernel
theorem dX12_heard_58 : decode cX12_heard 58 = .ok (.getfield 45, 3) := by decide +kernel
theorem dX12_heard_61 : decode cX12_heard 61 = .ok (.iload_n 3, 1) := by decide +kernel
theorem dX12_heard_62 : decode cX12_heard 62 = .ok (.aload_n 0, 1) := by decide +kernel
theorem dX12_heard_63 : decode cX12_heard 63 = .ok (.iload_n 3, 1) := by decide +kernel
theorem dX12_heard_64 : decode cX12_heard 64 = .ok (.aload_n 0, 1) := by decide +kernel
theorem dX12_heard_65 : decode cX12_heard 65 = .ok (.getfield 22, 3) := by decide +kernel
theorem dX12_heard_68 : decode cX12_heard 68 = .ok (.iload 4, 2) := by decide +kernel
theorem dX12_heard_70 : decode cX12_heard 70 = .ok (.iaload, 1) := by decide +kernel
theorem dX12_heard_71 : decode cX12_heard 71 = .ok (.invokevirtual 370, 3) := by decide +kernel
theorem dX12_heard_74 : decode cX12_heard 74 = .ok (.aload_n 0, 1) := by decide +kernel
theorem dX12_heard_75 : decode cX12_heard 75 = .ok (.getfield 22, 3) := by decide +kernel
theorem dX12_heard_78 : decode cX12_heard 78 = .ok (.iload 4, 2) := by decide +kernel
theorem dX12_heard_80 : decode cX12_heard 80 = .ok (.iconst 1, 1) := by decide +kernel
theorem dX12_heard_81 : decode cX12_heard 81 = .ok (.iadd, 1) := by decide +kernel
theorem dX12_heard_82 : decode cX12_heard 82 = .ok (.iaload, 1) := by decide +kernel
theorem dX12_heard_83 : decode cX12_heard 83 = .ok (.iconst 1, 1) := by decide +kernel
theorem dX12_heard_84 : decode cX12_heard 84 = .ok (.if_icmp .ne 7, 3) := by decide +kernel
theorem dX12_heard_87 : decode cX12_heard 87 = .ok (.iconst 1, 1) := by decide +kernel
theorem dX12_heard_88 : decode cX12_heard 88 = .ok (.goto 4, 3) := by decide +kernel
theorem dX12_heard_91 : decode cX12_heard 91 = .ok (.iconst 0, 1) := by decide +kernel
theorem dX12_heard_92 : decode cX12_heard 92 = .ok (.if_icmp .ne 7, 3) := by decide +kernel
theorem dX12_heard_95 : decode cX12_heard 95 = .ok (.iconst 1, 1) := by decide +kernel
theorem dX12_heard_96 : decode cX12_heard 96 = .ok (.goto 4, 3) := by decide +kernel
theorem dX12_heard_99 : decode cX12_heard 99 = .ok (.iconst 0, 1) := by decide +kernel
theorem dX12_heard_100 : decode cX12_heard 100 = .ok (.bastore, 1) := by decide +kernel
theorem dX12_heard_101 : decode cX12_heard 101 = .ok (.iinc 4 2, 3) := by decide +kernel
theorem dX12_heard_104 : decode cX12_heard 104 = .ok (.goto (-62), 3) := by decide +kernel
theorem dX12_heard_107 : decode cX12_heard 107 = .ok (.iload_n 2, 1) := by decide +kernel
theorem dX12_heard_108 : decode cX12_heard 108 = .ok (.aload_n 0, 1) := by decide +kernel
theorem dX12_heard_109 : decode cX12_heard 109 = .ok (.getfield 45, 3) := by decide +kernel
theorem dX12_heard_112 : decode cX12_heard 112 = .ok (.iload_n 3, 1) := by decide +kernel
theorem dX12_heard_113 : decode cX12_heard 113 = .ok (.baload, 1) := by decide +kernel
theorem dX12_heard_114 : decode cX12_heard 114 = .ok (.ifCond .eq 7, 3) := by decide +kernel
theorem dX12_heard_117 : decode cX12_heard 117 = .ok (.iconst 1, 1) := by decide +kernel
theorem dX12_heard_118 : decode cX12_heard 118 = .ok (.goto 4, 3) := by decide +kernel
theorem dX12_heard_121 : decode cX12_heard 121 = .ok (.iconst 0, 1) := by decide +kernel
theorem dX12_heard_122 : decode cX12_heard 122 = .ok (.iadd, 1) := by decide +kernel
theorem dX12_heard_123 : decode cX12_heard 123 = .ok (.istore_n 2, 1) := by decide +kernel
theorem dX12_heard_124 : decode cX12_heard 124 = .ok (.iinc 3 1, 3) := by decide +kernel
theorem dX12_heard_127 : decode cX12_heard 127 = .ok (.goto (-102), 3) := by decide +kernel
theorem dX12_heard_130 : decode cX12_heard 130 = .ok (.iload_n 2, 1) := by decide +kernel
theorem dX12_heard_131 : decode cX12_heard 131 = .ok (.ireturn, 1) := by decide +kernel
theorem dX12_seen_0 : decode cX12_seen 0 = .ok (.aload_n 0, 1) := by decide +kernel
theorem dX12_seen_1 : decode cX12_seen 1 = .ok (.invokevirtual 373, 3) := by decide +kernel
theorem dX12_seen_4 : decode cX12_seen 4 = .ok (.istore_n 2, 1) := by decide +kernel
theorem dX12_seen_5 : decode cX12_seen 5 = .ok (.aload_n 0, 1) := by decide +kernel
theorem dX12_seen_6 : decode cX12_seen 6 = .ok (.iload_n 2, 1) := by decide +kernel
theorem dX12_seen_7 : decode cX12_seen 7 = .ok (.iconst (-1), 1) := by decide +kernel
theorem dX12_seen_8 : decode cX12_seen 8 = .ok (.if_icmp .ne 7, 3) := by decide +kernel
theorem dX12_seen_11 : decode cX12_seen 11 = .ok (.iconst 1, 1) := by decide +kernel
theorem dX12_seen_12 : decode cX12_seen 12 = .ok (.goto 4, 3) := by decide +kernel
theorem dX12_seen_15 : decode cX12_seen 15 = .ok (.iconst 0, 1) := by decide +kernel
theorem dX12_seen_16 : decode cX12_seen 16 = .ok (.putfield 58, 3) := by decide +kernel
theorem dX12_seen_19 : decode cX12_seen 19 = .ok (.aload_n 0, 1) := by decide +kernel
theorem dX12_seen_20 : decode cX12_seen 20 = .ok (.getfield 58, 3) := by decide +kernel
theorem dX12_seen_23 : decode cX12_seen 23 = .ok (.ifCond .gt 7, 3) := by decide +kernel
theorem dX12_seen_26 : decode cX12_seen 26 = .ok (.iload_n 1, 1) := by decide +kernel
theorem dX12_seen_27 : decode cX12_seen 27 = .ok (.ifCond .ne 16, 3) := by decide +kernel
theorem dX12_seen_30 : decode cX12_seen 30 = .ok (.aload_n 0, 1) := by decide +kernel
theorem dX12_seen_31 : decode cX12_seen 31 = .ok (.getfield 58, 3) := by decide +kernel
theorem dX12_seen_34 : decode cX12_seen 34 = .ok (.ifCond .le 7, 3) := by decide +kernel
theorem dX12_seen_37 : decode cX12_seen 37 = .ok (.iconst 0, 1) := by decide +kernel
theorem dX12_seen_38 : decode cX12_seen 38 = .ok (.goto 4, 3) := by decide +kernel
theorem dX12_seen_41 : decode cX12_seen 41 = .ok (.iload_n 2, 1) := by decide +kernel
theorem dX12_seen_42 : decode cX12_seen 42 = .ok (.ireturn, 1) := by decide +kernel
theorem dX12_seen_43 : decode cX12_seen 43 = .ok (.iconst 0, 1) := by decide +kernel
theorem dX12_seen_44 : decode cX12_seen 44 = .ok (.istore_n 3, 1) := by decide +kernel
theorem dX12_seen_45 : decode cX12_seen 45 = .ok (.iconst 0, 1) := by decide +kernel
theorem dX12_seen_46 : decode cX12_seen 46 = .ok (.istore 4, 2) := by decide +kernel
theorem dX12_seen_48 : decode cX12_seen 48 = .ok (.iload 4, 2) := by decide +kernel
theorem dX12_seen_50 : decode cX12_seen 50 = .ok (.sipush 144, 3) := by decide +kernel
theorem dX12_seen_53 : decode cX12_seen 53 = .ok (.if_icmp .ge 33, 3) := by decide +kernel
theorem dX12_seen_56 : decode cX12_seen 56 = .ok (.iload_n 3, 1) := by decide +kernel
theorem dX12_seen_57 : decode cX12_seen 57 = .ok (.aload_n 0, 1) := by decide +kernel
theorem dX12_seen_58 : decode cX12_seen 58 = .ok (.getfield 45, 3) := by decide +kernel
theorem dX12_seen_61 : decode cX12_seen 61 = .ok (.iload 4, 2) := by decide +kernel
theorem dX12_seen_63 : decode cX12_seen 63 = .ok (.baload, 1) := by decide +kernel
theorem dX12_seen_64 : decode cX12_seen 64 = .ok (.ifCond .eq 13, 3) := by decide +kernel
theorem dX12_seen_67 : decode cX12_seen 67 = .ok (.iconst 1, 1) := by decide +kernel
theorem dX12_seen_68 : decode cX12_seen 68 = .ok (.iload 4, 2) := by decide +kernel
theorem dX12_seen_70 : decode cX12_seen 70 = .ok (.bipush 9, 2) := by decide +kernel
theorem dX12_seen_72 : decode cX12_seen 72 = .ok (.idiv, 1) := by decide +kernel
theorem dX12_seen_73 : decode cX12_seen 73 = .ok (.ishl, 1) := by decide +kernel
theorem dX12_seen_74 : decode cX12_seen 74 = .ok (.goto 4, 3) := by decide +kernel
theorem dX12_seen_77 : decode cX12_seen 77 = .ok (.iconst 0, 1) := by decide +kernel
theorem dX12_seen_78 : decode cX12_seen 78 = .ok (.ior, 1) := by decide +kernel
theorem dX12_seen_79 : decode cX12_seen 79 = .ok (.istore_n 3, 1) := by decide +kernel
theorem dX12_seen_80 : decode cX12_seen 80 = .ok (.iinc 4 1, 3) := by decide +kernel
theorem dX12_seen_83 : decode cX12_seen 83 = .ok (.goto (-35), 3) := by decide +kernel
theorem dX12_seen_86 : decode cX12_seen 86 = .ok (.iload_n 3, 1) := by decide +kernel
theorem dX12_seen_87 : decode cX12_seen 87 = .ok (.ireturn, 1) := by decide +kernel
theorem dX12_ask_0 : decode cX12_ask 0 = .ok (.aload_n 0, 1) := by decide +kernel
theorem dX12_ask_1 : decode cX12_ask 1 = .ok (.invokevirtual 373, 3) := by decide +kernel
theorem dX12_ask_4 : decode cX12_ask 4 = .ok (.istore_n 1, 1) := by decide +kernel
theorem dX12_ask_5 : decode cX12_ask 5 = .ok (.aload_n 0, 1) := by decide +kernel
theorem dX12_ask_6 : decode cX12_ask 6 = .ok (.iload_n 1, 1) := by decide +kernel
theorem dX12_ask_7 : decode cX12_ask 7 = .ok (.iconst (-1), 1) := by decide +kernel
theorem dX12_ask_8 : decode cX12_ask 8 = .ok (.if_icmp .ne 7, 3) := by decide +kernel
theorem dX12_ask_11 : decode cX12_ask 11 = .ok (.iconst 1, 1) := by decide +kernel
theorem dX12_ask_12 : decode cX12_ask 12 = .ok (.goto 4, 3) := by decide +kernel
theorem dX12_ask_15 : decode cX12_ask 15 = .ok (.iconst 0, 1) := by decide +kernel
theorem dX12_ask_16 : decode cX12_ask 16 = .ok (.putfield 58, 3) := by decide +kernel
theorem dX12_ask_19 : decode cX12_ask 19 = .ok (.aload_n 0, 1) := by decide +kernel
theorem dX12_ask_20 : decode cX12_ask 20 = .ok (.getfield 58, 3) := by decide +kernel
theorem dX12_ask_23 : decode cX12_ask 23 = .ok (.ifCond .le 5, 3) := by decide +kernel
theorem dX12_ask_26 : decode cX12_ask 26 = .ok (.iconst 0, 1) := by decide +kernel
theorem dX12_ask_27 : decode cX12_ask 27 = .ok (.ireturn, 1) := by decide +kernel
theorem dX12_ask_28 : decode cX12_ask 28 = .ok (.iconst (-1), 1) := by decide +kernel
theorem dX12_ask_29 : decode cX12_ask 29 = .ok (.istore_n 2, 1) := by decide +kernel
theorem dX12_ask_30 : decode cX12_ask 30 = .ok (.ldc_w 327, 3) := by decide +kernel
theorem dX12_ask_33 : decode cX12_ask 33 = .ok (.istore_n 3, 1) := by decide +kernel
theorem dX12_ask_34 : decode cX12_ask 34 = .ok (.iconst 0, 1) := by decide +kernel
theorem dX12_ask_35 : decode cX12_ask 35 = .ok (.istore 4, 2) := by decide +kernel
theorem dX12_ask_37 : decode cX12_ask 37 = .ok (.iload 4, 2) := by decide +kernel
theorem dX12_ask_39 : decode cX12_ask 39 = .ok (.bipush 24, 2) := by decide +kernel
theorem dX12_ask_41 : decode cX12_ask 41 = .ok (.if_icmp .ge 94, 3) := by decide +kernel
theorem dX12_ask_44 : decode cX12_ask 44 = .ok (.iload_n 1, 1) := by decide +kernel
theorem dX12_ask_45 : decode cX12_ask 45 = .ok (.iconst 1, 1) := by decide +kernel
theorem dX12_ask_46 : decode cX12_ask 46 = .ok (.if_icmp .le 89, 3) := by decide +kernel
theorem dX12_ask_49 : decode cX12_ask 49 = .ok (.iconst 0, 1) := by decide +kernel
theorem dX12_ask_50 : decode cX12_ask 50 = .ok (.istore 5, 2) := by decide +kernel
theorem dX12_ask_52 : decode cX12_ask 52 = .ok (.iconst 0, 1) := by decide +kernel
theorem dX12_ask_53 : decode cX12_ask 53 = .ok (.istore 6, 2) := by decide +kernel
theorem dX12_ask_55 : decode cX12_ask 55 = .ok (.iload 6, 2) := by decide +kernel
theorem dX12_ask_57 : decode cX12_ask 57 = .ok (.sipush 144, 3) := by decide +kernel
theorem dX12_ask_60 : decode cX12_ask 60 = .ok (.if_icmp .ge 40, 3) := by decide +kernel
theorem dX12_ask_63 : decode cX12_ask 63 = .ok (.iload 5, 2) := by decide +kernel
theorem dX12_ask_65 : decode cX12_ask 65 = .ok (.aload_n 0, 1) := by decide +kernel
theorem dX12_ask_66 : decode cX12_ask 66 = .ok (.getfield 45, 3) := by decide +kernel
theorem dX12_ask_69 : decode cX12_ask 69 = .ok (.iload 6, 2) := by decide +kernel
theorem dX12_ask_71 : decode cX12_ask 71 = .ok (.baload, 1) := by decide +kernel
theorem dX12_ask_72 : decode cX12_ask 72 = .ok (.ifCond .eq 18, 3) := by decide +kernel
theorem dX12_ask_75 : decode cX12_ask 75 = .ok (.aload_n 0, 1) := by decide +kernel
theorem dX12_ask_76 : decode cX12_ask 76 = .ok (.iload 6, 2) := by decide +kernel
theorem dX12_ask_78 : decode cX12_ask 78 = .ok (.iload 4, 2) := by decide +kernel
theorem dX12_ask_80 : decode cX12_ask 80 = .ok (.invokevirtual 370, 3) := by decide +kernel
theorem dX12_ask_83 : decode cX12_ask 83 = .ok (.ifCond .eq 7, 3) := by decide +kernel
theorem dX12_ask_86 : decode cX12_ask 86 = .ok (.iconst 1, 1) := by decide +kernel
theorem dX12_ask_87 : decode cX12_ask 87 = .ok (.goto 4, 3) := by decide +kernel
theorem dX12_ask_90 : decode cX12_ask 90 = .ok (.iconst 0, 1) := by decide +kernel
theorem dX12_ask_91 : decode cX12_ask 91 = .ok (.iadd, 1) := by decide +kernel
theorem dX12_ask_92 : decode cX12_ask 92 = .ok (.istore 5, 2) := by decide +kernel
theorem dX12_ask_94 : decode cX12_ask 94 = .ok (.iinc 6 1, 3) := by decide +kernel
theorem dX12_ask_97 : decode cX12_ask 97 = .ok (.goto (-42), 3) := by decide +kernel
theorem dX12_ask_100 : decode cX12_ask 100 = .ok (.iload 5, 2) := by decide +kernel
theorem dX12_ask_102 : decode cX12_ask 102 = .ok (.iload_n 1, 1) := by decide +kernel
theorem dX12_ask_103 : decode cX12_ask 103 = .ok (.iload 5, 2) := by decide +kernel
theorem dX12_ask_105 : decode cX12_ask 105 = .ok (.isub, 1) := by decide +kernel
theorem dX12_ask_106 : decode cX12_ask 106 = .ok (.invokestatic 266, 3) := by decide +kernel
theorem dX12_ask_109 : decode cX12_ask 109 = .ok (.iload_n 3, 1) := by decide +kernel
theorem dX12_ask_110 : decode cX12_ask 110 = .ok (.if_icmp .lt 6, 3) := by decide +kernel
theorem dX12_ask_113 : decode cX12_ask 113 = .ok (.goto 16, 3) := by decide +kernel
theorem dX12_ask_116 : decode cX12_ask 116 = .ok (.iload 5, 2) := by decide +kernel
theorem dX12_ask_118 : decode cX12_ask 118 = .ok (.iload_n 1, 1) := by decide +kernel
theorem dX12_ask_119 : decode cX12_ask 119 = .ok (.iload 5, 2) := by decide +kernel
theorem dX12_ask_121 : decode cX12_ask 121 = .ok (.isub, 1) := by decide +kernel
theorem dX12_ask_122 : decode cX12_ask 122 = .ok (.invokestatic 266, 3) := by decide +kernel
theorem dX12_ask_125 : decode cX12_ask 125 = .ok (.istore_n 3, 1) := by decide +kernel
theorem dX12_ask_126 : decode cX12_ask 126 = .ok (.iload 4, 2) := by decide +kernel
theorem dX12_ask_128 : decode cX12_ask 128 = .ok (.istore_n 2, 1) := by decide +kernel
theorem dX12_ask_129 : decode cX12_ask 129 = .ok (.iinc 4 1, 3) := by decide +kernel
theorem dX12_ask_132 : decode cX12_ask 132 = .ok (.goto (-95), 3) := by decide +kernel
theorem dX12_ask_135 : decode cX12_ask 135 = .ok (.iload_n 2, 1) := by decide +kernel
theorem dX12_ask_136 : decode cX12_ask 136 = .ok (.ireturn, 1) := by decide +kernel
theorem dX12_moodBy_0 : decode cX12_moodBy 0 = .ok (.iload_n 0, 1) := by decide +kernel
theorem dX12_moodBy_1 : decode cX12_moodBy 1 = .ok (.iconst 5, 1) := by decide +kernel
theorem dX12_moodBy_2 : decode cX12_moodBy 2 = .ok (.idiv, 1) := by decide +kernel
theorem dX12_moodBy_3 : decode cX12_moodBy 3 = .ok (.iload_n 1, 1) := by decide +kernel
theorem dX12_moodBy_4 : decode cX12_moodBy 4 = .ok (.imul, 1) := by decide +kernel
theorem dX12_moodBy_5 : decode cX12_moodBy 5 = .ok (.iload_n 0, 1) := by decide +kernel
theorem dX12_moodBy_6 : decode cX12_moodBy 6 = .ok (.iconst 5, 1) := by decide +kernel
theorem dX12_moodBy_7 : decode cX12_moodBy 7 = .ok (.irem, 1) := by decide +kernel
theorem dX12_moodBy_8 : decode cX12_moodBy 8 = .ok (.iadd, 1) := by decide +kernel
theorem dX12_moodBy_9 : decode cX12_moodBy 9 = .ok (.iconst 5, 1) := by decide +kernel
theorem dX12_moodBy_10 : decode cX12_moodBy 10 = .ok (.irem, 1) := by decide +kernel
theorem dX12_moodBy_11 : decode cX12_moodBy 11 = .ok (.ireturn, 1) := by decide +kernel
theorem dX12_ruled_0 : decode cX12_ruled 0 = .ok (.aload_n 0, 1) := by decide +kernel
theorem dX12_ruled_1 : decode cX12_ruled 1 = .ok (.getfield 76, 3) := by decide +kernel
theorem dX12_ruled_4 : decode cX12_ruled 4 = .ok (.istore_n 1, 1) := by decide +kernel
theorem dX12_ruled_5 : decode cX12_ruled 5 = .ok (.aload_n 0, 1) := by decide +kernel
theorem dX12_ruled_6 : decode cX12_ruled 6 = .ok (.iconst 0, 1) := by decide +kernel
theorem dX12_ruled_7 : decode cX12_ruled 7 = .ok (.putfield 76, 3) := by decide +kernel
theorem dX12_ruled_10 : decode cX12_ruled 10 = .ok (.aload_n 0, 1) := by decide +kernel
theorem dX12_ruled_11 : decode cX12_ruled 11 = .ok (.iload_n 1, 1) := by decide +kernel
theorem dX12_ruled_12 : decode cX12_ruled 12 = .ok (.iconst 4, 1) := by decide +kernel
theorem dX12_ruled_13 : decode cX12_ruled 13 = .ok (.invokevirtual 367, 3) := by decide +kernel
theorem dX12_ruled_16 : decode cX12_ruled 16 = .ok (.ifCond .ne 5, 3) := by decide +kernel
theorem dX12_ruled_19 : decode cX12_ruled 19 = .ok (.iconst (-1), 1) := by decide +kernel
theorem dX12_ruled_20 : decode cX12_ruled 20 = .ok (.ireturn, 1) := by decide +kernel
theorem dX12_ruled_21 : decode cX12_ruled 21 = .ok (.iconst 0, 1) := by decide +kernel
theorem dX12_ruled_22 : decode cX12_ruled 22 = .ok (.istore_n 2, 1) := by decide +kernel
theorem dX12_ruled_23 : decode cX12_ruled 23 = .ok (.iconst 0, 1) := by decide +kernel
theorem dX12_ruled_24 : decode cX12_ruled 24 = .ok (.istore_n 3, 1) := by decide +kernel
theorem dX12_ruled_25 : decode cX12_ruled 25 = .ok (.iload_n 3, 1) := by decide +kernel
theorem dX12_ruled_26 : decode cX12_ruled 26 = .ok (.bipush 25, 2) := by decide +kernel
theorem dX12_ruled_28 : decode cX12_ruled 28 = .ok (.if_icmp .ge 91, 3) := by decide +kernel
theorem dX12_ruled_31 : decode cX12_ruled 31 = .ok (.aload_n 0, 1) := by decide +kernel
theorem dX12_ruled_32 : decode cX12_ruled 32 = .ok (.getfield 45, 3) := by decide +kernel
theorem dX12_ruled_35 : decode cX12_ruled 35 = .ok (.iload_n 3, 1) := by decide +kernel
theorem dX12_ruled_36 : decode cX12_ruled 36 = .ok (.iconst 1, 1) := by decide +kernel
theorem dX12_ruled_37 : decode cX12_ruled 37 = .ok (.bastore, 1) := by decide +kernel
theorem dX12_ruled_38 : decode cX12_ruled 38 = .ok (.iconst 0, 1) := by decide +kernel
theorem dX12_ruled_39 : decode cX12_ruled 39 = .ok (.istore 4, 2) := by decide +kernel
theorem dX12_ruled_41 : decode cX12_ruled 41 = .ok (.iload 4, 2) := by decide +kernel
theorem dX12_ruled_43 : decode cX12_ruled 43 = .ok (.iload_n 1, 1) := by decide +kernel
theorem dX12_ruled_44 : decode cX12_ruled 44 = .ok (.if_icmp .ge 52, 3) := by decide +kernel
theorem dX12_ruled_47 : decode cX12_ruled 47 = .ok (.aload_n 0, 1) := by decide +kernel
theorem dX12_ruled_48 : decode cX12_ruled 48 = .ok (.getfield 45, 3) := by decide +kernel
theorem dX12_ruled_51 : decode cX12_ruled 51 = .ok (.iload_n 3, 1) := by decide +kernel
theorem dX12_ruled_52 : decode cX12_ruled 52 = .ok (.baload, 1) := by decide +kernel
theorem dX12_ruled_53 : decode cX12_ruled 53 = .ok (.ifCond .eq 43, 3) := by decide +kernel
theorem dX12_ruled_56 : decode cX12_ruled 56 = .ok (.aload_n 0, 1) := by decide +kernel
theorem dX12_ruled_57 : decode cX12_ruled 57 = .ok (.getfield 45, 3) := by decide +kernel
theorem dX12_ruled_60 : decode cX12_ruled 60 = .ok (.iload_n 3, 1) := by decide +kernel
theorem dX12_ruled_61 : decode cX12_ruled 61 = .ok (.iload_n 3, 1) := by decide +kernel
theorem dX12_ruled_62 : decode cX12_ruled 62 = .ok (.aload_n 0, 1) := by decide +kernel
theorem dX12_ruled_63 : decode cX12_ruled 63 = .ok (.getfield 22, 3) := by decide +kernel
theorem dX12_ruled_66 : decode cX12_ruled 66 = .ok (.iload 4, 2) := by decide +kernel
theorem dX12_ruled_68 : decode cX12_ruled 68 = .ok (.iaload, 1) := by decide +kernel
theorem dX12_ruled_69 : decode cX12_ruled 69 = .ok (.invokestatic 376, 3) := by decide +kernel
theorem dX12_ruled_72 : decode cX12_ruled 72 = .ok (.aload_n 0, 1) := by decide +kernel
theorem dX12_ruled_73 : decode cX12_ruled 73 = .ok (.getfield 22, 3) := by decide +kernel
theorem dX12_ruled_76 : decode cX12_ruled 76 = .ok (.iload 4, 2) := by decide +kernel
theorem dX12_ruled_78 : decode cX12_ruled 78 = .ok (.iconst 1, 1) := by decide +kernel
theorem dX12_ruled_79 : decode cX12_ruled 79 = .ok (.iadd, 1) := by decide +kernel
theorem dX12_ruled_80 : decode cX12_ruled 80 = .ok (.iaload, 1) := by decide +kernel
theorem dX12_ruled_81 : decode cX12_ruled 81 = .ok (.if_icmp .ne 7, 3) := by decide +kernel
theorem dX12_ruled_84 : decode cX12_ruled 84 = .ok (.iconst 1, 1) := by decide +kernel
theorem dX12_ruled_85 : decode cX12_ruled 85 = .ok (.goto 4, 3) := by decide +kernel
theorem dX12_ruled_88 : decode cX12_ruled 88 = .ok (.iconst 0, 1) := by decide +kernel
theorem dX12_ruled_89 : decode cX12_ruled 89 = .ok (.bastore, 1) := by decide +kernel
theorem dX12_ruled_90 : decode cX12_ruled 90 = .ok (.iinc 4 2, 3) := by decide +kernel
theorem dX12_ruled_93 : decode cX12_ruled 93 = .ok (.goto (-52), 3) := by decide +kernel
theorem dX12_ruled_96 : decode cX12_ruled 96 = .ok (.iload_n 2, 1) := by decide +kernel
theorem dX12_ruled_97 : decode cX12_ruled 97 = .ok (.aload_n 0, 1) := by decide +kernel
theorem dX12_ruled_98 : decode cX12_ruled 98 = .ok (.getfield 45, 3) := by decide +kernel
theorem dX12_ruled_101 : decode cX12_ruled 101 = .ok (.iload_n 3, 1) := by decide +kernel
theorem dX12_ruled_102 : decode cX12_ruled 102 = .ok (.baload, 1) := by decide +kernel
theorem dX12_ruled_103 : decode cX12_ruled 103 = .ok (.ifCond .eq 7, 3) := by decide +kernel
theorem dX12_ruled_106 : decode cX12_ruled 106 = .ok (.iconst 1, 1) := by decide +kernel
theorem dX12_ruled_107 : decode cX12_ruled 107 = .ok (.goto 4, 3) := by decide +kernel
theorem dX12_ruled_110 : decode cX12_ruled 110 = .ok (.iconst 0, 1) := by decide +kernel
theorem dX12_ruled_111 : decode cX12_ruled 111 = .ok (.iadd, 1) := by decide +kernel
theorem dX12_ruled_112 : decode cX12_ruled 112 = .ok (.istore_n 2, 1) := by decide +kernel
theorem dX12_ruled_113 : decode cX12_ruled 113 = .ok (.iinc 3 1, 3) := by decide +kernel
theorem dX12_ruled_116 : decode cX12_ruled 116 = .ok (.goto (-91), 3) := by decide +kernel
theorem dX12_ruled_119 : decode cX12_ruled 119 = .ok (.iload_n 2, 1) := by decide +kernel
theorem dX12_ruled_120 : decode cX12_ruled 120 = .ok (.ireturn, 1) := by decide +kernel
theorem dX12_rule_0 : decode cX12_rule 0 = .ok (.aload_n 0, 1) := by decide +kernel
theorem dX12_rule_1 : decode cX12_rule 1 = .ok (.invokevirtual 379, 3) := by decide +kernel
theorem dX12_rule_4 : decode cX12_rule 4 = .ok (.istore_n 2, 1) := by decide +kernel
theorem dX12_rule_5 : decode cX12_rule 5 = .ok (.aload_n 0, 1) := by decide +kernel
theorem dX12_rule_6 : decode cX12_rule 6 = .ok (.iload_n 2, 1) := by decide +kernel
theorem dX12_rule_7 : decode cX12_rule 7 = .ok (.iconst (-1), 1) := by decide +kernel
theorem dX12_rule_8 : decode cX12_rule 8 = .ok (.if_icmp .ne 7, 3) := by decide +kernel
theorem dX12_rule_11 : decode cX12_rule 11 = .ok (.iconst 1, 1) := by decide +kernel
theorem dX12_rule_12 : decode cX12_rule 12 = .ok (.goto 4, 3) := by decide +kernel
theorem dX12_rule_15 : decode cX12_rule 15 = .ok (.iconst 0, 1) := by decide +kernel
theorem dX12_rule_16 : decode cX12_rule 16 = .ok (.putfield 58, 3) := by decide +kernel
theorem dX12_rule_19 : decode cX12_rule 19 = .ok (.aload_n 0, 1) := by decide +kernel
theorem dX12_rule_20 : decode cX12_rule 20 = .ok (.getfield 58, 3) := by decide +kernel
theorem dX12_rule_23 : decode cX12_rule 23 = .ok (.ifCond .gt 7, 3) := by decide +kernel
theorem dX12_rule_26 : decode cX12_rule 26 = .ok (.iload_n 1, 1) := by decide +kernel
theorem dX12_rule_27 : decode cX12_rule 27 = .ok (.ifCond .ne 16, 3) := by decide +kernel
theorem dX12_rule_30 : decode cX12_rule 30 = .ok (.aload_n 0, 1) := by decide +kernel
theorem dX12_rule_31 : decode cX12_rule 31 = .ok (.getfield 58, 3) := by decide +kernel
theorem dX12_rule_34 : decode cX12_rule 34 = .ok (.ifCond .le 7, 3) := by decide +kernel
theorem dX12_rule_37 : decode cX12_rule 37 = .ok (.iconst 0, 1) := by decide +kernel
theorem dX12_rule_38 : decode cX12_rule 38 = .ok (.goto 4, 3) := by decide +kernel
theorem dX12_rule_41 : decode cX12_rule 41 = .ok (.iload_n 2, 1) := by decide +kernel
theorem dX12_rule_42 : decode cX12_rule 42 = .ok (.ireturn, 1) := by decide +kernel
theorem dX12_rule_43 : decode cX12_rule 43 = .ok (.iconst 0, 1) := by decide +kernel
theorem dX12_rule_44 : decode cX12_rule 44 = .ok (.istore_n 3, 1) := by decide +kernel
theorem dX12_rule_45 : decode cX12_rule 45 = .ok (.iload_n 3, 1) := by decide +kernel
theorem dX12_rule_46 : decode cX12_rule 46 = .ok (.bipush 25, 2) := by decide +kernel
theorem dX12_rule_48 : decode cX12_rule 48 = .ok (.if_icmp .ge 20, 3) := by decide +kernel
theorem dX12_rule_51 : decode cX12_rule 51 = .ok (.aload_n 0, 1) := by decide +kernel
theorem dX12_rule_52 : decode cX12_rule 52 = .ok (.getfield 45, 3) := by decide +kernel
theorem dX12_rule_55 : decode cX12_rule 55 = .ok (.iload_n 3, 1) := by decide +kernel
theorem dX12_rule_56 : decode cX12_rule 56 = .ok (.baload, 1) := by decide +kernel
theorem dX12_rule_57 : decode cX12_rule 57 = .ok (.ifCond .eq 5, 3) := by decide +kernel
theorem dX12_rule_60 : decode cX12_rule 60 = .ok (.iload_n 3, 1) := by decide +kernel
theorem dX12_rule_61 : decode cX12_rule 61 = .ok (.ireturn, 1) := by decide +kernel
theorem dX12_rule_62 : decode cX12_rule 62 = .ok (.iinc 3 1, 3) := by decide +kernel
theorem dX12_rule_65 : decode cX12_rule 65 = .ok (.goto (-20), 3) := by decide +kernel
theorem dX12_rule_68 : decode cX12_rule 68 = .ok (.iconst (-1), 1) := by decide +kernel
theorem dX12_rule_69 : decode cX12_rule 69 = .ok (.ireturn, 1) := by decide +kernel
theorem dX12_tells_0 : decode cX12_tells 0 = .ok (.aload_n 0, 1) := by decide +kernel
theorem dX12_tells_1 : decode cX12_tells 1 = .ok (.invokevirtual 379, 3) := by decide +kernel
theorem dX12_tells_4 : decode cX12_tells 4 = .ok (.istore_n 1, 1) := by decide +kernel
theorem dX12_tells_5 : decode cX12_tells 5 = .ok (.aload_n 0, 1) := by decide +kernel
theorem dX12_tells_6 : decode cX12_tells 6 = .ok (.iload_n 1, 1) := by decide +kernel
theorem dX12_tells_7 : decode cX12_tells 7 = .ok (.iconst (-1), 1) := by decide +kernel
theorem dX12_tells_8 : decode cX12_tells 8 = .ok (.if_icmp .ne 7, 3) := by decide +kernel
theorem dX12_tells_11 : decode cX12_tells 11 = .ok (.iconst 1, 1) := by decide +kernel
theorem dX12_tells_12 : decode cX12_tells 12 = .ok (.goto 4, 3) := by decide +kernel
theorem dX12_tells_15 : decode cX12_tells 15 = .ok (.iconst 0, 1) := by decide +kernel
theorem dX12_tells_16 : decode cX12_tells 16 = .ok (.putfield 58, 3) := by decide +kernel
theorem dX12_tells_19 : decode cX12_tells 19 = .ok (.aload_n 0, 1) := by decide +kernel
theorem dX12_tells_20 : decode cX12_tells 20 = .ok (.getfield 58, 3) := by decide +kernel
theorem dX12_tells_23 : decode cX12_tells 23 = .ok (.ifCond .le 5, 3) := by decide +kernel
theorem dX12_tells_26 : decode cX12_tells 26 = .ok (.iconst 0, 1) := by decide +kernel
theorem dX12_tells_27 : decode cX12_tells 27 = .ok (.ireturn, 1) := by decide +kernel
theorem dX12_tells_28 : decode cX12_tells 28 = .ok (.iconst (-1), 1) := by decide +kernel
theorem dX12_tells_29 : decode cX12_tells 29 = .ok (.istore_n 2, 1) := by decide +kernel
theorem dX12_tells_30 : decode cX12_tells 30 = .ok (.ldc_w 327, 3) := by decide +kernel
theorem dX12_tells_33 : decode cX12_tells 33 = .ok (.istore_n 3, 1) := by decide +kernel
theorem dX12_tells_34 : decode cX12_tells 34 = .ok (.iconst 0, 1) := by decide +kernel
theorem dX12_tells_35 : decode cX12_tells 35 = .ok (.istore 4, 2) := by decide +kernel
theorem dX12_tells_37 : decode cX12_tells 37 = .ok (.iload 4, 2) := by decide +kernel
theorem dX12_tells_39 : decode cX12_tells 39 = .ok (.bipush 24, 2) := by decide +kernel
theorem dX12_tells_41 : decode cX12_tells 41 = .ok (.if_icmp .ge 107, 3) := by decide +kernel
theorem dX12_tells_44 : decode cX12_tells 44 = .ok (.iload_n 1, 1) := by decide +kernel
theorem dX12_tells_45 : decode cX12_tells 45 = .ok (.iconst 1, 1) := by decide +kernel
theorem dX12_tells_46 : decode cX12_tells 46 = .ok (.if_icmp .le 102, 3) := by decide +kernel
theorem dX12_tells_49 : decode cX12_tells 49 = .ok (.iconst 0, 1) := by decide +kernel
theorem dX12_tells_50 : decode cX12_tells 50 = .ok (.istore 5, 2) := by decide +kernel
theorem dX12_tells_52 : decode cX12_tells 52 = .ok (.iconst 0, 1) := by decide +kernel
theorem dX12_tells_53 : decode cX12_tells 53 = .ok (.istore 6, 2) := by decide +kernel
theorem dX12_tells_55 : decode cX12_tells 55 = .ok (.iload 6, 2) := by decide +kernel
theorem dX12_tells_57 : decode cX12_tells 57 = .ok (.iconst 5, 1) := by decide +kernel
theorem dX12_tells_58 : decode cX12_tells 58 = .ok (.if_icmp .ge 69, 3) := by decide +kernel
theorem dX12_tells_61 : decode cX12_tells 61 = .ok (.iconst 0, 1) := by decide +kernel
theorem dX12_tells_62 : decode cX12_tells 62 = .ok (.istore 7, 2) := by decide +kernel
theorem dX12_tells_64 : decode cX12_tells 64 = .ok (.iconst 0, 1) := by decide +kernel
theorem dX12_tells_65 : decode cX12_tells 65 = .ok (.istore 8, 2) := by decide +kernel
theorem dX12_tells_67 : decode cX12_tells 67 = .ok (.iload 8, 2) := by decide +kernel
theorem dX12_tells_69 : decode cX12_tells 69 = .ok (.bipush 25, 2) := by decide +kernel
theorem dX12_tells_71 : decode cX12_tells 71 = .ok (.if_icmp .ge 41, 3) := by decide +kernel
theorem dX12_tells_74 : decode cX12_tells 74 = .ok (.iload 7, 2) := by decide +kernel
theorem dX12_tells_76 : decode cX12_tells 76 = .ok (.aload_n 0, 1) := by decide +kernel
theorem dX12_tells_77 : decode cX12_tells 77 = .ok (.getfield 45, 3) := by decide +kernel
theorem dX12_tells_80 : decode cX12_tells 80 = .ok (.iload 8, 2) := by decide +kernel
theorem dX12_tells_82 : decode cX12_tells 82 = .ok (.baload, 1) := by decide +kernel
theorem dX12_tells_83 : decode cX12_tells 83 = .ok (.ifCond .eq 19, 3) := by decide +kernel
theorem dX12_tells_86 : decode cX12_tells 86 = .ok (.iload 8, 2) := by decide +kernel
theorem dX12_tells_88 : decode cX12_tells 88 = .ok (.iload 4, 2) := by decide +kernel
theorem dX12_tells_90 : decode cX12_tells 90 = .ok (.invokestatic 376, 3) := by decide +kernel
theorem dX12_tells_93 : decode cX12_tells 93 = .ok (.iload 6, 2) := by decide +kernel
theorem dX12_tells_95 : decode cX12_tells 95 = .ok (.if_icmp .ne 7, 3) := by decide +kernel
theorem dX12_tells_98 : decode cX12_tells 98 = .ok (.iconst 1, 1) := by decide +kernel
theorem dX12_tells_99 : decode cX12_tells 99 = .ok (.goto 4, 3) := by decide +kernel
theorem dX12_tells_102 : decode cX12_tells 102 = .ok (.iconst 0, 1) := by decide +kernel
theorem dX12_tells_103 : decode cX12_tells 103 = .ok (.iadd, 1) := by decide +kernel
theorem dX12_tells_104 : decode cX12_tells 104 = .ok (.istore 7, 2) := by decide +kernel
theorem dX12_tells_106 : decode cX12_tells 106 = .ok (.iinc 8 1, 3) := by decide +kernel
theorem dX12_tells_109 : decode cX12_tells 109 = .ok (.goto (-42), 3) := by decide +kernel
theorem dX12_tells_112 : decode cX12_tells 112 = .ok (.iload 5, 2) := by decide +kernel
theorem dX12_tells_114 : decode cX12_tells 114 = .ok (.iload 7, 2) := by decide +kernel
theorem dX12_tells_116 : decode cX12_tells 116 = .ok (.invokestatic 266, 3) := by decide +kernel
theorem dX12_tells_119 : decode cX12_tells 119 = .ok (.istore 5, 2) := by decide +kernel
theorem dX12_tells_121 : decode cX12_tells 121 = .ok (.iinc 6 1, 3) := by decide +kernel
theorem dX12_tells_124 : decode cX12_tells 124 = .ok (.goto (-69), 3) := by decide +kernel
theorem dX12_tells_127 : decode cX12_tells 127 = .ok (.iload 5, 2) := by decide +kernel
theorem dX12_tells_129 : decode cX12_tells 129 = .ok (.iload_n 3, 1) := by decide +kernel
theorem dX12_tells_130 : decode cX12_tells 130 = .ok (.if_icmp .lt 6, 3) := by decide +kernel
theorem dX12_tells_133 : decode cX12_tells 133 = .ok (.goto 9, 3) := by decide +kernel
theorem dX12_tells_136 : decode cX12_tells 136 = .ok (.iload 5, 2) := by decide +kernel
theorem dX12_tells_138 : decode cX12_tells 138 = .ok (.istore_n 3, 1) := by decide +kernel
theorem dX12_tells_139 : decode cX12_tells 139 = .ok (.iload 4, 2) := by decide +kernel
theorem dX12_tells_141 : decode cX12_tells 141 = .ok (.istore_n 2, 1) := by decide +kernel
theorem dX12_tells_142 : decode cX12_tells 142 = .ok (.iinc 4 1, 3) := by decide +kernel
theorem dX12_tells_145 : decode cX12_tells 145 = .ok (.goto (-108), 3) := by decide +kernel
theorem dX12_tells_148 : decode cX12_tells 148 = .ok (.iload_n 2, 1) := by decide +kernel
theorem dX12_tells_149 : decode cX12_tells 149 = .ok (.ireturn, 1) := by decide +kernel
theorem dX12_share_0 : decode cX12_share 0 = .ok (.aload_n 0, 1) := by decide +kernel
theorem dX12_share_1 : decode cX12_share 1 = .ok (.iload_n 1, 1) := by decide +kernel
theorem dX12_share_2 : decode cX12_share 2 = .ok (.invokestatic 301, 3) := by decide +kernel
theorem dX12_share_5 : decode cX12_share 5 = .ok (.ifCond .ne 7, 3) := by decide +kernel
theorem dX12_share_8 : decode cX12_share 8 = .ok (.iconst 1, 1) := by decide +kernel
theorem dX12_share_9 : decode cX12_share 9 = .ok (.goto 19, 3) := by decide +kernel
theorem dX12_share_12 : decode cX12_share 12 = .ok (.iload_n 2, 1) := by decide +kernel
theorem dX12_share_13 : decode cX12_share 13 = .ok (.iconst 0, 1) := by decide +kernel
theorem dX12_share_14 : decode cX12_share 14 = .ok (.sipush 999, 3) := by decide +kernel
theorem dX12_share_17 : decode cX12_share 17 = .ok (.invokestatic 61, 3) := by decide +kernel
theorem dX12_share_20 : decode cX12_share 20 = .ok (.ifCond .ne 7, 3) := by decide +kernel
theorem dX12_share_23 : decode cX12_share 23 = .ok (.iconst 2, 1) := by decide +kernel
theorem dX12_share_24 : decode cX12_share 24 = .ok (.goto 4, 3) := by decide +kernel
theorem dX12_share_27 : decode cX12_share 27 = .ok (.iconst 0, 1) := by decide +kernel
theorem dX12_share_28 : decode cX12_share 28 = .ok (.putfield 58, 3) := by decide +kernel
theorem dX12_share_31 : decode cX12_share 31 = .ok (.aload_n 0, 1) := by decide +kernel
theorem dX12_share_32 : decode cX12_share 32 = .ok (.getfield 58, 3) := by decide +kernel
theorem dX12_share_35 : decode cX12_share 35 = .ok (.ifCond .le 5, 3) := by decide +kernel
theorem dX12_share_38 : decode cX12_share 38 = .ok (.iconst 0, 1) := by decide +kernel
theorem dX12_share_39 : decode cX12_share 39 = .ok (.ireturn, 1) := by decide +kernel
theorem dX12_share_40 : decode cX12_share 40 = .ok (.iconst 0, 1) := by decide +kernel
theorem dX12_share_41 : decode cX12_share 41 = .ok (.istore_n 3, 1) := by decide +kernel
theorem dX12_share_42 : decode cX12_share 42 = .ok (.iload_n 3, 1) := by decide +kernel
theorem dX12_share_43 : decode cX12_share 43 = .ok (.iconst 4, 1) := by decide +kernel
theorem dX12_share_44 : decode cX12_share 44 = .ok (.if_icmp .ge 24, 3) := by decide +kernel
theorem dX12_share_47 : decode cX12_share 47 = .ok (.aload_n 0, 1) := by decide +kernel
theorem dX12_share_48 : decode cX12_share 48 = .ok (.getfield 55, 3) := by decide +kernel
theorem dX12_share_51 : decode cX12_share 51 = .ok (.iload_n 3, 1) := by decide +kernel
theorem dX12_share_52 : decode cX12_share 52 = .ok (.aload_n 0, 1) := by decide +kernel
theorem dX12_share_53 : decode cX12_share 53 = .ok (.getfield 7, 3) := by decide +kernel
theorem dX12_share_56 : decode cX12_share 56 = .ok (.bipush 12, 2) := by decide +kernel
theorem dX12_share_58 : decode cX12_share 58 = .ok (.iload_n 3, 1) := by decide +kernel
theorem dX12_share_59 : decode cX12_share 59 = .ok (.iadd, 1) := by decide +kernel
theorem dX12_share_60 : decode cX12_share 60 = .ok (.iaload, 1) := by decide +kernel
theorem dX12_share_61 : decode cX12_share 61 = .ok (.iastore, 1) := by decide +kernel
theorem dX12_share_62 : decode cX12_share 62 = .ok (.iinc 3 1, 3) := by decide +kernel
theorem dX12_share_65 : decode cX12_share 65 = .ok (.goto (-23), 3) := by decide +kernel
theorem dX12_share_68 : decode cX12_share 68 = .ok (.iconst 0, 1) := by decide +kernel
theorem dX12_share_69 : decode cX12_share 69 = .ok (.istore_n 3, 1) := by decide +kernel
theorem dX12_share_70 : decode cX12_share 70 = .ok (.iload_n 3, 1) := by decide +kernel
theorem dX12_share_71 : decode cX12_share 71 = .ok (.iload_n 2, 1) := by decide +kernel
theorem dX12_share_72 : decode cX12_share 72 = .ok (.if_icmp .ge 70, 3) := by decide +kernel
theorem dX12_share_75 : decode cX12_share 75 = .ok (.iconst 0, 1) := by decide +kernel
theorem dX12_share_76 : decode cX12_share 76 = .ok (.istore 4, 2) := by decide +kernel
theorem dX12_share_78 : decode cX12_share 78 = .ok (.iconst 1, 1) := by decide +kernel
theorem dX12_share_79 : decode cX12_share 79 = .ok (.istore 5, 2) := by decide +kernel
theorem dX12_share_81 : decode cX12_share 81 = .ok (.iload 5, 2) := by decide +kernel
theorem dX12_share_83 : decode cX12_share 83 = .ok (.iconst 4, 1) := by decide +kernel
theorem dX12_share_84 : decode cX12_share 84 = .ok (.if_icmp .ge 30, 3) := by decide +kernel
theorem dX12_share_87 : decode cX12_share 87 = .ok (.aload_n 0, 1) := by decide +kernel
theorem dX12_share_88 : decode cX12_share 88 = .ok (.getfield 55, 3) := by decide +kernel
theorem dX12_share_91 : decode cX12_share 91 = .ok (.iload 5, 2) := by decide +kernel
theorem dX12_share_93 : decode cX12_share 93 = .ok (.iaload, 1) := by decide +kernel
theorem dX12_share_94 : decode cX12_share 94 = .ok (.aload_n 0, 1) := by decide +kernel
theorem dX12_share_95 : decode cX12_share 95 = .ok (.getfield 55, 3) := by decide +kernel
theorem dX12_share_98 : decode cX12_share 98 = .ok (.iload 4, 2) := by decide +kernel
theorem dX12_share_100 : decode cX12_share 100 = .ok (.iaload, 1) := by decide +kernel
theorem dX12_share_101 : decode cX12_share 101 = .ok (.if_icmp .ge 7, 3) := by decide +kernel
theorem dX12_share_104 : decode cX12_share 104 = .ok (.iload 5, 2) := by decide +kernel
theorem dX12_share_106 : decode cX12_share 106 = .ok (.istore 4, 2) := by decide +kernel
theorem dX12_share_108 : decode cX12_share 108 = .ok (.iinc 5 1, 3) := by decide +kernel
theorem dX12_share_111 : decode cX12_share 111 = .ok (.goto (-30), 3) := by decide +kernel
theorem dX12_share_114 : decode cX12_share 114 = .ok (.aload_n 0, 1) := by decide +kernel
theorem dX12_share_115 : decode cX12_share 115 = .ok (.getfield 55, 3) := by decide +kernel
theorem dX12_share_118 : decode cX12_share 118 = .ok (.iload 4, 2) := by decide +kernel
theorem dX12_share_120 : decode cX12_share 120 = .ok (.sipush 999, 3) := by decide +kernel
theorem dX12_share_123 : decode cX12_share 123 = .ok (.aload_n 0, 1) := by decide +kernel
theorem dX12_share_124 : decode cX12_share 124 = .ok (.getfield 55, 3) := by decide +kernel
theorem dX12_share_127 : decode cX12_share 127 = .ok (.iload 4, 2) := by decide +kernel
theorem dX12_share_129 : decode cX12_share 129 = .ok (.iaload, 1) := by decide +kernel
theorem dX12_share_130 : decode cX12_share 130 = .ok (.iconst 1, 1) := by decide +kernel
theorem dX12_share_131 : decode cX12_share 131 = .ok (.iadd, 1) := by decide +kernel
theorem dX12_share_132 : decode cX12_share 132 = .ok (.invokestatic 73, 3) := by decide +kernel
theorem dX12_share_135 : decode cX12_share 135 = .ok (.iastore, 1) := by decide +kernel
theorem dX12_share_136 : decode cX12_share 136 = .ok (.iinc 3 1, 3) := by decide +kernel
theorem dX12_share_139 : decode cX12_share 139 = .ok (.goto (-69), 3) := by decide +kernel
theorem dX12_share_142 : decode cX12_share 142 = .ok (.aload_n 0, 1) := by decide +kernel
theorem dX12_share_143 : decode cX12_share 143 = .ok (.getfield 55, 3) := by decide +kernel
theorem dX12_share_146 : decode cX12_share 146 = .ok (.iload_n 1, 1) := by decide +kernel
theorem dX12_share_147 : decode cX12_share 147 = .ok (.iaload, 1) := by decide +kernel
theorem dX12_share_148 : decode cX12_share 148 = .ok (.ireturn, 1) := by decide +kernel
theorem dX12_inWalk_0 : decode cX12_inWalk 0 = .ok (.iconst 0, 1) := by decide +kernel
theorem dX12_inWalk_1 : decode cX12_inWalk 1 = .ok (.istore_n 3, 1) := by decide +kernel
theorem dX12_inWalk_2 : decode cX12_inWalk 2 = .ok (.iconst 0, 1) := by decide +kernel
theorem dX12_inWalk_3 : decode cX12_inWalk 3 = .ok (.istore 4, 2) := by decide +kernel
theorem dX12_inWalk_5 : decode cX12_inWalk 5 = .ok (.iload 4, 2) := by decide +kernel
theorem dX12_inWalk_7 : decode cX12_inWalk 7 = .ok (.aload_n 0, 1) := by decide +kernel
theorem dX12_inWalk_8 : decode cX12_inWalk 8 = .ok (.getfield 7, 3) := by decide +kernel
theorem dX12_inWalk_11 : decode cX12_inWalk 11 = .ok (.iconst 3, 1) := by decide +kernel
theorem dX12_inWalk_12 : decode cX12_inWalk 12 = .ok (.iaload, 1) := by decide +kernel
theorem dX12_inWalk_13 : decode cX12_inWalk 13 = .ok (.if_icmp .ge 43, 3) := by decide +kernel
theorem dX12_inWalk_16 : decode cX12_inWalk 16 = .ok (.iload_n 3, 1) := by decide +kernel
theorem dX12_inWalk_17 : decode cX12_inWalk 17 = .ok (.aload_n 0, 1) := by decide +kernel
theorem dX12_inWalk_18 : decode cX12_inWalk 18 = .ok (.iload 4, 2) := by decide +kernel
theorem dX12_inWalk_20 : decode cX12_inWalk 20 = .ok (.iconst 0, 1) := by decide +kernel
theorem dX12_inWalk_21 : decode cX12_inWalk 21 = .ok (.invokevirtual 65, 3) := by decide +kernel
theorem dX12_inWalk_24 : decode cX12_inWalk 24 = .ok (.iconst 4, 1) := by decide +kernel
theorem dX12_inWalk_25 : decode cX12_inWalk 25 = .ok (.idiv, 1) := by decide +kernel
theorem dX12_inWalk_26 : decode cX12_inWalk 26 = .ok (.iload_n 1, 1) := by decide +kernel
theorem dX12_inWalk_27 : decode cX12_inWalk 27 = .ok (.if_icmp .ne 20, 3) := by decide +kernel
theorem dX12_inWalk_30 : decode cX12_inWalk 30 = .ok (.iload_n 2, 1) := by decide +kernel
theorem dX12_inWalk_31 : decode cX12_inWalk 31 = .ok (.ifCond .ne 12, 3) := by decide +kernel
theorem dX12_inWalk_34 : decode cX12_inWalk 34 = .ok (.aload_n 0, 1) := by decide +kernel
theorem dX12_inWalk_35 : decode cX12_inWalk 35 = .ok (.iload 4, 2) := by decide +kernel
theorem dX12_inWalk_37 : decode cX12_inWalk 37 = .ok (.invokevirtual 69, 3) := by decide +kernel
theorem dX12_inWalk_40 : decode cX12_inWalk 40 = .ok (.ifCond .ne 7, 3) := by decide +kernel
theorem dX12_inWalk_43 : decode cX12_inWalk 43 = .ok (.iconst 1, 1) := by decide +kernel
theorem dX12_inWalk_44 : decode cX12_inWalk 44 = .ok (.goto 4, 3) := by decide +kernel
theorem dX12_inWalk_47 : decode cX12_inWalk 47 = .ok (.iconst 0, 1) := by decide +kernel
theorem dX12_inWalk_48 : decode cX12_inWalk 48 = .ok (.iadd, 1) := by decide +kernel
theorem dX12_inWalk_49 : decode cX12_inWalk 49 = .ok (.istore_n 3, 1) := by decide +kernel
theorem dX12_inWalk_50 : decode cX12_inWalk 50 = .ok (.iinc 4 1, 3) := by decide +kernel
theorem dX12_inWalk_53 : decode cX12_inWalk 53 = .ok (.goto (-48), 3) := by decide +kernel
theorem dX12_inWalk_56 : decode cX12_inWalk 56 = .ok (.iload_n 3, 1) := by decide +kernel
theorem dX12_inWalk_57 : decode cX12_inWalk 57 = .ok (.ireturn, 1) := by decide +kernel
theorem dX12_feeds_0 : decode cX12_feeds 0 = .ok (.aload_n 0, 1) := by decide +kernel
theorem dX12_feeds_1 : decode cX12_feeds 1 = .ok (.iload_n 1, 1) := by decide +kernel
theorem dX12_feeds_2 : decode cX12_feeds 2 = .ok (.invokestatic 301, 3) := by decide +kernel
theorem dX12_feeds_5 : decode cX12_feeds 5 = .ok (.ifCond .ne 7, 3) := by decide +kernel
theorem dX12_feeds_8 : decode cX12_feeds 8 = .ok (.iconst 1, 1) := by decide +kernel
theorem dX12_feeds_9 : decode cX12_feeds 9 = .ok (.goto 4, 3) := by decide +kernel
theorem dX12_feeds_12 : decode cX12_feeds 12 = .ok (.iconst 0, 1) := by decide +kernel
theorem dX12_feeds_13 : decode cX12_feeds 13 = .ok (.putfield 58, 3) := by decide +kernel
theorem dX12_feeds_16 : decode cX12_feeds 16 = .ok (.aload_n 0, 1) := by decide +kernel
theorem dX12_feeds_17 : decode cX12_feeds 17 = .ok (.getfield 58, 3) := by decide +kernel
theorem dX12_feeds_20 : decode cX12_feeds 20 = .ok (.ifCond .le 5, 3) := by decide +kernel
theorem dX12_feeds_23 : decode cX12_feeds 23 = .ok (.iconst 0, 1) := by decide +kernel
theorem dX12_feeds_24 : decode cX12_feeds 24 = .ok (.ireturn, 1) := by decide +kernel
theorem dX12_feeds_25 : decode cX12_feeds 25 = .ok (.aload_n 0, 1) := by decide +kernel
theorem dX12_feeds_26 : decode cX12_feeds 26 = .ok (.iload_n 1, 1) := by decide +kernel
theorem dX12_feeds_27 : decode cX12_feeds 27 = .ok (.iconst 0, 1) := by decide +kernel
theorem dX12_feeds_28 : decode cX12_feeds 28 = .ok (.invokevirtual 382, 3) := by decide +kernel
theorem dX12_feeds_31 : decode cX12_feeds 31 = .ok (.istore_n 2, 1) := by decide +kernel
theorem dX12_feeds_32 : decode cX12_feeds 32 = .ok (.iload_n 2, 1) := by decide +kernel
theorem dX12_feeds_33 : decode cX12_feeds 33 = .ok (.ifCond .ne 7, 3) := by decide +kernel
theorem dX12_feeds_36 : decode cX12_feeds 36 = .ok (.iconst (-1), 1) := by decide +kernel
theorem dX12_feeds_37 : decode cX12_feeds 37 = .ok (.goto 14, 3) := by decide +kernel
theorem dX12_feeds_40 : decode cX12_feeds 40 = .ok (.aload_n 0, 1) := by decide +kernel
theorem dX12_feeds_41 : decode cX12_feeds 41 = .ok (.getfield 7, 3) := by decide +kernel
theorem dX12_feeds_44 : decode cX12_feeds 44 = .ok (.bipush 12, 2) := by decide +kernel
theorem dX12_feeds_46 : decode cX12_feeds 46 = .ok (.iload_n 1, 1) := by decide +kernel
theorem dX12_feeds_47 : decode cX12_feeds 47 = .ok (.iadd, 1) := by decide +kernel
theorem dX12_feeds_48 : decode cX12_feeds 48 = .ok (.iaload, 1) := by decide +kernel
theorem dX12_feeds_49 : decode cX12_feeds 49 = .ok (.iload_n 2, 1) := by decide +kernel
theorem dX12_feeds_50 : decode cX12_feeds 50 = .ok (.idiv, 1) := by decide +kernel
theorem dX12_feeds_51 : decode cX12_feeds 51 = .ok (.ireturn, 1) := by decide +kernel
theorem dX12_both_0 : decode cX12_both 0 = .ok (.aload_n 0, 1) := by decide +kernel
theorem dX12_both_1 : decode cX12_both 1 = .ok (.iload_n 1, 1) := by decide +kernel
theorem dX12_both_2 : decode cX12_both 2 = .ok (.iconst 3, 1) := by decide +kernel
theorem dX12_both_3 : decode cX12_both 3 = .ok (.invokevirtual 65, 3) := by decide +kernel
theorem dX12_both_6 : decode cX12_both 6 = .ok (.aload_n 0, 1) := by decide +kernel
theorem dX12_both_7 : decode cX12_both 7 = .ok (.iload_n 2, 1) := by decide +kernel
theorem dX12_both_8 : decode cX12_both 8 = .ok (.iconst 3, 1) := by decide +kernel
theorem dX12_both_9 : decode cX12_both 9 = .ok (.invokevirtual 65, 3) := by decide +kernel
theorem dX12_both_12 : decode cX12_both 12 = .ok (.iand, 1) := by decide +kernel
theorem dX12_both_13 : decode cX12_both 13 = .ok (.invokestatic 352, 3) := by decide +kernel
theorem dX12_both_16 : decode cX12_both 16 = .ok (.ireturn, 1) := by decide +kernel
theorem dX12_lowest_0 : decode cX12_lowest 0 = .ok (.iconst 0, 1) := by decide +kernel
theorem dX12_lowest_1 : decode cX12_lowest 1 = .ok (.istore_n 1, 1) := by decide +kernel
theorem dX12_lowest_2 : decode cX12_lowest 2 = .ok (.iload_n 0, 1) := by decide +kernel
theorem dX12_lowest_3 : decode cX12_lowest 3 = .ok (.iload_n 1, 1) := by decide +kernel
theorem dX12_lowest_4 : decode cX12_lowest 4 = .ok (.invokestatic 119, 3) := by decide +kernel
theorem dX12_lowest_7 : decode cX12_lowest 7 = .ok (.ifCond .ne 9, 3) := by decide +kernel
theorem dX12_lowest_10 : decode cX12_lowest 10 = .ok (.iinc 1 1, 3) := by decide +kernel
theorem dX12_lowest_13 : decode cX12_lowest 13 = .ok (.goto (-11), 3) := by decide +kernel
theorem dX12_lowest_16 : decode cX12_lowest 16 = .ok (.iload_n 1, 1) := by decide +kernel
theorem dX12_lowest_17 : decode cX12_lowest 17 = .ok (.ireturn, 1) := by decide +kernel
theorem dX12_allBest_0 : decode cX12_allBest 0 = .ok (.aload_n 0, 1) := by decide +kernel
theorem dX12_allBest_1 : decode cX12_allBest 1 = .ok (.getfield 39, 3) := by decide +kernel
theorem dX12_allBest_4 : decode cX12_allBest 4 = .ok (.iconst 0, 1) := by decide +kernel
theorem dX12_allBest_5 : decode cX12_allBest 5 = .ok (.iconst 0, 1) := by decide +kernel
theorem dX12_allBest_6 : decode cX12_allBest 6 = .ok (.iastore, 1) := by decide +kernel
theorem dX12_allBest_7 : decode cX12_allBest 7 = .ok (.iconst 1, 1) := by decide +kernel
theorem dX12_allBest_8 : decode cX12_allBest 8 = .ok (.istore_n 1, 1) := by decide +kernel
theorem dX12_allBest_9 : decode cX12_allBest 9 = .ok (.iload_n 1, 1) := by decide +kernel
theorem dX12_allBest_10 : decode cX12_allBest 10 = .ok (.aload_n 0, 1) := by decide +kernel
theorem dX12_allBest_11 : decode cX12_allBest 11 = .ok (.invokevirtual 346, 3) := by decide +kernel
theorem dX12_allBest_14 : decode cX12_allBest 14 = .ok (.if_icmp .gt 101, 3) := by decide +kernel
theorem dX12_allBest_17 : decode cX12_allBest 17 = .ok (.iload_n 1, 1) := by decide +kernel
theorem dX12_allBest_18 : decode cX12_allBest 18 = .ok (.invokestatic 385, 3) := by decide +kernel
theorem dX12_allBest_21 : decode cX12_allBest 21 = .ok (.istore_n 2, 1) := by decide +kernel
theorem dX12_allBest_22 : decode cX12_allBest 22 = .ok (.iload_n 1, 1) := by decide +kernel
theorem dX12_allBest_23 : decode cX12_allBest 23 = .ok (.iconst 1, 1) := by decide +kernel
theorem dX12_allBest_24 : decode cX12_allBest 24 = .ok (.iload_n 2, 1) := by decide +kernel
theorem dX12_allBest_25 : decode cX12_allBest 25 = .ok (.ishl, 1) := by decide +kernel
theorem dX12_allBest_26 : decode cX12_allBest 26 = .ok (.iconst (-1), 1) := by decide +kernel
theorem dX12_allBest_27 : decode cX12_allBest 27 = .ok (.ixor, 1) := by decide +kernel
theorem dX12_allBest_28 : decode cX12_allBest 28 = .ok (.iand, 1) := by decide +kernel
theorem dX12_allBest_29 : decode cX12_allBest 29 = .ok (.istore_n 3, 1) := by decide +kernel
theorem dX12_allBest_30 : decode cX12_allBest 30 = .ok (.aload_n 0, 1) := by decide +kernel
theorem dX12_allBest_31 : decode cX12_allBest 31 = .ok (.getfield 39, 3) := by decide +kernel
theorem dX12_allBest_34 : decode cX12_allBest 34 = .ok (.iload_n 1, 1) := by decide +kernel
theorem dX12_allBest_35 : decode cX12_allBest 35 = .ok (.aload_n 0, 1) := by decide +kernel
theorem dX12_allBest_36 : decode cX12_allBest 36 = .ok (.getfield 39, 3) := by decide +kernel
theorem dX12_allBest_39 : decode cX12_allBest 39 = .ok (.iload_n 3, 1) := by decide +kernel
theorem dX12_allBest_40 : decode cX12_allBest 40 = .ok (.iaload, 1) := by decide +kernel
theorem dX12_allBest_41 : decode cX12_allBest 41 = .ok (.iastore, 1) := by decide +kernel
theorem dX12_allBest_42 : decode cX12_allBest 42 = .ok (.iload_n 2, 1) := by decide +kernel
theorem dX12_allBest_43 : decode cX12_allBest 43 = .ok (.iconst 1, 1) := by decide +kernel
theorem dX12_allBest_44 : decode cX12_allBest 44 = .ok (.iadd, 1) := by decide +kernel
theorem dX12_allBest_45 : decode cX12_allBest 45 = .ok (.istore 4, 2) := by decide +kernel
theorem dX12_allBest_47 : decode cX12_allBest 47 = .ok (.iload 4, 2) := by decide +kernel
theorem dX12_allBest_49 : decode cX12_allBest 49 = .ok (.aload_n 0, 1) := by decide +kernel
theorem dX12_allBest_50 : decode cX12_allBest 50 = .ok (.getfield 7, 3) := by decide +kernel
theorem dX12_allBest_53 : decode cX12_allBest 53 = .ok (.iconst 3, 1) := by decide +kernel
theorem dX12_allBest_54 : decode cX12_allBest 54 = .ok (.iaload, 1) := by decide +kernel
theorem dX12_allBest_55 : decode cX12_allBest 55 = .ok (.if_icmp .ge 54, 3) := by decide +kernel
theorem dX12_allBest_58 : decode cX12_allBest 58 = .ok (.iload_n 3, 1) := by decide +kernel
theorem dX12_allBest_59 : decode cX12_allBest 59 = .ok (.iload 4, 2) := by decide +kernel
theorem dX12_allBest_61 : decode cX12_allBest 61 = .ok (.invokestatic 119, 3) := by decide +kernel
theorem dX12_allBest_64 : decode cX12_allBest 64 = .ok (.ifCond .eq 39, 3) := by decide +kernel
theorem dX12_allBest_67 : decode cX12_allBest 67 = .ok (.aload_n 0, 1) := by decide +kernel
theorem dX12_allBest_68 : decode cX12_allBest 68 = .ok (.getfield 39, 3) := by decide +kernel
theorem dX12_allBest_71 : decode cX12_allBest 71 = .ok (.iload_n 1, 1) := by decide +kernel
theorem dX12_allBest_72 : decode cX12_allBest 72 = .ok (.aload_n 0, 1) := by decide +kernel
theorem dX12_allBest_73 : decode cX12_allBest 73 = .ok (.getfield 39, 3) := by decide +kernel
theorem dX12_allBest_76 : decode cX12_allBest 76 = .ok (.iload_n 1, 1) := by decide +kernel
theorem dX12_allBest_77 : decode cX12_allBest 77 = .ok (.iaload, 1) := by decide +kernel
theorem dX12_allBest_78 : decode cX12_allBest 78 = .ok (.aload_n 0, 1) := by decide +kernel
theorem dX12_allBest_79 : decode cX12_allBest 79 = .ok (.iload_n 2, 1) := by decide +kernel
theorem dX12_allBest_80 : decode cX12_allBest 80 = .ok (.iload 4, 2) := by decide +kernel
theorem dX12_allBest_82 : decode cX12_allBest 82 = .ok (.invokevirtual 388, 3) := by decide +kernel
theorem dX12_allBest_85 : decode cX12_allBest 85 = .ok (.aload_n 0, 1) := by decide +kernel
theorem dX12_allBest_86 : decode cX12_allBest 86 = .ok (.getfield 39, 3) := by decide +kernel
theorem dX12_allBest_89 : decode cX12_allBest 89 = .ok (.iload_n 3, 1) := by decide +kernel
theorem dX12_allBest_90 : decode cX12_allBest 90 = .ok (.iconst 1, 1) := by decide +kernel
theorem dX12_allBest_91 : decode cX12_allBest 91 = .ok (.iload 4, 2) := by decide +kernel
theorem dX12_allBest_93 : decode cX12_allBest 93 = .ok (.ishl, 1) := by decide +kernel
theorem dX12_allBest_94 : decode cX12_allBest 94 = .ok (.iconst (-1), 1) := by decide +kernel
theorem dX12_allBest_95 : decode cX12_allBest 95 = .ok (.ixor, 1) := by decide +kernel
theorem dX12_allBest_96 : decode cX12_allBest 96 = .ok (.iand, 1) := by decide +kernel
theorem dX12_allBest_97 : decode cX12_allBest 97 = .ok (.iaload, 1) := by decide +kernel
theorem dX12_allBest_98 : decode cX12_allBest 98 = .ok (.iadd, 1) := by decide +kernel
theorem dX12_allBest_99 : decode cX12_allBest 99 = .ok (.invokestatic 266, 3) := by decide +kernel
theorem dX12_allBest_102 : decode cX12_allBest 102 = .ok (.iastore, 1) := by decide +kernel
theorem dX12_allBest_103 : decode cX12_allBest 103 = .ok (.iinc 4 1, 3) := by decide +kernel
theorem dX12_allBest_106 : decode cX12_allBest 106 = .ok (.goto (-59), 3) := by decide +kernel
theorem dX12_allBest_109 : decode cX12_allBest 109 = .ok (.iinc 1 1, 3) := by decide +kernel
theorem dX12_allBest_112 : decode cX12_allBest 112 = .ok (.goto (-103), 3) := by decide +kernel
theorem dX12_allBest_115 : decode cX12_allBest 115 = .ok (.return_, 1) := by decide +kernel
theorem dX12_pairs_0 : decode cX12_pairs 0 = .ok (.aload_n 0, 1) := by decide +kernel
theorem dX12_pairs_1 : decode cX12_pairs 1 = .ok (.iload_n 1, 1) := by decide +kernel
theorem dX12_pairs_2 : decode cX12_pairs 2 = .ok (.iconst (-1), 1) := by decide +kernel
theorem dX12_pairs_3 : decode cX12_pairs 3 = .ok (.if_icmp .eq 15, 3) := by decide +kernel
theorem dX12_pairs_6 : decode cX12_pairs 6 = .ok (.aload_n 0, 1) := by decide +kernel
theorem dX12_pairs_7 : decode cX12_pairs 7 = .ok (.iload_n 1, 1) := by decide +kernel
theorem dX12_pairs_8 : decode cX12_pairs 8 = .ok (.invokevirtual 295, 3) := by decide +kernel
theorem dX12_pairs_11 : decode cX12_pairs 11 = .ok (.ifCond .ne 7, 3) := by decide +kernel
theorem dX12_pairs_14 : decode cX12_pairs 14 = .ok (.iconst 1, 1) := by decide +kernel
theorem dX12_pairs_15 : decode cX12_pairs 15 = .ok (.goto 4, 3) := by decide +kernel
theorem dX12_pairs_18 : decode cX12_pairs 18 = .ok (.iconst 0, 1) := by decide +kernel
theorem dX12_pairs_19 : decode cX12_pairs 19 = .ok (.putfield 58, 3) := by decide +kernel
theorem dX12_pairs_22 : decode cX12_pairs 22 = .ok (.aload_n 0, 1) := by decide +kernel
theorem dX12_pairs_23 : decode cX12_pairs 23 = .ok (.getfield 58, 3) := by decide +kernel
theorem dX12_pairs_26 : decode cX12_pairs 26 = .ok (.ifCond .le 5, 3) := by decide +kernel
theorem dX12_pairs_29 : decode cX12_pairs 29 = .ok (.iconst 0, 1) := by decide +kernel
theorem dX12_pairs_30 : decode cX12_pairs 30 = .ok (.ireturn, 1) := by decide +kernel
theorem dX12_pairs_31 : decode cX12_pairs 31 = .ok (.aload_n 0, 1) := by decide +kernel
theorem dX12_pairs_32 : decode cX12_pairs 32 = .ok (.invokevirtual 391, 3) := by decide +kernel
theorem dX12_pairs_35 : decode cX12_pairs 35 = .ok (.iload_n 1, 1) := by decide +kernel
theorem dX12_pairs_36 : decode cX12_pairs 36 = .ok (.iconst (-1), 1) := by decide +kernel
theorem dX12_pairs_37 : decode cX12_pairs 37 = .ok (.if_icmp .ne 13, 3) := by decide +kernel
theorem dX12_pairs_40 : decode cX12_pairs 40 = .ok (.aload_n 0, 1) := by decide +kernel
theorem dX12_pairs_41 : decode cX12_pairs 41 = .ok (.getfield 39, 3) := by decide +kernel
theorem dX12_pairs_44 : decode cX12_pairs 44 = .ok (.aload_n 0, 1) := by decide +kernel
theorem dX12_pairs_45 : decode cX12_pairs 45 = .ok (.invokevirtual 346, 3) := by decide +kernel
theorem dX12_pairs_48 : decode cX12_pairs 48 = .ok (.iaload, 1) := by decide +kernel
theorem dX12_pairs_49 : decode cX12_pairs 49 = .ok (.ireturn, 1) := by decide +kernel
theorem dX12_pairs_50 : decode cX12_pairs 50 = .ok (.aload_n 0, 1) := by decide +kernel
theorem dX12_pairs_51 : decode cX12_pairs 51 = .ok (.invokevirtual 346, 3) := by decide +kernel
theorem dX12_pairs_54 : decode cX12_pairs 54 = .ok (.istore_n 2, 1) := by decide +kernel
theorem dX12_pairs_55 : decode cX12_pairs 55 = .ok (.iload_n 2, 1) := by decide +kernel
theorem dX12_pairs_56 : decode cX12_pairs 56 = .ok (.ifCond .eq 143, 3) := by decide +kernel
theorem dX12_pairs_59 : decode cX12_pairs 59 = .ok (.iload_n 2, 1) := by decide +kernel
theorem dX12_pairs_60 : decode cX12_pairs 60 = .ok (.invokestatic 385, 3) := by decide +kernel
theorem dX12_pairs_63 : decode cX12_pairs 63 = .ok (.istore_n 3, 1) := by decide +kernel
theorem dX12_pairs_64 : decode cX12_pairs 64 = .ok (.iload_n 2, 1) := by decide +kernel
theorem dX12_pairs_65 : decode cX12_pairs 65 = .ok (.iconst 1, 1) := by decide +kernel
theorem dX12_pairs_66 : decode cX12_pairs 66 = .ok (.iload_n 3, 1) := by decide +kernel
theorem dX12_pairs_67 : decode cX12_pairs 67 = .ok (.ishl, 1) := by decide +kernel
theorem dX12_pairs_68 : decode cX12_pairs 68 = .ok (.iconst (-1), 1) := by decide +kernel
theorem dX12_pairs_69 : decode cX12_pairs 69 = .ok (.ixor, 1) := by decide +kernel
theorem dX12_pairs_70 : decode cX12_pairs 70 = .ok (.iand, 1) := by decide +kernel
theorem dX12_pairs_71 : decode cX12_pairs 71 = .ok (.istore 4, 2) := by decide +kernel
theorem dX12_pairs_73 : decode cX12_pairs 73 = .ok (.iconst (-1), 1) := by decide +kernel
theorem dX12_pairs_74 : decode cX12_pairs 74 = .ok (.istore 5, 2) := by decide +kernel
theorem dX12_pairs_76 : decode cX12_pairs 76 = .ok (.aload_n 0, 1) := by decide +kernel
theorem dX12_pairs_77 : decode cX12_pairs 77 = .ok (.getfield 7, 3) := by decide +kernel
theorem dX12_pairs_80 : decode cX12_pairs 80 = .ok (.iconst 3, 1) := by decide +kernel
theorem dX12_pairs_81 : decode cX12_pairs 81 = .ok (.iaload, 1) := by decide +kernel
theorem dX12_pairs_82 : decode cX12_pairs 82 = .ok (.iconst 1, 1) := by decide +kernel
theorem dX12_pairs_83 : decode cX12_pairs 83 = .ok (.isub, 1) := by decide +kernel
theorem dX12_pairs_84 : decode cX12_pairs 84 = .ok (.istore 6, 2) := by decide +kernel
theorem dX12_pairs_86 : decode cX12_pairs 86 = .ok (.iload 6, 2) := by decide +kernel
theorem dX12_pairs_88 : decode cX12_pairs 88 = .ok (.iload_n 3, 1) := by decide +kernel
theorem dX12_pairs_89 : decode cX12_pairs 89 = .ok (.if_icmp .le 70, 3) := by decide +kernel
theorem dX12_pairs_92 : decode cX12_pairs 92 = .ok (.aload_n 0, 1) := by decide +kernel
theorem dX12_pairs_93 : decode cX12_pairs 93 = .ok (.getfield 39, 3) := by decide +kernel
theorem dX12_pairs_96 : decode cX12_pairs 96 = .ok (.iload 4, 2) := by decide +kernel
theorem dX12_pairs_98 : decode cX12_pairs 98 = .ok (.iaload, 1) := by decide +kernel
theorem dX12_pairs_99 : decode cX12_pairs 99 = .ok (.aload_n 0, 1) := by decide +kernel
theorem dX12_pairs_100 : decode cX12_pairs 100 = .ok (.getfield 39, 3) := by decide +kernel
theorem dX12_pairs_103 : decode cX12_pairs 103 = .ok (.iload_n 2, 1) := by decide +kernel
theorem dX12_pairs_104 : decode cX12_pairs 104 = .ok (.iaload, 1) := by decide +kernel
theorem dX12_pairs_105 : decode cX12_pairs 105 = .ok (.if_icmp .eq 54, 3) := by decide +kernel
theorem dX12_pairs_108 : decode cX12_pairs 108 = .ok (.iload 4, 2) := by decide +kernel
theorem dX12_pairs_110 : decode cX12_pairs 110 = .ok (.iload 6, 2) := by decide +kernel
theorem dX12_pairs_112 : decode cX12_pairs 112 = .ok (.invokestatic 119, 3) := by decide +kernel
theorem dX12_pairs_115 : decode cX12_pairs 115 = .ok (.ifCond .eq 38, 3) := by decide +kernel
theorem dX12_pairs_118 : decode cX12_pairs 118 = .ok (.aload_n 0, 1) := by decide +kernel
theorem dX12_pairs_119 : decode cX12_pairs 119 = .ok (.iload_n 3, 1) := by decide +kernel
theorem dX12_pairs_120 : decode cX12_pairs 120 = .ok (.iload 6, 2) := by decide +kernel
theorem dX12_pairs_122 : decode cX12_pairs 122 = .ok (.invokevirtual 388, 3) := by decide +kernel
theorem dX12_pairs_125 : decode cX12_pairs 125 = .ok (.aload_n 0, 1) := by decide +kernel
theorem dX12_pairs_126 : decode cX12_pairs 126 = .ok (.getfield 39, 3) := by decide +kernel
theorem dX12_pairs_129 : decode cX12_pairs 129 = .ok (.iload 4, 2) := by decide +kernel
theorem dX12_pairs_131 : decode cX12_pairs 131 = .ok (.iconst 1, 1) := by decide +kernel
theorem dX12_pairs_132 : decode cX12_pairs 132 = .ok (.iload 6, 2) := by decide +kernel
theorem dX12_pairs_134 : decode cX12_pairs 134 = .ok (.ishl, 1) := by decide +kernel
theorem dX12_pairs_135 : decode cX12_pairs 135 = .ok (.iconst (-1), 1) := by decide +kernel
theorem dX12_pairs_136 : decode cX12_pairs 136 = .ok (.ixor, 1) := by decide +kernel
theorem dX12_pairs_137 : decode cX12_pairs 137 = .ok (.iand, 1) := by decide +kernel
theorem dX12_pairs_138 : decode cX12_pairs 138 = .ok (.iaload, 1) := by decide +kernel
theorem dX12_pairs_139 : decode cX12_pairs 139 = .ok (.iadd, 1) := by decide +kernel
theorem dX12_pairs_140 : decode cX12_pairs 140 = .ok (.aload_n 0, 1) := by decide +kernel
theorem dX12_pairs_141 : decode cX12_pairs 141 = .ok (.getfield 39, 3) := by decide +kernel
theorem dX12_pairs_144 : decode cX12_pairs 144 = .ok (.iload_n 2, 1) := by decide +kernel
theorem dX12_pairs_145 : decode cX12_pairs 145 = .ok (.iaload, 1) := by decide +kernel
theorem dX12_pairs_146 : decode cX12_pairs 146 = .ok (.if_icmp .ne 7, 3) := by decide +kernel
theorem dX12_pairs_149 : decode cX12_pairs 149 = .ok (.iload 6, 2) := by decide +kernel
theorem dX12_pairs_151 : decode cX12_pairs 151 = .ok (.istore 5, 2) := by decide +kernel
theorem dX12_pairs_153 : decode cX12_pairs 153 = .ok (.iinc 6 (-1), 3) := by decide +kernel
theorem dX12_pairs_156 : decode cX12_pairs 156 = .ok (.goto (-70), 3) := by decide +kernel
theorem dX12_pairs_159 : decode cX12_pairs 159 = .ok (.iload_n 3, 1) := by decide +kernel
theorem dX12_pairs_160 : decode cX12_pairs 160 = .ok (.iload_n 1, 1) := by decide +kernel
theorem dX12_pairs_161 : decode cX12_pairs 161 = .ok (.if_icmp .ne 6, 3) := by decide +kernel
theorem dX12_pairs_164 : decode cX12_pairs 164 = .ok (.iload 5, 2) := by decide +kernel
theorem dX12_pairs_166 : decode cX12_pairs 166 = .ok (.ireturn, 1) := by decide +kernel
theorem dX12_pairs_167 : decode cX12_pairs 167 = .ok (.iload 5, 2) := by decide +kernel
theorem dX12_pairs_169 : decode cX12_pairs 169 = .ok (.iload_n 1, 1) := by decide +kernel
theorem dX12_pairs_170 : decode cX12_pairs 170 = .ok (.if_icmp .ne 5, 3) := by decide +kernel
theorem dX12_pairs_173 : decode cX12_pairs 173 = .ok (.iload_n 3, 1) := by decide +kernel
theorem dX12_pairs_174 : decode cX12_pairs 174 = .ok (.ireturn, 1) := by decide +kernel
theorem dX12_pairs_175 : decode cX12_pairs 175 = .ok (.iload 5, 2) := by decide +kernel
theorem dX12_pairs_177 : decode cX12_pairs 177 = .ok (.iconst (-1), 1) := by decide +kernel
theorem dX12_pairs_178 : decode cX12_pairs 178 = .ok (.if_icmp .ne 8, 3) := by decide +kernel
theorem dX12_pairs_181 : decode cX12_pairs 181 = .ok (.iload 4, 2) := by decide +kernel
theorem dX12_pairs_183 : decode cX12_pairs 183 = .ok (.goto 12, 3) := by decide +kernel
theorem dX12_pairs_186 : decode cX12_pairs 186 = .ok (.iload 4, 2) := by decide +kernel
theorem dX12_pairs_188 : decode cX12_pairs 188 = .ok (.iconst 1, 1) := by decide +kernel
theorem dX12_pairs_189 : decode cX12_pairs 189 = .ok (.iload 5, 2) := by decide +kernel
theorem dX12_pairs_191 : decode cX12_pairs 191 = .ok (.ishl, 1) := by decide +kernel
theorem dX12_pairs_192 : decode cX12_pairs 192 = .ok (.iconst (-1), 1) := by decide +kernel
theorem dX12_pairs_193 : decode cX12_pairs 193 = .ok (.ixor, 1) := by decide +kernel
theorem dX12_pairs_194 : decode cX12_pairs 194 = .ok (.iand, 1) := by decide +kernel
theorem dX12_pairs_195 : decode cX12_pairs 195 = .ok (.istore_n 2, 1) := by decide +kernel
theorem dX12_pairs_196 : decode cX12_pairs 196 = .ok (.goto (-141), 3) := by decide +kernel
theorem dX12_pairs_199 : decode cX12_pairs 199 = .ok (.iconst (-1), 1) := by decide +kernel
theorem dX12_pairs_200 : decode cX12_pairs 200 = .ok (.ireturn, 1) := by decide +kernel
theorem dX12_watches_0 : decode cX12_watches 0 = .ok (.iconst 1, 1) := by decide +kernel
theorem dX12_watches_1 : decode cX12_watches 1 = .ok (.istore_n 2, 1) := by decide +kernel
theorem dX12_watches_2 : decode cX12_watches 2 = .ok (.iconst 0, 1) := by decide +kernel
theorem dX12_watches_3 : decode cX12_watches 3 = .ok (.istore_n 3, 1) := by decide +kernel
theorem dX12_watches_4 : decode cX12_watches 4 = .ok (.iload_n 3, 1) := by decide +kernel
theorem dX12_watches_5 : decode cX12_watches 5 = .ok (.aload_n 0, 1) := by decide +kernel
theorem dX12_watches_6 : decode cX12_watches 6 = .ok (.getfield 7, 3) := by decide +kernel
theorem dX12_watches_9 : decode cX12_watches 9 = .ok (.iconst 3, 1) := by decide +kernel
theorem dX12_watches_10 : decode cX12_watches 10 = .ok (.iaload, 1) := by decide +kernel
theorem dX12_watches_11 : decode cX12_watches 11 = .ok (.if_icmp .ge 89, 3) := by decide +kernel
theorem dX12_watches_14 : decode cX12_watches 14 = .ok (.iload_n 2, 1) := by decide +kernel
theorem dX12_watches_15 : decode cX12_watches 15 = .ok (.ifCond .eq 85, 3) := by decide +kernel
theorem dX12_watches_18 : decode cX12_watches 18 = .ok (.iconst 0, 1) := by decide +kernel
theorem dX12_watches_19 : decode cX12_watches 19 = .ok (.istore 4, 2) := by decide +kernel
theorem dX12_watches_21 : decode cX12_watches 21 = .ok (.iconst 0, 1) := by decide +kernel
theorem dX12_watches_22 : decode cX12_watches 22 = .ok (.istore 5, 2) := by decide +kernel
theorem dX12_watches_24 : decode cX12_watches 24 = .ok (.iload 5, 2) := by decide +kernel
theorem dX12_watches_26 : decode cX12_watches 26 = .ok (.aload_n 0, 1) := by decide +kernel
theorem dX12_watches_27 : decode cX12_watches 27 = .ok (.getfield 7, 3) := by decide +kernel
theorem dX12_watches_30 : decode cX12_watches 30 = .ok (.iconst 3, 1) := by decide +kernel
theorem dX12_watches_31 : decode cX12_watches 31 = .ok (.iaload, 1) := by decide +kernel
theorem dX12_watches_32 : decode cX12_watches 32 = .ok (.if_icmp .ge 59, 3) := by decide +kernel
theorem dX12_watches_35 : decode cX12_watches 35 = .ok (.iload 4, 2) := by decide +kernel
theorem dX12_watches_37 : decode cX12_watches 37 = .ok (.ifCond .ne 41, 3) := by decide +kernel
theorem dX12_watches_40 : decode cX12_watches 40 = .ok (.iload_n 1, 1) := by decide +kernel
theorem dX12_watches_41 : decode cX12_watches 41 = .ok (.iload 5, 2) := by decide +kernel
theorem dX12_watches_43 : decode cX12_watches 43 = .ok (.invokestatic 119, 3) := by decide +kernel
theorem dX12_watches_46 : decode cX12_watches 46 = .ok (.ifCond .eq 36, 3) := by decide +kernel
theorem dX12_watches_49 : decode cX12_watches 49 = .ok (.aload_n 0, 1) := by decide +kernel
theorem dX12_watches_50 : decode cX12_watches 50 = .ok (.iload 5, 2) := by decide +kernel
theorem dX12_watches_52 : decode cX12_watches 52 = .ok (.invokevirtual 69, 3) := by decide +kernel
theorem dX12_watches_55 : decode cX12_watches 55 = .ok (.ifCond .ne 27, 3) := by decide +kernel
theorem dX12_watches_58 : decode cX12_watches 58 = .ok (.aload_n 0, 1) := by decide +kernel
theorem dX12_watches_59 : decode cX12_watches 59 = .ok (.iload_n 3, 1) := by decide +kernel
theorem dX12_watches_60 : decode cX12_watches 60 = .ok (.iconst 0, 1) := by decide +kernel
theorem dX12_watches_61 : decode cX12_watches 61 = .ok (.invokevirtual 65, 3) := by decide +kernel
theorem dX12_watches_64 : decode cX12_watches 64 = .ok (.aload_n 0, 1) := by decide +kernel
theorem dX12_watches_65 : decode cX12_watches 65 = .ok (.iload 5, 2) := by decide +kernel
theorem dX12_watches_67 : decode cX12_watches 67 = .ok (.iconst 0, 1) := by decide +kernel
theorem dX12_watches_68 : decode cX12_watches 68 = .ok (.invokevirtual 65, 3) := by decide +kernel
theorem dX12_watches_71 : decode cX12_watches 71 = .ok (.invokestatic 331, 3) := by decide +kernel
theorem dX12_watches_74 : decode cX12_watches 74 = .ok (.iconst 2, 1) := by decide +kernel
theorem dX12_watches_75 : decode cX12_watches 75 = .ok (.if_icmp .gt 7, 3) := by decide +kernel
theorem dX12_watches_78 : decode cX12_watches 78 = .ok (.iconst 1, 1) := by decide +kernel
theorem dX12_watches_79 : decode cX12_watches 79 = .ok (.goto 4, 3) := by decide +kernel
theorem dX12_watches_82 : decode cX12_watches 82 = .ok (.iconst 0, 1) := by decide +kernel
theorem dX12_watches_83 : decode cX12_watches 83 = .ok (.istore 4, 2) := by decide +kernel
theorem dX12_watches_85 : decode cX12_watches 85 = .ok (.iinc 5 1, 3) := by decide +kernel
theorem dX12_watches_88 : decode cX12_watches 88 = .ok (.goto (-64), 3) := by decide +kernel
theorem dX12_watches_91 : decode cX12_watches 91 = .ok (.iload 4, 2) := by decide +kernel
theorem dX12_watches_93 : decode cX12_watches 93 = .ok (.istore_n 2, 1) := by decide +kernel
theorem dX12_watches_94 : decode cX12_watches 94 = .ok (.iinc 3 1, 3) := by decide +kernel
theorem dX12_watches_97 : decode cX12_watches 97 = .ok (.goto (-93), 3) := by decide +kernel
theorem dX12_watches_100 : decode cX12_watches 100 = .ok (.iload_n 2, 1) := by decide +kernel
theorem dX12_watches_101 : decode cX12_watches 101 = .ok (.ireturn, 1) := by decide +kernel
theorem dX12_watch_0 : decode cX12_watch 0 = .ok (.aload_n 0, 1) := by decide +kernel
theorem dX12_watch_1 : decode cX12_watch 1 = .ok (.iconst 0, 1) := by decide +kernel
theorem dX12_watch_2 : decode cX12_watch 2 = .ok (.putfield 58, 3) := by decide +kernel
theorem dX12_watch_5 : decode cX12_watch 5 = .ok (.aload_n 0, 1) := by decide +kernel
theorem dX12_watch_6 : decode cX12_watch 6 = .ok (.invokevirtual 394, 3) := by decide +kernel
theorem dX12_watch_9 : decode cX12_watch 9 = .ok (.istore_n 1, 1) := by decide +kernel
theorem dX12_watch_10 : decode cX12_watch 10 = .ok (.iconst (-1), 1) := by decide +kernel
theorem dX12_watch_11 : decode cX12_watch 11 = .ok (.istore_n 2, 1) := by decide +kernel
theorem dX12_watch_12 : decode cX12_watch 12 = .ok (.iconst 0, 1) := by decide +kernel
theorem dX12_watch_13 : decode cX12_watch 13 = .ok (.istore_n 3, 1) := by decide +kernel
theorem dX12_watch_14 : decode cX12_watch 14 = .ok (.iload_n 3, 1) := by decide +kernel
theorem dX12_watch_15 : decode cX12_watch 15 = .ok (.aload_n 0, 1) := by decide +kernel
theorem dX12_watch_16 : decode cX12_watch 16 = .ok (.invokevirtual 346, 3) := by decide +kernel
theorem dX12_watch_19 : decode cX12_watch 19 = .ok (.if_icmp .gt 41, 3) := by decide +kernel
theorem dX12_watch_22 : decode cX12_watch 22 = .ok (.iload_n 3, 1) := by decide +kernel
theorem dX12_watch_23 : decode cX12_watch 23 = .ok (.iload_n 1, 1) := by decide +kernel
theorem dX12_watch_24 : decode cX12_watch 24 = .ok (.iand, 1) := by decide +kernel
theorem dX12_watch_25 : decode cX12_watch 25 = .ok (.ifCond .ne 29, 3) := by decide +kernel
theorem dX12_watch_28 : decode cX12_watch 28 = .ok (.iload_n 2, 1) := by decide +kernel
theorem dX12_watch_29 : decode cX12_watch 29 = .ok (.iconst (-1), 1) := by decide +kernel
theorem dX12_watch_30 : decode cX12_watch 30 = .ok (.if_icmp .eq 14, 3) := by decide +kernel
theorem dX12_watch_33 : decode cX12_watch 33 = .ok (.iload_n 3, 1) := by decide +kernel
theorem dX12_watch_34 : decode cX12_watch 34 = .ok (.invokestatic 352, 3) := by decide +kernel
theorem dX12_watch_37 : decode cX12_watch 37 = .ok (.iload_n 2, 1) := by decide +kernel
theorem dX12_watch_38 : decode cX12_watch 38 = .ok (.invokestatic 352, 3) := by decide +kernel
theorem dX12_watch_41 : decode cX12_watch 41 = .ok (.if_icmp .ge 13, 3) := by decide +kernel
theorem dX12_watch_44 : decode cX12_watch 44 = .ok (.aload_n 0, 1) := by decide +kernel
theorem dX12_watch_45 : decode cX12_watch 45 = .ok (.iload_n 3, 1) := by decide +kernel
theorem dX12_watch_46 : decode cX12_watch 46 = .ok (.invokevirtual 397, 3) := by decide +kernel
theorem dX12_watch_49 : decode cX12_watch 49 = .ok (.ifCond .eq 5, 3) := by decide +kernel
theorem dX12_watch_52 : decode cX12_watch 52 = .ok (.iload_n 3, 1) := by decide +kernel
theorem dX12_watch_53 : decode cX12_watch 53 = .ok (.istore_n 2, 1) := by decide +kernel
theorem dX12_watch_54 : decode cX12_watch 54 = .ok (.iinc 3 1, 3) := by decide +kernel
theorem dX12_watch_57 : decode cX12_watch 57 = .ok (.goto (-43), 3) := by decide +kernel
theorem dX12_watch_60 : decode cX12_watch 60 = .ok (.iload_n 2, 1) := by decide +kernel
theorem dX12_watch_61 : decode cX12_watch 61 = .ok (.ireturn, 1) := by decide +kernel
theorem dX12_roundsOf_0 : decode cX12_roundsOf 0 = .ok (.iconst 0, 1) := by decide +kernel
theorem dX12_roundsOf_1 : decode cX12_roundsOf 1 = .ok (.istore_n 2, 1) := by decide +kernel
theorem dX12_roundsOf_2 : decode cX12_roundsOf 2 = .ok (.iconst 0, 1) := by decide +kernel
theorem dX12_roundsOf_3 : decode cX12_roundsOf 3 = .ok (.istore_n 3, 1) := by decide +kernel
theorem dX12_roundsOf_4 : decode cX12_roundsOf 4 = .ok (.iload_n 3, 1) := by decide +kernel
theorem dX12_roundsOf_5 : decode cX12_roundsOf 5 = .ok (.aload_n 0, 1) := by decide +kernel
theorem dX12_roundsOf_6 : decode cX12_roundsOf 6 = .ok (.getfield 7, 3) := by decide +kernel
theorem dX12_roundsOf_9 : decode cX12_roundsOf 9 = .ok (.iconst 3, 1) := by decide +kernel
theorem dX12_roundsOf_10 : decode cX12_roundsOf 10 = .ok (.iaload, 1) := by decide +kernel
theorem dX12_roundsOf_11 : decode cX12_roundsOf 11 = .ok (.if_icmp .ge 31, 3) := by decide +kernel
theorem dX12_roundsOf_14 : decode cX12_roundsOf 14 = .ok (.iload_n 2, 1) := by decide +kernel
theorem dX12_roundsOf_15 : decode cX12_roundsOf 15 = .ok (.iload_n 1, 1) := by decide +kernel
theorem dX12_roundsOf_16 : decode cX12_roundsOf 16 = .ok (.iload_n 3, 1) := by decide +kernel
theorem dX12_roundsOf_17 : decode cX12_roundsOf 17 = .ok (.invokestatic 119, 3) := by decide +kernel
theorem dX12_roundsOf_20 : decode cX12_roundsOf 20 = .ok (.ifCond .eq 13, 3) := by decide +kernel
theorem dX12_roundsOf_23 : decode cX12_roundsOf 23 = .ok (.aload_n 0, 1) := by decide +kernel
theorem dX12_roundsOf_24 : decode cX12_roundsOf 24 = .ok (.iload_n 3, 1) := by decide +kernel
theorem dX12_roundsOf_25 : decode cX12_roundsOf 25 = .ok (.bipush 7, 2) := by decide +kernel
theorem dX12_roundsOf_27 : decode cX12_roundsOf 27 = .ok (.invokevirtual 65, 3) := by decide +kernel
theorem dX12_roundsOf_30 : decode cX12_roundsOf 30 = .ok (.goto 4, 3) := by decide +kernel
theorem dX12_roundsOf_33 : decode cX12_roundsOf 33 = .ok (.iconst 0, 1) := by decide +kernel
theorem dX12_roundsOf_34 : decode cX12_roundsOf 34 = .ok (.iadd, 1) := by decide +kernel
theorem dX12_roundsOf_35 : decode cX12_roundsOf 35 = .ok (.istore_n 2, 1) := by decide +kernel
theorem dX12_roundsOf_36 : decode cX12_roundsOf 36 = .ok (.iinc 3 1, 3) := by decide +kernel
theorem dX12_roundsOf_39 : decode cX12_roundsOf 39 = .ok (.goto (-35), 3) := by decide +kernel
theorem dX12_roundsOf_42 : decode cX12_roundsOf 42 = .ok (.iload_n 2, 1) := by decide +kernel
theorem dX12_roundsOf_43 : decode cX12_roundsOf 43 = .ok (.ireturn, 1) := by decide +kernel
theorem dX12_carries_0 : decode cX12_carries 0 = .ok (.iconst 2, 1) := by decide +kernel
theorem dX12_carries_1 : decode cX12_carries 1 = .ok (.aload_n 0, 1) := by decide +kernel
theorem dX12_carries_2 : decode cX12_carries 2 = .ok (.iload_n 1, 1) := by decide +kernel
theorem dX12_carries_3 : decode cX12_carries 3 = .ok (.invokevirtual 400, 3) := by decide +kernel
theorem dX12_carries_6 : decode cX12_carries 6 = .ok (.imul, 1) := by decide +kernel
theorem dX12_carries_7 : decode cX12_carries 7 = .ok (.aload_n 0, 1) := by decide +kernel
theorem dX12_carries_8 : decode cX12_carries 8 = .ok (.aload_n 0, 1) := by decide +kernel
theorem dX12_carries_9 : decode cX12_carries 9 = .ok (.invokevirtual 346, 3) := by decide +kernel
theorem dX12_carries_12 : decode cX12_carries 12 = .ok (.invokevirtual 400, 3) := by decide +kernel
theorem dX12_carries_15 : decode cX12_carries 15 = .ok (.if_icmp .le 7, 3) := by decide +kernel
theorem dX12_carries_18 : decode cX12_carries 18 = .ok (.iconst 1, 1) := by decide +kernel
theorem dX12_carries_19 : decode cX12_carries 19 = .ok (.goto 4, 3) := by decide +kernel
theorem dX12_carries_22 : decode cX12_carries 22 = .ok (.iconst 0, 1) := by decide +kernel
theorem dX12_carries_23 : decode cX12_carries 23 = .ok (.ireturn, 1) := by decide +kernel
theorem dX12_chapter_0 : decode cX12_chapter 0 = .ok (.aload_n 0, 1) := by decide +kernel
theorem dX12_chapter_1 : decode cX12_chapter 1 = .ok (.iconst 0, 1) := by decide +kernel
theorem dX12_chapter_2 : decode cX12_chapter 2 = .ok (.putfield 58, 3) := by decide +kernel
theorem dX12_chapter_5 : decode cX12_chapter 5 = .ok (.aload_n 0, 1) := by decide +kernel
theorem dX12_chapter_6 : decode cX12_chapter 6 = .ok (.iload_n 1, 1) := by decide +kernel
theorem dX12_chapter_7 : decode cX12_chapter 7 = .ok (.invokevirtual 403, 3) := by decide +kernel
theorem dX12_chapter_10 : decode cX12_chapter 10 = .ok (.ireturn, 1) := by decide +kernel
theorem dX12_swingsOf_0 : decode cX12_swingsOf 0 = .ok (.iconst 0, 1) := by decide +kernel
theorem dX12_swingsOf_1 : decode cX12_swingsOf 1 = .ok (.istore_n 2, 1) := by decide +kernel
theorem dX12_swingsOf_2 : decode cX12_swingsOf 2 = .ok (.iconst 0, 1) := by decide +kernel
theorem dX12_swingsOf_3 : decode cX12_swingsOf 3 = .ok (.istore_n 3, 1) := by decide +kernel
theorem dX12_swingsOf_4 : decode cX12_swingsOf 4 = .ok (.iload_n 3, 1) := by decide +kernel
theorem dX12_swingsOf_5 : decode cX12_swingsOf 5 = .ok (.aload_n 0, 1) := by decide +kernel
theorem dX12_swingsOf_6 : decode cX12_swingsOf 6 = .ok (.invokevirtual 346, 3) := by decide +kernel
theorem dX12_swingsOf_9 : decode cX12_swingsOf 9 = .ok (.if_icmp .gt 47, 3) := by decide +kernel
theorem dX12_swingsOf_12 : decode cX12_swingsOf 12 = .ok (.iload_n 2, 1) := by decide +kernel
theorem dX12_swingsOf_13 : decode cX12_swingsOf 13 = .ok (.iload_n 3, 1) := by decide +kernel
theorem dX12_swingsOf_14 : decode cX12_swingsOf 14 = .ok (.iload_n 1, 1) := by decide +kernel
theorem dX12_swingsOf_15 : decode cX12_swingsOf 15 = .ok (.invokestatic 119, 3) := by decide +kernel
theorem dX12_swingsOf_18 : decode cX12_swingsOf 18 = .ok (.ifCond .eq 29, 3) := by decide +kernel
theorem dX12_swingsOf_21 : decode cX12_swingsOf 21 = .ok (.aload_n 0, 1) := by decide +kernel
theorem dX12_swingsOf_22 : decode cX12_swingsOf 22 = .ok (.iload_n 3, 1) := by decide +kernel
theorem dX12_swingsOf_23 : decode cX12_swingsOf 23 = .ok (.invokevirtual 403, 3) := by decide +kernel
theorem dX12_swingsOf_26 : decode cX12_swingsOf 26 = .ok (.ifCond .eq 21, 3) := by decide +kernel
theorem dX12_swingsOf_29 : decode cX12_swingsOf 29 = .ok (.aload_n 0, 1) := by decide +kernel
theorem dX12_swingsOf_30 : decode cX12_swingsOf 30 = .ok (.iload_n 3, 1) := by decide +kernel
theorem dX12_swingsOf_31 : decode cX12_swingsOf 31 = .ok (.iconst 1, 1) := by decide +kernel
theorem dX12_swingsOf_32 : decode cX12_swingsOf 32 = .ok (.iload_n 1, 1) := by decide +kernel
theorem dX12_swingsOf_33 : decode cX12_swingsOf 33 = .ok (.ishl, 1) := by decide +kernel
theorem dX12_swingsOf_34 : decode cX12_swingsOf 34 = .ok (.iconst (-1), 1) := by decide +kernel
theorem dX12_swingsOf_35 : decode cX12_swingsOf 35 = .ok (.ixor, 1) := by decide +kernel
theorem dX12_swingsOf_36 : decode cX12_swingsOf 36 = .ok (.iand, 1) := by decide +kernel
theorem dX12_swingsOf_37 : decode cX12_swingsOf 37 = .ok (.invokevirtual 403, 3) := by decide +kernel
theorem dX12_swingsOf_40 : decode cX12_swingsOf 40 = .ok (.ifCond .ne 7, 3) := by decide +kernel
theorem dX12_swingsOf_43 : decode cX12_swingsOf 43 = .ok (.iconst 1, 1) := by decide +kernel
theorem dX12_swingsOf_44 : decode cX12_swingsOf 44 = .ok (.goto 4, 3) := by decide +kernel
theorem dX12_swingsOf_47 : decode cX12_swingsOf 47 = .ok (.iconst 0, 1) := by decide +kernel
theorem dX12_swingsOf_48 : decode cX12_swingsOf 48 = .ok (.iadd, 1) := by decide +kernel
theorem dX12_swingsOf_49 : decode cX12_swingsOf 49 = .ok (.istore_n 2, 1) := by decide +kernel
theorem dX12_swingsOf_50 : decode cX12_swingsOf 50 = .ok (.iinc 3 1, 3) := by decide +kernel
theorem dX12_swingsOf_53 : decode cX12_swingsOf 53 = .ok (.goto (-49), 3) := by decide +kernel
theorem dX12_swingsOf_56 : decode cX12_swingsOf 56 = .ok (.iload_n 2, 1) := by decide +kernel
theorem dX12_swingsOf_57 : decode cX12_swingsOf 57 = .ok (.ireturn, 1) := by decide +kernel
theorem dX12_swings_0 : decode cX12_swings 0 = .ok (.aload_n 0, 1) := by decide +kernel
theorem dX12_swings_1 : decode cX12_swings 1 = .ok (.aload_n 0, 1) := by decide +kernel
theorem dX12_swings_2 : decode cX12_swings 2 = .ok (.iload_n 1, 1) := by decide +kernel
theorem dX12_swings_3 : decode cX12_swings 3 = .ok (.invokevirtual 295, 3) := by decide +kernel
theorem dX12_swings_6 : decode cX12_swings 6 = .ok (.ifCond .ne 7, 3) := by decide +kernel
theorem dX12_swings_9 : decode cX12_swings 9 = .ok (.iconst 1, 1) := by decide +kernel
theorem dX12_swings_10 : decode cX12_swings 10 = .ok (.goto 4, 3) := by decide +kernel
theorem dX12_swings_13 : decode cX12_swings 13 = .ok (.iconst 0, 1) := by decide +kernel
theorem dX12_swings_14 : decode cX12_swings 14 = .ok (.putfield 58, 3) := by decide +kernel
theorem dX12_swings_17 : decode cX12_swings 17 = .ok (.aload_n 0, 1) := by decide +kernel
theorem dX12_swings_18 : decode cX12_swings 18 = .ok (.getfield 58, 3) := by decide +kernel
theorem dX12_swings_21 : decode cX12_swings 21 = .ok (.ifCond .le 7, 3) := by decide +kernel
theorem dX12_swings_24 : decode cX12_swings 24 = .ok (.iconst 0, 1) := by decide +kernel
theorem dX12_swings_25 : decode cX12_swings 25 = .ok (.goto 8, 3) := by decide +kernel
theorem dX12_swings_28 : decode cX12_swings 28 = .ok (.aload_n 0, 1) := by decide +kernel
theorem dX12_swings_29 : decode cX12_swings 29 = .ok (.iload_n 1, 1) := by decide +kernel
theorem dX12_swings_30 : decode cX12_swings 30 = .ok (.invokevirtual 406, 3) := by decide +kernel
theorem dX12_swings_33 : decode cX12_swings 33 = .ok (.ireturn, 1) := by decide +kernel
theorem dX12_elder_0 : decode cX12_elder 0 = .ok (.aload_n 0, 1) := by decide +kernel
theorem dX12_elder_1 : decode cX12_elder 1 = .ok (.iconst 0, 1) := by decide +kernel
theorem dX12_elder_2 : decode cX12_elder 2 = .ok (.putfield 58, 3) := by decide +kernel
theorem dX12_elder_5 : decode cX12_elder 5 = .ok (.iconst (-1), 1) := by decide +kernel
theorem dX12_elder_6 : decode cX12_elder 6 = .ok (.istore_n 1, 1) := by decide +kernel
theorem dX12_elder_7 : decode cX12_elder 7 = .ok (.iconst 0, 1) := by decide +kernel
theorem dX12_elder_8 : decode cX12_elder 8 = .ok (.istore_n 2, 1) := by decide +kernel
theorem dX12_elder_9 : decode cX12_elder 9 = .ok (.iconst 0, 1) := by decide +kernel
theorem dX12_elder_10 : decode cX12_elder 10 = .ok (.istore_n 3, 1) := by decide +kernel
theorem dX12_elder_11 : decode cX12_elder 11 = .ok (.iload_n 3, 1) := by decide +kernel
theorem dX12_elder_12 : decode cX12_elder 12 = .ok (.aload_n 0, 1) := by decide +kernel
theorem dX12_elder_13 : decode cX12_elder 13 = .ok (.getfield 7, 3) := by decide +kernel
theorem dX12_elder_16 : decode cX12_elder 16 = .ok (.iconst 3, 1) := by decide +kernel
theorem dX12_elder_17 : decode cX12_elder 17 = .ok (.iaload, 1) := by decide +kernel
theorem dX12_elder_18 : decode cX12_elder 18 = .ok (.if_icmp .ge 30, 3) := by decide +kernel
theorem dX12_elder_21 : decode cX12_elder 21 = .ok (.aload_n 0, 1) := by decide +kernel
theorem dX12_elder_22 : decode cX12_elder 22 = .ok (.iload_n 3, 1) := by decide +kernel
theorem dX12_elder_23 : decode cX12_elder 23 = .ok (.invokevirtual 406, 3) := by decide +kernel
theorem dX12_elder_26 : decode cX12_elder 26 = .ok (.istore 4, 2) := by decide +kernel
theorem dX12_elder_28 : decode cX12_elder 28 = .ok (.iload 4, 2) := by decide +kernel
theorem dX12_elder_30 : decode cX12_elder 30 = .ok (.iload_n 2, 1) := by decide +kernel
theorem dX12_elder_31 : decode cX12_elder 31 = .ok (.if_icmp .gt 6, 3) := by decide +kernel
theorem dX12_elder_34 : decode cX12_elder 34 = .ok (.goto 8, 3) := by decide +kernel
theorem dX12_elder_37 : decode cX12_elder 37 = .ok (.iload 4, 2) := by decide +kernel
theorem dX12_elder_39 : decode cX12_elder 39 = .ok (.istore_n 2, 1) := by decide +kernel
theorem dX12_elder_40 : decode cX12_elder 40 = .ok (.iload_n 3, 1) := by decide +kernel
theorem dX12_elder_41 : decode cX12_elder 41 = .ok (.istore_n 1, 1) := by decide +kernel
theorem dX12_elder_42 : decode cX12_elder 42 = .ok (.iinc 3 1, 3) := by decide +kernel
theorem dX12_elder_45 : decode cX12_elder 45 = .ok (.goto (-34), 3) := by decide +kernel
theorem dX12_elder_48 : decode cX12_elder 48 = .ok (.iload_n 1, 1) := by decide +kernel
theorem dX12_elder_49 : decode cX12_elder 49 = .ok (.ireturn, 1) := by decide +kernel
theorem dX12_heHas_0 : decode cX12_heHas 0 = .ok (.iload_n 2, 1) := by decide +kernel
theorem dX12_heHas_1 : decode cX12_heHas 1 = .ok (.iconst 1, 1) := by decide +kernel
theorem dX12_heHas_2 : decode cX12_heHas 2 = .ok (.if_icmp .ne 5, 3) := by decide +kernel
theorem dX12_heHas_5 : decode cX12_heHas 5 = .ok (.iconst 0, 1) := by decide +kernel
theorem dX12_heHas_6 : decode cX12_heHas 6 = .ok (.ireturn, 1) := by decide +kernel
theorem dX12_heHas_7 : decode cX12_heHas 7 = .ok (.iload_n 3, 1) := by decide +kernel
theorem dX12_heHas_8 : decode cX12_heHas 8 = .ok (.ifCond .ne 14, 3) := by decide +kernel
theorem dX12_heHas_11 : decode cX12_heHas 11 = .ok (.aload_n 0, 1) := by decide +kernel
theorem dX12_heHas_12 : decode cX12_heHas 12 = .ok (.getfield 7, 3) := by decide +kernel
theorem dX12_heHas_15 : decode cX12_heHas 15 = .ok (.bipush 9, 2) := by decide +kernel
theorem dX12_heHas_17 : decode cX12_heHas 17 = .ok (.iaload, 1) := by decide +kernel
theorem dX12_heHas_18 : decode cX12_heHas 18 = .ok (.ineg, 1) := by decide +kernel
theorem dX12_heHas_19 : decode cX12_heHas 19 = .ok (.goto 19, 3) := by decide +kernel
theorem dX12_heHas_22 : decode cX12_heHas 22 = .ok (.aload_n 0, 1) := by decide +kernel
theorem dX12_heHas_23 : decode cX12_heHas 23 = .ok (.iload_n 1, 1) := by decide +kernel
theorem dX12_heHas_24 : decode cX12_heHas 24 = .ok (.iconst 0, 1) := by decide +kernel
theorem dX12_heHas_25 : decode cX12_heHas 25 = .ok (.invokevirtual 65, 3) := by decide +kernel
theorem dX12_heHas_28 : decode cX12_heHas 28 = .ok (.aload_n 0, 1) := by decide +kernel
theorem dX12_heHas_29 : decode cX12_heHas 29 = .ok (.getfield 7, 3) := by decide +kernel
theorem dX12_heHas_32 : decode cX12_heHas 32 = .ok (.bipush 6, 2) := by decide +kernel
theorem dX12_heHas_34 : decode cX12_heHas 34 = .ok (.iaload, 1) := by decide +kernel
theorem dX12_heHas_35 : decode cX12_heHas 35 = .ok (.invokestatic 331, 3) := by decide +kernel
theorem dX12_heHas_38 : decode cX12_heHas 38 = .ok (.ireturn, 1) := by decide +kernel
theorem dX12_gardenerHas_0 : decode cX12_gardenerHas 0 = .ok (.iload_n 1, 1) := by decide +kernel
theorem dX12_gardenerHas_1 : decode cX12_gardenerHas 1 = .ok (.iconst 1, 1) := by decide +kernel
theorem dX12_gardenerHas_2 : decode cX12_gardenerHas 2 = .ok (.if_icmp .ne 14, 3) := by decide +kernel
theorem dX12_gardenerHas_5 : decode cX12_gardenerHas 5 = .ok (.iload_n 0, 1) := by decide +kernel
theorem dX12_gardenerHas_6 : decode cX12_gardenerHas 6 = .ok (.ifCond .ne 8, 3) := by decide +kernel
theorem dX12_gardenerHas_9 : decode cX12_gardenerHas 9 = .ok (.bipush (-2), 2) := by decide +kernel
theorem dX12_gardenerHas_11 : decode cX12_gardenerHas 11 = .ok (.goto 4, 3) := by decide +kernel
theorem dX12_gardenerHas_14 : decode cX12_gardenerHas 14 = .ok (.iconst 0, 1) := by decide +kernel
theorem dX12_gardenerHas_15 : decode cX12_gardenerHas 15 = .ok (.ireturn, 1) := by decide +kernel
theorem dX12_gardenerHas_16 : decode cX12_gardenerHas 16 = .ok (.iload_n 0, 1) := by decide +kernel
theorem dX12_gardenerHas_17 : decode cX12_gardenerHas 17 = .ok (.ifCond .ne 7, 3) := by decide +kernel
theorem dX12_gardenerHas_20 : decode cX12_gardenerHas 20 = .ok (.iconst 3, 1) := by decide +kernel
theorem dX12_gardenerHas_21 : decode cX12_gardenerHas 21 = .ok (.goto 4, 3) := by decide +kernel
theorem dX12_gardenerHas_24 : decode cX12_gardenerHas 24 = .ok (.iconst (-1), 1) := by decide +kernel
theorem dX12_gardenerHas_25 : decode cX12_gardenerHas 25 = .ok (.ireturn, 1) := by decide +kernel
theorem dX12_rests_0 : decode cX12_rests 0 = .ok (.aload_n 0, 1) := by decide +kernel
theorem dX12_rests_1 : decode cX12_rests 1 = .ok (.aload_n 0, 1) := by decide +kernel
theorem dX12_rests_2 : decode cX12_rests 2 = .ok (.iload_n 1, 1) := by decide +kernel
theorem dX12_rests_3 : decode cX12_rests 3 = .ok (.invokevirtual 295, 3) := by decide +kernel
theorem dX12_rests_6 : decode cX12_rests 6 = .ok (.ifCond .ne 7, 3) := by decide +kernel
theorem dX12_rests_9 : decode cX12_rests 9 = .ok (.iconst 1, 1) := by decide +kernel
theorem dX12_rests_10 : decode cX12_rests 10 = .ok (.goto 4, 3) := by decide +kernel
theorem dX12_rests_13 : decode cX12_rests 13 = .ok (.iconst 0, 1) := by decide +kernel
theorem dX12_rests_14 : decode cX12_rests 14 = .ok (.putfield 58, 3) := by decide +kernel
theorem dX12_rests_17 : decode cX12_rests 17 = .ok (.aload_n 0, 1) := by decide +kernel
theorem dX12_rests_18 : decode cX12_rests 18 = .ok (.getfield 58, 3) := by decide +kernel
theorem dX12_rests_21 : decode cX12_rests 21 = .ok (.ifCond .le 5, 3) := by decide +kernel
theorem dX12_rests_24 : decode cX12_rests 24 = .ok (.iconst 0, 1) := by decide +kernel
theorem dX12_rests_25 : decode cX12_rests 25 = .ok (.ireturn, 1) := by decide +kernel
theorem dX12_rests_26 : decode cX12_rests 26 = .ok (.aload_n 0, 1) := by decide +kernel
theorem dX12_rests_27 : decode cX12_rests 27 = .ok (.iload_n 1, 1) := by decide +kernel
theorem dX12_rests_28 : decode cX12_rests 28 = .ok (.invokevirtual 69, 3) := by decide +kernel
theorem dX12_rests_31 : decode cX12_rests 31 = .ok (.ifCond .eq 5, 3) := by decide +kernel
theorem dX12_rests_34 : decode cX12_rests 34 = .ok (.iconst (-1), 1) := by decide +kernel
theorem dX12_rests_35 : decode cX12_rests 35 = .ok (.ireturn, 1) := by decide +kernel
theorem dX12_rests_36 : decode cX12_rests 36 = .ok (.iconst 0, 1) := by decide +kernel
theorem dX12_rests_37 : decode cX12_rests 37 = .ok (.istore_n 2, 1) := by decide +kernel
theorem dX12_rests_38 : decode cX12_rests 38 = .ok (.iconst 0, 1) := by decide +kernel
theorem dX12_rests_39 : decode cX12_rests 39 = .ok (.istore_n 3, 1) := by decide +kernel
theorem dX12_rests_40 : decode cX12_rests 40 = .ok (.iload_n 3, 1) := by decide +kernel
theorem dX12_rests_41 : decode cX12_rests 41 = .ok (.iconst 4, 1) := by decide +kernel
theorem dX12_rests_42 : decode cX12_rests 42 = .ok (.if_icmp .ge 67, 3) := by decide +kernel
theorem dX12_rests_45 : decode cX12_rests 45 = .ok (.iload_n 3, 1) := by decide +kernel
theorem dX12_rests_46 : decode cX12_rests 46 = .ok (.iconst 2, 1) := by decide +kernel
theorem dX12_rests_47 : decode cX12_rests 47 = .ok (.idiv, 1) := by decide +kernel
theorem dX12_rests_48 : decode cX12_rests 48 = .ok (.istore 4, 2) := by decide +kernel
theorem dX12_rests_50 : decode cX12_rests 50 = .ok (.iload_n 3, 1) := by decide +kernel
theorem dX12_rests_51 : decode cX12_rests 51 = .ok (.iconst 2, 1) := by decide +kernel
theorem dX12_rests_52 : decode cX12_rests 52 = .ok (.irem, 1) := by decide +kernel
theorem dX12_rests_53 : decode cX12_rests 53 = .ok (.istore 5, 2) := by decide +kernel
theorem dX12_rests_55 : decode cX12_rests 55 = .ok (.aload_n 0, 1) := by decide +kernel
theorem dX12_rests_56 : decode cX12_rests 56 = .ok (.iload_n 1, 1) := by decide +kernel
theorem dX12_rests_57 : decode cX12_rests 57 = .ok (.iconst 1, 1) := by decide +kernel
theorem dX12_rests_58 : decode cX12_rests 58 = .ok (.iload 4, 2) := by decide +kernel
theorem dX12_rests_60 : decode cX12_rests 60 = .ok (.isub, 1) := by decide +kernel
theorem dX12_rests_61 : decode cX12_rests 61 = .ok (.iload 5, 2) := by decide +kernel
theorem dX12_rests_63 : decode cX12_rests 63 = .ok (.invokevirtual 409, 3) := by decide +kernel
theorem dX12_rests_66 : decode cX12_rests 66 = .ok (.aload_n 0, 1) := by decide +kernel
theorem dX12_rests_67 : decode cX12_rests 67 = .ok (.iload_n 1, 1) := by decide +kernel
theorem dX12_rests_68 : decode cX12_rests 68 = .ok (.iload 4, 2) := by decide +kernel
theorem dX12_rests_70 : decode cX12_rests 70 = .ok (.iload 5, 2) := by decide +kernel
theorem dX12_rests_72 : decode cX12_rests 72 = .ok (.invokevirtual 409, 3) := by decide +kernel
theorem dX12_rests_75 : decode cX12_rests 75 = .ok (.if_icmp .gt 28, 3) := by decide +kernel
theorem dX12_rests_78 : decode cX12_rests 78 = .ok (.iload 4, 2) := by decide +kernel
theorem dX12_rests_80 : decode cX12_rests 80 = .ok (.iconst 1, 1) := by decide +kernel
theorem dX12_rests_81 : decode cX12_rests 81 = .ok (.iload 5, 2) := by decide +kernel
theorem dX12_rests_83 : decode cX12_rests 83 = .ok (.isub, 1) := by decide +kernel
theorem dX12_rests_84 : decode cX12_rests 84 = .ok (.invokestatic 412, 3) := by decide +kernel
theorem dX12_rests_87 : decode cX12_rests 87 = .ok (.iload 4, 2) := by decide +kernel
theorem dX12_rests_89 : decode cX12_rests 89 = .ok (.iload 5, 2) := by decide +kernel
theorem dX12_rests_91 : decode cX12_rests 91 = .ok (.invokestatic 412, 3) := by decide +kernel
theorem dX12_rests_94 : decode cX12_rests 94 = .ok (.if_icmp .gt 9, 3) := by decide +kernel
theorem dX12_rests_97 : decode cX12_rests 97 = .ok (.iload_n 2, 1) := by decide +kernel
theorem dX12_rests_98 : decode cX12_rests 98 = .ok (.iconst 1, 1) := by decide +kernel
theorem dX12_rests_99 : decode cX12_rests 99 = .ok (.iload_n 3, 1) := by decide +kernel
theorem dX12_rests_100 : decode cX12_rests 100 = .ok (.ishl, 1) := by decide +kernel
theorem dX12_rests_101 : decode cX12_rests 101 = .ok (.ior, 1) := by decide +kernel
theorem dX12_rests_102 : decode cX12_rests 102 = .ok (.istore_n 2, 1) := by decide +kernel
theorem dX12_rests_103 : decode cX12_rests 103 = .ok (.iinc 3 1, 3) := by decide +kernel
theorem dX12_rests_106 : decode cX12_rests 106 = .ok (.goto (-66), 3) := by decide +kernel
theorem dX12_rests_109 : decode cX12_rests 109 = .ok (.iload_n 2, 1) := by decide +kernel
theorem dX12_rests_110 : decode cX12_rests 110 = .ok (.ireturn, 1) := by decide +kernel
theorem dX12_odds_0 : decode cX12_odds 0 = .ok (.aload_n 0, 1) := by decide +kernel
theorem dX12_odds_1 : decode cX12_odds 1 = .ok (.iload_n 1, 1) := by decide +kernel
theorem dX12_odds_2 : decode cX12_odds 2 = .ok (.iconst 0, 1) := by decide +kernel
theorem dX12_odds_3 : decode cX12_odds 3 = .ok (.bipush 6, 2) := by decide +kernel
theorem dX12_odds_5 : decode cX12_odds 5 = .ok (.invokestatic 61, 3) := by decide +kernel
theorem dX12_odds_8 : decode cX12_odds 8 = .ok (.ifCond .eq 13, 3) := by decide +kernel
theorem dX12_odds_11 : decode cX12_odds 11 = .ok (.iload_n 2, 1) := by decide +kernel
theorem dX12_odds_12 : decode cX12_odds 12 = .ok (.iconst 0, 1) := by decide +kernel
theorem dX12_odds_13 : decode cX12_odds 13 = .ok (.bipush 6, 2) := by decide +kernel
theorem dX12_odds_15 : decode cX12_odds 15 = .ok (.invokestatic 61, 3) := by decide +kernel
theorem dX12_odds_18 : decode cX12_odds 18 = .ok (.ifCond .ne 7, 3) := by decide +kernel
theorem dX12_odds_21 : decode cX12_odds 21 = .ok (.iconst 1, 1) := by decide +kernel
theorem dX12_odds_22 : decode cX12_odds 22 = .ok (.goto 4, 3) := by decide +kernel
theorem dX12_odds_25 : decode cX12_odds 25 = .ok (.iconst 0, 1) := by decide +kernel
theorem dX12_odds_26 : decode cX12_odds 26 = .ok (.putfield 58, 3) := by decide +kernel
theorem dX12_odds_29 : decode cX12_odds 29 = .ok (.aload_n 0, 1) := by decide +kernel
theorem dX12_odds_30 : decode cX12_odds 30 = .ok (.getfield 58, 3) := by decide +kernel
theorem dX12_odds_33 : decode cX12_odds 33 = .ok (.ifCond .le 5, 3) := by decide +kernel
theorem dX12_odds_36 : decode cX12_odds 36 = .ok (.iconst 0, 1) := by decide +kernel
theorem dX12_odds_37 : decode cX12_odds 37 = .ok (.ireturn, 1) := by decide +kernel
theorem dX12_odds_38 : decode cX12_odds 38 = .ok (.lconst 0, 1) := by decide +kernel
theorem dX12_odds_39 : decode cX12_odds 39 = .ok (.lstore_n 3, 1) := by decide +kernel
theorem dX12_odds_40 : decode cX12_odds 40 = .ok (.lconst 1, 1) := by decide +kernel
theorem dX12_odds_41 : decode cX12_odds 41 = .ok (.lstore 5, 2) := by decide +kernel
theorem dX12_odds_43 : decode cX12_odds 43 = .ok (.iconst 0, 1) := by decide +kernel
theorem dX12_odds_44 : decode cX12_odds 44 = .ok (.istore 7, 2) := by decide +kernel
theorem dX12_odds_46 : decode cX12_odds 46 = .ok (.iload 7, 2) := by decide +kernel
theorem dX12_odds_48 : decode cX12_odds 48 = .ok (.iload_n 1, 1) := by decide +kernel
theorem dX12_odds_49 : decode cX12_odds 49 = .ok (.if_icmp .ge 17, 3) := by decide +kernel
theorem dX12_odds_52 : decode cX12_odds 52 = .ok (.lload 5, 2) := by decide +kernel
theorem dX12_odds_54 : decode cX12_odds 54 = .ok (.ldc2_w 415, 3) := by decide +kernel
theorem dX12_odds_57 : decode cX12_odds 57 = .ok (.lmul, 1) := by decide +kernel
theorem dX12_odds_58 : decode cX12_odds 58 = .ok (.lstore 5, 2) := by decide +kernel
theorem dX12_odds_60 : decode cX12_odds 60 = .ok (.iinc 7 1, 3) := by decide +kernel
theorem dX12_odds_63 : decode cX12_odds 63 = .ok (.goto (-17), 3) := by decide +kernel
theorem dX12_odds_66 : decode cX12_odds 66 = .ok (.iconst 0, 1) := by decide +kernel
theorem dX12_odds_67 : decode cX12_odds 67 = .ok (.istore 7, 2) := by decide +kernel
theorem dX12_odds_69 : decode cX12_odds 69 = .ok (.iload 7, 2) := by decide +kernel
theorem dX12_odds_71 : decode cX12_odds 71 = .ok (.iconst 1, 1) := by decide +kernel
theorem dX12_odds_72 : decode cX12_odds 72 = .ok (.iload_n 1, 1) := by decide +kernel
theorem dX12_odds_73 : decode cX12_odds 73 = .ok (.ishl, 1) := by decide +kernel
theorem dX12_odds_74 : decode cX12_odds 74 = .ok (.if_icmp .ge 82, 3) := by decide +kernel
theorem dX12_odds_77 : decode cX12_odds 77 = .ok (.iload 7, 2) := by decide +kernel
theorem dX12_odds_79 : decode cX12_odds 79 = .ok (.invokestatic 352, 3) := by decide +kernel
theorem dX12_odds_82 : decode cX12_odds 82 = .ok (.iload_n 2, 1) := by decide +kernel
theorem dX12_odds_83 : decode cX12_odds 83 = .ok (.if_icmp .ge 7, 3) := by decide +kernel
theorem dX12_odds_86 : decode cX12_odds 86 = .ok (.lconst 0, 1) := by decide +kernel
theorem dX12_odds_87 : decode cX12_odds 87 = .ok (.goto 4, 3) := by decide +kernel
theorem dX12_odds_90 : decode cX12_odds 90 = .ok (.lconst 1, 1) := by decide +kernel
theorem dX12_odds_91 : decode cX12_odds 91 = .ok (.lstore 8, 2) := by decide +kernel
theorem dX12_odds_93 : decode cX12_odds 93 = .ok (.iconst 0, 1) := by decide +kernel
theorem dX12_odds_94 : decode cX12_odds 94 = .ok (.istore 10, 2) := by decide +kernel
theorem dX12_odds_96 : decode cX12_odds 96 = .ok (.iload 10, 2) := by decide +kernel
theorem dX12_odds_98 : decode cX12_odds 98 = .ok (.iload_n 1, 1) := by decide +kernel
theorem dX12_odds_99 : decode cX12_odds 99 = .ok (.if_icmp .ge 46, 3) := by decide +kernel
theorem dX12_odds_102 : decode cX12_odds 102 = .ok (.lload 8, 2) := by decide +kernel
theorem dX12_odds_104 : decode cX12_odds 104 = .ok (.iload 7, 2) := by decide +kernel
theorem dX12_odds_106 : decode cX12_odds 106 = .ok (.iload 10, 2) := by decide +kernel
theorem dX12_odds_108 : decode cX12_odds 108 = .ok (.invokestatic 119, 3) := by decide +kernel
theorem dX12_odds_111 : decode cX12_odds 111 = .ok (.ifCond .eq 14, 3) := by decide +kernel
theorem dX12_odds_114 : decode cX12_odds 114 = .ok (.aload_n 0, 1) := by decide +kernel
theorem dX12_odds_115 : decode cX12_odds 115 = .ok (.getfield 7, 3) := by decide +kernel
theorem dX12_odds_118 : decode cX12_odds 118 = .ok (.bipush 8, 2) := by decide +kernel
theorem dX12_odds_120 : decode cX12_odds 120 = .ok (.iaload, 1) := by decide +kernel
theorem dX12_odds_121 : decode cX12_odds 121 = .ok (.i2l, 1) := by decide +kernel
theorem dX12_odds_122 : decode cX12_odds 122 = .ok (.goto 14, 3) := by decide +kernel
theorem dX12_odds_125 : decode cX12_odds 125 = .ok (.bipush 100, 2) := by decide +kernel
theorem dX12_odds_127 : decode cX12_odds 127 = .ok (.aload_n 0, 1) := by decide +kernel
theorem dX12_odds_128 : decode cX12_odds 128 = .ok (.getfield 7, 3) := by decide +kernel
theorem dX12_odds_131 : decode cX12_odds 131 = .ok (.bipush 8, 2) := by decide +kernel
theorem dX12_odds_133 : decode cX12_odds 133 = .ok (.iaload, 1) := by decide +kernel
theorem dX12_odds_134 : decode cX12_odds 134 = .ok (.isub, 1) := by decide +kernel
theorem dX12_odds_135 : decode cX12_odds 135 = .ok (.i2l, 1) := by decide +kernel
theorem dX12_odds_136 : decode cX12_odds 136 = .ok (.lmul, 1) := by decide +kernel
theorem dX12_odds_137 : decode cX12_odds 137 = .ok (.lstore 8, 2) := by decide +kernel
theorem dX12_odds_139 : decode cX12_odds 139 = .ok (.iinc 10 1, 3) := by decide +kernel
theorem dX12_odds_142 : decode cX12_odds 142 = .ok (.goto (-46), 3) := by decide +kernel
theorem dX12_odds_145 : decode cX12_odds 145 = .ok (.lload_n 3, 1) := by decide +kernel
theorem dX12_odds_146 : decode cX12_odds 146 = .ok (.lload 8, 2) := by decide +kernel
theorem dX12_odds_148 : decode cX12_odds 148 = .ok (.ladd, 1) := by decide +kernel
theorem dX12_odds_149 : decode cX12_odds 149 = .ok (.lstore_n 3, 1) := by decide +kernel
theorem dX12_odds_150 : decode cX12_odds 150 = .ok (.iinc 7 1, 3) := by decide +kernel
theorem dX12_odds_153 : decode cX12_odds 153 = .ok (.goto (-84), 3) := by decide +kernel
theorem dX12_odds_156 : decode cX12_odds 156 = .ok (.ldc2_w 417, 3) := by decide +kernel
theorem dX12_odds_159 : decode cX12_odds 159 = .ok (.lload_n 3, 1) := by decide +kernel
theorem dX12_odds_160 : decode cX12_odds 160 = .ok (.lmul, 1) := by decide +kernel
theorem dX12_odds_161 : decode cX12_odds 161 = .ok (.lload 5, 2) := by decide +kernel
theorem dX12_odds_163 : decode cX12_odds 163 = .ok (.ldiv, 1) := by decide +kernel
theorem dX12_odds_164 : decode cX12_odds 164 = .ok (.l2i, 1) := by decide +kernel
theorem dX12_odds_165 : decode cX12_odds 165 = .ok (.ireturn, 1) := by decide +kernel
theorem dX12_empty_0 : decode cX12_empty 0 = .ok (.aload_n 0, 1) := by decide +kernel
theorem dX12_empty_1 : decode cX12_empty 1 = .ok (.iconst 0, 1) := by decide +kernel
theorem dX12_empty_2 : decode cX12_empty 2 = .ok (.putfield 58, 3) := by decide +kernel
theorem dX12_empty_5 : decode cX12_empty 5 = .ok (.iconst 0, 1) := by decide +kernel
theorem dX12_empty_6 : decode cX12_empty 6 = .ok (.istore_n 1, 1) := by decide +kernel
theorem dX12_empty_7 : decode cX12_empty 7 = .ok (.iconst 0, 1) := by decide +kernel
theorem dX12_empty_8 : decode cX12_empty 8 = .ok (.istore_n 2, 1) := by decide +kernel
theorem dX12_empty_9 : decode cX12_empty 9 = .ok (.iload_n 2, 1) := by decide +kernel
theorem dX12_empty_10 : decode cX12_empty 10 = .ok (.iconst 4, 1) := by decide +kernel
theorem dX12_empty_11 : decode cX12_empty 11 = .ok (.if_icmp .ge 28, 3) := by decide +kernel
theorem dX12_empty_14 : decode cX12_empty 14 = .ok (.iload_n 1, 1) := by decide +kernel
theorem dX12_empty_15 : decode cX12_empty 15 = .ok (.aload_n 0, 1) := by decide +kernel
theorem dX12_empty_16 : decode cX12_empty 16 = .ok (.iload_n 2, 1) := by decide +kernel
theorem dX12_empty_17 : decode cX12_empty 17 = .ok (.iconst 1, 1) := by decide +kernel
theorem dX12_empty_18 : decode cX12_empty 18 = .ok (.invokevirtual 382, 3) := by decide +kernel
theorem dX12_empty_21 : decode cX12_empty 21 = .ok (.ifCond .ne 9, 3) := by decide +kernel
theorem dX12_empty_24 : decode cX12_empty 24 = .ok (.iconst 1, 1) := by decide +kernel
theorem dX12_empty_25 : decode cX12_empty 25 = .ok (.iload_n 2, 1) := by decide +kernel
theorem dX12_empty_26 : decode cX12_empty 26 = .ok (.ishl, 1) := by decide +kernel
theorem dX12_empty_27 : decode cX12_empty 27 = .ok (.goto 4, 3) := by decide +kernel
theorem dX12_empty_30 : decode cX12_empty 30 = .ok (.iconst 0, 1) := by decide +kernel
theorem dX12_empty_31 : decode cX12_empty 31 = .ok (.ior, 1) := by decide +kernel
theorem dX12_empty_32 : decode cX12_empty 32 = .ok (.istore_n 1, 1) := by decide +kernel
theorem dX12_empty_33 : decode cX12_empty 33 = .ok (.iinc 2 1, 3) := by decide +kernel
theorem dX12_empty_36 : decode cX12_empty 36 = .ok (.goto (-27), 3) := by decide +kernel
theorem dX12_empty_39 : decode cX12_empty 39 = .ok (.iload_n 1, 1) := by decide +kernel
theorem dX12_empty_40 : decode cX12_empty 40 = .ok (.ireturn, 1) := by decide +kernel
theorem dX12_throng_0 : decode cX12_throng 0 = .ok (.aload_n 0, 1) := by decide +kernel
theorem dX12_throng_1 : decode cX12_throng 1 = .ok (.iconst 0, 1) := by decide +kernel
theorem dX12_throng_2 : decode cX12_throng 2 = .ok (.putfield 58, 3) := by decide +kernel
theorem dX12_throng_5 : decode cX12_throng 5 = .ok (.iconst 0, 1) := by decide +kernel
theorem dX12_throng_6 : decode cX12_throng 6 = .ok (.istore_n 1, 1) := by decide +kernel
theorem dX12_throng_7 : decode cX12_throng 7 = .ok (.iconst 1, 1) := by decide +kernel
theorem dX12_throng_8 : decode cX12_throng 8 = .ok (.istore_n 2, 1) := by decide +kernel
theorem dX12_throng_9 : decode cX12_throng 9 = .ok (.iload_n 2, 1) := by decide +kernel
theorem dX12_throng_10 : decode cX12_throng 10 = .ok (.iconst 4, 1) := by decide +kernel
theorem dX12_throng_11 : decode cX12_throng 11 = .ok (.if_icmp .ge 26, 3) := by decide +kernel
theorem dX12_throng_14 : decode cX12_throng 14 = .ok (.aload_n 0, 1) := by decide +kernel
theorem dX12_throng_15 : decode cX12_throng 15 = .ok (.iload_n 2, 1) := by decide +kernel
theorem dX12_throng_16 : decode cX12_throng 16 = .ok (.iconst 1, 1) := by decide +kernel
theorem dX12_throng_17 : decode cX12_throng 17 = .ok (.invokevirtual 382, 3) := by decide +kernel
theorem dX12_throng_20 : decode cX12_throng 20 = .ok (.aload_n 0, 1) := by decide +kernel
theorem dX12_throng_21 : decode cX12_throng 21 = .ok (.iload_n 1, 1) := by decide +kernel
theorem dX12_throng_22 : decode cX12_throng 22 = .ok (.iconst 1, 1) := by decide +kernel
theorem dX12_throng_23 : decode cX12_throng 23 = .ok (.invokevirtual 382, 3) := by decide +kernel
theorem dX12_throng_26 : decode cX12_throng 26 = .ok (.if_icmp .le 5, 3) := by decide +kernel
theorem dX12_throng_29 : decode cX12_throng 29 = .ok (.iload_n 2, 1) := by decide +kernel
theorem dX12_throng_30 : decode cX12_throng 30 = .ok (.istore_n 1, 1) := by decide +kernel
theorem dX12_throng_31 : decode cX12_throng 31 = .ok (.iinc 2 1, 3) := by decide +kernel
theorem dX12_throng_34 : decode cX12_throng 34 = .ok (.goto (-25), 3) := by decide +kernel
theorem dX12_throng_37 : decode cX12_throng 37 = .ok (.iload_n 1, 1) := by decide +kernel
theorem dX12_throng_38 : decode cX12_throng 38 = .ok (.ireturn, 1) := by decide +kernel
theorem dX12_goneOnes_0 : decode cX12_goneOnes 0 = .ok (.iconst 0, 1) := by decide +kernel
theorem dX12_goneOnes_1 : decode cX12_goneOnes 1 = .ok (.istore_n 1, 1) := by decide +kernel
theorem dX12_goneOnes_2 : decode cX12_goneOnes 2 = .ok (.iconst 0, 1) := by decide +kernel
theorem dX12_goneOnes_3 : decode cX12_goneOnes 3 = .ok (.istore_n 2, 1) := by decide +kernel
theorem dX12_goneOnes_4 : decode cX12_goneOnes 4 = .ok (.iload_n 2, 1) := by decide +kernel
theorem dX12_goneOnes_5 : decode cX12_goneOnes 5 = .ok (.aload_n 0, 1) := by decide +kernel
theorem dX12_goneOnes_6 : decode cX12_goneOnes 6 = .ok (.getfield 7, 3) := by decide +kernel
theorem dX12_goneOnes_9 : decode cX12_goneOnes 9 = .ok (.iconst 3, 1) := by decide +kernel
theorem dX12_goneOnes_10 : decode cX12_goneOnes 10 = .ok (.iaload, 1) := by decide +kernel
theorem dX12_goneOnes_11 : decode cX12_goneOnes 11 = .ok (.if_icmp .ge 27, 3) := by decide +kernel
theorem dX12_goneOnes_14 : decode cX12_goneOnes 14 = .ok (.iload_n 1, 1) := by decide +kernel
theorem dX12_goneOnes_15 : decode cX12_goneOnes 15 = .ok (.aload_n 0, 1) := by decide +kernel
theorem dX12_goneOnes_16 : decode cX12_goneOnes 16 = .ok (.iload_n 2, 1) := by decide +kernel
theorem dX12_goneOnes_17 : decode cX12_goneOnes 17 = .ok (.invokevirtual 69, 3) := by decide +kernel
theorem dX12_goneOnes_20 : decode cX12_goneOnes 20 = .ok (.ifCond .eq 9, 3) := by decide +kernel
theorem dX12_goneOnes_23 : decode cX12_goneOnes 23 = .ok (.iconst 1, 1) := by decide +kernel
theorem dX12_goneOnes_24 : decode cX12_goneOnes 24 = .ok (.iload_n 2, 1) := by decide +kernel
theorem dX12_goneOnes_25 : decode cX12_goneOnes 25 = .ok (.ishl, 1) := by decide +kernel
theorem dX12_goneOnes_26 : decode cX12_goneOnes 26 = .ok (.goto 4, 3) := by decide +kernel
theorem dX12_goneOnes_29 : decode cX12_goneOnes 29 = .ok (.iconst 0, 1) := by decide +kernel
theorem dX12_goneOnes_30 : decode cX12_goneOnes 30 = .ok (.ior, 1) := by decide +kernel
theorem dX12_goneOnes_31 : decode cX12_goneOnes 31 = .ok (.istore_n 1, 1) := by decide +kernel
theorem dX12_goneOnes_32 : decode cX12_goneOnes 32 = .ok (.iinc 2 1, 3) := by decide +kernel
theorem dX12_goneOnes_35 : decode cX12_goneOnes 35 = .ok (.goto (-31), 3) := by decide +kernel
theorem dX12_goneOnes_38 : decode cX12_goneOnes 38 = .ok (.iload_n 1, 1) := by decide +kernel
theorem dX12_goneOnes_39 : decode cX12_goneOnes 39 = .ok (.ireturn, 1) := by decide +kernel
theorem dX12_gone_0 : decode cX12_gone 0 = .ok (.aload_n 0, 1) := by decide +kernel
theorem dX12_gone_1 : decode cX12_gone 1 = .ok (.iconst 0, 1) := by decide +kernel
theorem dX12_gone_2 : decode cX12_gone 2 = .ok (.putfield 58, 3) := by decide +kernel
theorem dX12_gone_5 : decode cX12_gone 5 = .ok (.aload_n 0, 1) := by decide +kernel
theorem dX12_gone_6 : decode cX12_gone 6 = .ok (.invokevirtual 394, 3) := by decide +kernel
theorem dX12_gone_9 : decode cX12_gone 9 = .ok (.ireturn, 1) := by decide +kernel
theorem dX12_round_0 : decode cX12_round 0 = .ok (.aload_n 0, 1) := by decide +kernel
theorem dX12_round_1 : decode cX12_round 1 = .ok (.iload_n 1, 1) := by decide +kernel
theorem dX12_round_2 : decode cX12_round 2 = .ok (.iconst 0, 1) := by decide +kernel
theorem dX12_round_3 : decode cX12_round 3 = .ok (.sipush 999, 3) := by decide +kernel
theorem dX12_round_6 : decode cX12_round 6 = .ok (.invokestatic 61, 3) := by decide +kernel
theorem dX12_round_9 : decode cX12_round 9 = .ok (.ifCond .ne 7, 3) := by decide +kernel
theorem dX12_round_12 : decode cX12_round 12 = .ok (.iconst 1, 1) := by decide +kernel
theorem dX12_round_13 : decode cX12_round 13 = .ok (.goto 4, 3) := by decide +kernel
theorem dX12_round_16 : decode cX12_round 16 = .ok (.iconst 0, 1) := by decide +kernel
theorem dX12_round_17 : decode cX12_round 17 = .ok (.putfield 58, 3) := by decide +kernel
theorem dX12_round_20 : decode cX12_round 20 = .ok (.aload_n 0, 1) := by decide +kernel
theorem dX12_round_21 : decode cX12_round 21 = .ok (.getfield 58, 3) := by decide +kernel
theorem dX12_round_24 : decode cX12_round 24 = .ok (.ifCond .le 5, 3) := by decide +kernel
theorem dX12_round_27 : decode cX12_round 27 = .ok (.iconst 0, 1) := by decide +kernel
theorem dX12_round_28 : decode cX12_round 28 = .ok (.ireturn, 1) := by decide +kernel
theorem dX12_round_29 : decode cX12_round 29 = .ok (.iconst 0, 1) := by decide +kernel
theorem dX12_round_30 : decode cX12_round 30 = .ok (.istore_n 2, 1) := by decide +kernel
theorem dX12_round_31 : decode cX12_round 31 = .ok (.iconst 0, 1) := by decide +kernel
theorem dX12_round_32 : decode cX12_round 32 = .ok (.istore_n 3, 1) := by decide +kernel
theorem dX12_round_33 : decode cX12_round 33 = .ok (.iload_n 3, 1) := by decide +kernel
theorem dX12_round_34 : decode cX12_round 34 = .ok (.aload_n 0, 1) := by decide +kernel
theorem dX12_round_35 : decode cX12_round 35 = .ok (.getfield 7, 3) := by decide +kernel
theorem dX12_round_38 : decode cX12_round 38 = .ok (.iconst 3, 1) := by decide +kernel
theorem dX12_round_39 : decode cX12_round 39 = .ok (.iaload, 1) := by decide +kernel
theorem dX12_round_40 : decode cX12_round 40 = .ok (.if_icmp .ge 30, 3) := by decide +kernel
theorem dX12_round_43 : decode cX12_round 43 = .ok (.iload_n 2, 1) := by decide +kernel
theorem dX12_round_44 : decode cX12_round 44 = .ok (.aload_n 0, 1) := by decide +kernel
theorem dX12_round_45 : decode cX12_round 45 = .ok (.iload_n 3, 1) := by decide +kernel
theorem dX12_round_46 : decode cX12_round 46 = .ok (.bipush 7, 2) := by decide +kernel
theorem dX12_round_48 : decode cX12_round 48 = .ok (.invokevirtual 65, 3) := by decide +kernel
theorem dX12_round_51 : decode cX12_round 51 = .ok (.iload_n 1, 1) := by decide +kernel
theorem dX12_round_52 : decode cX12_round 52 = .ok (.if_icmp .lt 9, 3) := by decide +kernel
theorem dX12_round_55 : decode cX12_round 55 = .ok (.iconst 1, 1) := by decide +kernel
theorem dX12_round_56 : decode cX12_round 56 = .ok (.iload_n 3, 1) := by decide +kernel
theorem dX12_round_57 : decode cX12_round 57 = .ok (.ishl, 1) := by decide +kernel
theorem dX12_round_58 : decode cX12_round 58 = .ok (.goto 4, 3) := by decide +kernel
theorem dX12_round_61 : decode cX12_round 61 = .ok (.iconst 0, 1) := by decide +kernel
theorem dX12_round_62 : decode cX12_round 62 = .ok (.ior, 1) := by decide +kernel
theorem dX12_round_63 : decode cX12_round 63 = .ok (.istore_n 2, 1) := by decide +kernel
theorem dX12_round_64 : decode cX12_round 64 = .ok (.iinc 3 1, 3) := by decide +kernel
theorem dX12_round_67 : decode cX12_round 67 = .ok (.goto (-34), 3) := by decide +kernel
theorem dX12_round_70 : decode cX12_round 70 = .ok (.iload_n 2, 1) := by decide +kernel
theorem dX12_round_71 : decode cX12_round 71 = .ok (.ireturn, 1) := by decide +kernel
theorem dX12_hungriest_0 : decode cX12_hungriest 0 = .ok (.aload_n 0, 1) := by decide +kernel
theorem dX12_hungriest_1 : decode cX12_hungriest 1 = .ok (.iconst 0, 1) := by decide +kernel
theorem dX12_hungriest_2 : decode cX12_hungriest 2 = .ok (.putfield 58, 3) := by decide +kernel
theorem dX12_hungriest_5 : decode cX12_hungriest 5 = .ok (.iconst (-1), 1) := by decide +kernel
theorem dX12_hungriest_6 : decode cX12_hungriest 6 = .ok (.istore_n 1, 1) := by decide +kernel
theorem dX12_hungriest_7 : decode cX12_hungriest 7 = .ok (.iconst 0, 1) := by decide +kernel
theorem dX12_hungriest_8 : decode cX12_hungriest 8 = .ok (.istore_n 2, 1) := by decide +kernel
theorem dX12_hungriest_9 : decode cX12_hungriest 9 = .ok (.iload_n 2, 1) := by decide +kernel
theorem dX12_hungriest_10 : decode cX12_hungriest 10 = .ok (.aload_n 0, 1) := by decide +kernel
theorem dX12_hungriest_11 : decode cX12_hungriest 11 = .ok (.getfield 7, 3) := by decide +kernel
theorem dX12_hungriest_14 : decode cX12_hungriest 14 = .ok (.iconst 3, 1) := by decide +kernel
theorem dX12_hungriest_15 : decode cX12_hungriest 15 = .ok (.iaload, 1) := by decide +kernel
theorem dX12_hungriest_16 : decode cX12_hungriest 16 = .ok (.if_icmp .ge 37, 3) := by decide +kernel
theorem dX12_hungriest_19 : decode cX12_hungriest 19 = .ok (.aload_n 0, 1) := by decide +kernel
theorem dX12_hungriest_20 : decode cX12_hungriest 20 = .ok (.iload_n 2, 1) := by decide +kernel
theorem dX12_hungriest_21 : decode cX12_hungriest 21 = .ok (.bipush 6, 2) := by decide +kernel
theorem dX12_hungriest_23 : decode cX12_hungriest 23 = .ok (.invokevirtual 65, 3) := by decide +kernel
theorem dX12_hungriest_26 : decode cX12_hungriest 26 = .ok (.iload_n 1, 1) := by decide +kernel
theorem dX12_hungriest_27 : decode cX12_hungriest 27 = .ok (.iconst (-1), 1) := by decide +kernel
theorem dX12_hungriest_28 : decode cX12_hungriest 28 = .ok (.if_icmp .ne 7, 3) := by decide +kernel
theorem dX12_hungriest_31 : decode cX12_hungriest 31 = .ok (.iconst 0, 1) := by decide +kernel
theorem dX12_hungriest_32 : decode cX12_hungriest 32 = .ok (.goto 10, 3) := by decide +kernel
theorem dX12_hungriest_35 : decode cX12_hungriest 35 = .ok (.aload_n 0, 1) := by decide +kernel
theorem dX12_hungriest_36 : decode cX12_hungriest 36 = .ok (.iload_n 1, 1) := by decide +kernel
theorem dX12_hungriest_37 : decode cX12_hungriest 37 = .ok (.bipush 6, 2) := by decide +kernel
theorem dX12_hungriest_39 : decode cX12_hungriest 39 = .ok (.invokevirtual 65, 3) := by decide +kernel
theorem dX12_hungriest_42 : decode cX12_hungriest 42 = .ok (.if_icmp .le 5, 3) := by decide +kernel
theorem dX12_hungriest_45 : decode cX12_hungriest 45 = .ok (.iload_n 2, 1) := by decide +kernel
theorem dX12_hungriest_46 : decode cX12_hungriest 46 = .ok (.istore_n 1, 1) := by decide +kernel
theorem dX12_hungriest_47 : decode cX12_hungriest 47 = .ok (.iinc 2 1, 3) := by decide +kernel
theorem dX12_hungriest_50 : decode cX12_hungriest 50 = .ok (.goto (-41), 3) := by decide +kernel
theorem dX12_hungriest_53 : decode cX12_hungriest 53 = .ok (.iload_n 1, 1) := by decide +kernel
theorem dX12_hungriest_54 : decode cX12_hungriest 54 = .ok (.ireturn, 1) := by decide +kernel
theorem dX12_alike_0 : decode cX12_alike 0 = .ok (.aload_n 0, 1) := by decide +kernel
theorem dX12_alike_1 : decode cX12_alike 1 = .ok (.iconst 0, 1) := by decide +kernel
theorem dX12_alike_2 : decode cX12_alike 2 = .ok (.putfield 58, 3) := by decide +kernel
theorem dX12_alike_5 : decode cX12_alike 5 = .ok (.iconst 0, 1) := by decide +kernel
theorem dX12_alike_6 : decode cX12_alike 6 = .ok (.istore_n 1, 1) := by decide +kernel
theorem dX12_alike_7 : decode cX12_alike 7 = .ok (.iconst 0, 1) := by decide +kernel
theorem dX12_alike_8 : decode cX12_alike 8 = .ok (.istore_n 2, 1) := by decide +kernel
theorem dX12_alike_9 : decode cX12_alike 9 = .ok (.iload_n 2, 1) := by decide +kernel
theorem dX12_alike_10 : decode cX12_alike 10 = .ok (.aload_n 0, 1) := by decide +kernel
theorem dX12_alike_11 : decode cX12_alike 11 = .ok (.getfield 7, 3) := by decide +kernel
theorem dX12_alike_14 : decode cX12_alike 14 = .ok (.iconst 3, 1) := by decide +kernel
theorem dX12_alike_15 : decode cX12_alike 15 = .ok (.iaload, 1) := by decide +kernel
theorem dX12_alike_16 : decode cX12_alike 16 = .ok (.if_icmp .ge 67, 3) := by decide +kernel
theorem dX12_alike_19 : decode cX12_alike 19 = .ok (.iload_n 2, 1) := by decide +kernel
theorem dX12_alike_20 : decode cX12_alike 20 = .ok (.iconst 1, 1) := by decide +kernel
theorem dX12_alike_21 : decode cX12_alike 21 = .ok (.iadd, 1) := by decide +kernel
theorem dX12_alike_22 : decode cX12_alike 22 = .ok (.istore_n 3, 1) := by decide +kernel
theorem dX12_alike_23 : decode cX12_alike 23 = .ok (.iload_n 3, 1) := by decide +kernel
theorem dX12_alike_24 : decode cX12_alike 24 = .ok (.aload_n 0, 1) := by decide +kernel
theorem dX12_alike_25 : decode cX12_alike 25 = .ok (.getfield 7, 3) := by decide +kernel
theorem dX12_alike_28 : decode cX12_alike 28 = .ok (.iconst 3, 1) := by decide +kernel
theorem dX12_alike_29 : decode cX12_alike 29 = .ok (.iaload, 1) := by decide +kernel
theorem dX12_alike_30 : decode cX12_alike 30 = .ok (.if_icmp .ge 47, 3) := by decide +kernel
theorem dX12_alike_33 : decode cX12_alike 33 = .ok (.iload_n 1, 1) := by decide +kernel
theorem dX12_alike_34 : decode cX12_alike 34 = .ok (.aload_n 0, 1) := by decide +kernel
theorem dX12_alike_35 : decode cX12_alike 35 = .ok (.iload_n 2, 1) := by decide +kernel
theorem dX12_alike_36 : decode cX12_alike 36 = .ok (.iconst 1, 1) := by decide +kernel
theorem dX12_alike_37 : decode cX12_alike 37 = .ok (.invokevirtual 65, 3) := by decide +kernel
theorem dX12_alike_40 : decode cX12_alike 40 = .ok (.aload_n 0, 1) := by decide +kernel
theorem dX12_alike_41 : decode cX12_alike 41 = .ok (.iload_n 3, 1) := by decide +kernel
theorem dX12_alike_42 : decode cX12_alike 42 = .ok (.iconst 1, 1) := by decide +kernel
theorem dX12_alike_43 : decode cX12_alike 43 = .ok (.invokevirtual 65, 3) := by decide +kernel
theorem dX12_alike_46 : decode cX12_alike 46 = .ok (.if_icmp .ne 22, 3) := by decide +kernel
theorem dX12_alike_49 : decode cX12_alike 49 = .ok (.aload_n 0, 1) := by decide +kernel
theorem dX12_alike_50 : decode cX12_alike 50 = .ok (.iload_n 2, 1) := by decide +kernel
theorem dX12_alike_51 : decode cX12_alike 51 = .ok (.iconst 0, 1) := by decide +kernel
theorem dX12_alike_52 : decode cX12_alike 52 = .ok (.invokevirtual 65, 3) := by decide +kernel
theorem dX12_alike_55 : decode cX12_alike 55 = .ok (.aload_n 0, 1) := by decide +kernel
theorem dX12_alike_56 : decode cX12_alike 56 = .ok (.iload_n 3, 1) := by decide +kernel
theorem dX12_alike_57 : decode cX12_alike 57 = .ok (.iconst 0, 1) := by decide +kernel
theorem dX12_alike_58 : decode cX12_alike 58 = .ok (.invokevirtual 65, 3) := by decide +kernel
theorem dX12_alike_61 : decode cX12_alike 61 = .ok (.if_icmp .ne 7, 3) := by decide +kernel
theorem dX12_alike_64 : decode cX12_alike 64 = .ok (.iconst 1, 1) := by decide +kernel
theorem dX12_alike_65 : decode cX12_alike 65 = .ok (.goto 4, 3) := by decide +kernel
theorem dX12_alike_68 : decode cX12_alike 68 = .ok (.iconst 0, 1) := by decide +kernel
theorem dX12_alike_69 : decode cX12_alike 69 = .ok (.iadd, 1) := by decide +kernel
theorem dX12_alike_70 : decode cX12_alike 70 = .ok (.istore_n 1, 1) := by decide +kernel
theorem dX12_alike_71 : decode cX12_alike 71 = .ok (.iinc 3 1, 3) := by decide +kernel
theorem dX12_alike_74 : decode cX12_alike 74 = .ok (.goto (-51), 3) := by decide +kernel
theorem dX12_alike_77 : decode cX12_alike 77 = .ok (.iinc 2 1, 3) := by decide +kernel
theorem dX12_alike_80 : decode cX12_alike 80 = .ok (.goto (-71), 3) := by decide +kernel
theorem dX12_alike_83 : decode cX12_alike 83 = .ok (.iload_n 1, 1) := by decide +kernel
theorem dX12_alike_84 : decode cX12_alike 84 = .ok (.ireturn, 1) := by decide +kernel
theorem dX12_ahead_0 : decode cX12_ahead 0 = .ok (.aload_n 0, 1) := by decide +kernel
theorem dX12_ahead_1 : decode cX12_ahead 1 = .ok (.aload_n 0, 1) := by decide +kernel
theorem dX12_ahead_2 : decode cX12_ahead 2 = .ok (.iload_n 1, 1) := by decide +kernel
theorem dX12_ahead_3 : decode cX12_ahead 3 = .ok (.invokevirtual 295, 3) := by decide +kernel
theorem dX12_ahead_6 : decode cX12_ahead 6 = .ok (.ifCond .ne 7, 3) := by decide +kernel
theorem dX12_ahead_9 : decode cX12_ahead 9 = .ok (.iconst 1, 1) := by decide +kernel
theorem dX12_ahead_10 : decode cX12_ahead 10 = .ok (.goto 31, 3) := by decide +kernel
theorem dX12_ahead_13 : decode cX12_ahead 13 = .ok (.iload_n 2, 1) := by decide +kernel
theorem dX12_ahead_14 : decode cX12_ahead 14 = .ok (.iconst 0, 1) := by decide +kernel
theorem dX12_ahead_15 : decode cX12_ahead 15 = .ok (.bipush 72, 2) := by decide +kernel
theorem dX12_ahead_17 : decode cX12_ahead 17 = .ok (.invokestatic 61, 3) := by decide +kernel
theorem dX12_ahead_20 : decode cX12_ahead 20 = .ok (.ifCond .ne 7, 3) := by decide +kernel
theorem dX12_ahead_23 : decode cX12_ahead 23 = .ok (.iconst 2, 1) := by decide +kernel
theorem dX12_ahead_24 : decode cX12_ahead 24 = .ok (.goto 17, 3) := by decide +kernel
theorem dX12_ahead_27 : decode cX12_ahead 27 = .ok (.iload_n 3, 1) := by decide +kernel
theorem dX12_ahead_28 : decode cX12_ahead 28 = .ok (.iconst 0, 1) := by decide +kernel
theorem dX12_ahead_29 : decode cX12_ahead 29 = .ok (.iconst 2, 1) := by decide +kernel
theorem dX12_ahead_30 : decode cX12_ahead 30 = .ok (.invokestatic 61, 3) := by decide +kernel
theorem dX12_ahead_33 : decode cX12_ahead 33 = .ok (.ifCond .ne 7, 3) := by decide +kernel
theorem dX12_ahead_36 : decode cX12_ahead 36 = .ok (.iconst 3, 1) := by decide +kernel
theorem dX12_ahead_37 : decode cX12_ahead 37 = .ok (.goto 4, 3) := by decide +kernel
theorem dX12_ahead_40 : decode cX12_ahead 40 = .ok (.iconst 0, 1) := by decide +kernel
theorem dX12_ahead_41 : decode cX12_ahead 41 = .ok (.putfield 58, 3) := by decide +kernel
theorem dX12_ahead_44 : decode cX12_ahead 44 = .ok (.aload_n 0, 1) := by decide +kernel
theorem dX12_ahead_45 : decode cX12_ahead 45 = .ok (.getfield 58, 3) := by decide +kernel
theorem dX12_ahead_48 : decode cX12_ahead 48 = .ok (.ifCond .le 5, 3) := by decide +kernel
theorem dX12_ahead_51 : decode cX12_ahead 51 = .ok (.iconst 0, 1) := by decide +kernel
theorem dX12_ahead_52 : decode cX12_ahead 52 = .ok (.ireturn, 1) := by decide +kernel
theorem dX12_ahead_53 : decode cX12_ahead 53 = .ok (.aload_n 0, 1) := by decide +kernel
theorem dX12_ahead_54 : decode cX12_ahead 54 = .ok (.invokevirtual 192, 3) := by decide +kernel
theorem dX12_ahead_57 : decode cX12_ahead 57 = .ok (.aload_n 0, 1) := by decide +kernel
theorem dX12_ahead_58 : decode cX12_ahead 58 = .ok (.iload_n 2, 1) := by decide +kernel
theorem dX12_ahead_59 : decode cX12_ahead 59 = .ok (.iconst 0, 1) := by decide +kernel
theorem dX12_ahead_60 : decode cX12_ahead 60 = .ok (.invokevirtual 310, 3) := by decide +kernel
theorem dX12_ahead_63 : decode cX12_ahead 63 = .ok (.istore 4, 2) := by decide +kernel
theorem dX12_ahead_65 : decode cX12_ahead 65 = .ok (.aload_n 0, 1) := by decide +kernel
theorem dX12_ahead_66 : decode cX12_ahead 66 = .ok (.iload_n 1, 1) := by decide +kernel
theorem dX12_ahead_67 : decode cX12_ahead 67 = .ok (.iload_n 3, 1) := by decide +kernel
theorem dX12_ahead_68 : decode cX12_ahead 68 = .ok (.ifCond .ne 7, 3) := by decide +kernel
theorem dX12_ahead_71 : decode cX12_ahead 71 = .ok (.iconst 0, 1) := by decide +kernel
theorem dX12_ahead_72 : decode cX12_ahead 72 = .ok (.goto 14, 3) := by decide +kernel
theorem dX12_ahead_75 : decode cX12_ahead 75 = .ok (.iload_n 3, 1) := by decide +kernel
theorem dX12_ahead_76 : decode cX12_ahead 76 = .ok (.iconst 1, 1) := by decide +kernel
theorem dX12_ahead_77 : decode cX12_ahead 77 = .ok (.if_icmp .ne 7, 3) := by decide +kernel
theorem dX12_ahead_80 : decode cX12_ahead 80 = .ok (.iconst 5, 1) := by decide +kernel
theorem dX12_ahead_81 : decode cX12_ahead 81 = .ok (.goto 5, 3) := by decide +kernel
theorem dX12_ahead_84 : decode cX12_ahead 84 = .ok (.bipush 6, 2) := by decide +kernel
theorem dX12_ahead_86 : decode cX12_ahead 86 = .ok (.invokevirtual 65, 3) := by decide +kernel
theorem dX12_ahead_89 : decode cX12_ahead 89 = .ok (.istore 5, 2) := by decide +kernel
theorem dX12_ahead_91 : decode cX12_ahead 91 = .ok (.aload_n 0, 1) := by decide +kernel
theorem dX12_ahead_92 : decode cX12_ahead 92 = .ok (.invokevirtual 201, 3) := by decide +kernel
theorem dX12_ahead_95 : decode cX12_ahead 95 = .ok (.iload 5, 2) := by decide +kernel
theorem dX12_ahead_97 : decode cX12_ahead 97 = .ok (.ireturn, 1) := by decide +kernel
theorem dX12_trial_0 : decode cX12_trial 0 = .ok (.aload_n 0, 1) := by decide +kernel
theorem dX12_trial_1 : decode cX12_trial 1 = .ok (.iload_n 1, 1) := by decide +kernel
theorem dX12_trial_2 : decode cX12_trial 2 = .ok (.iconst 0, 1) := by decide +kernel
theorem dX12_trial_3 : decode cX12_trial 3 = .ok (.bipush 72, 2) := by decide +kernel
theorem dX12_trial_5 : decode cX12_trial 5 = .ok (.invokestatic 61, 3) := by decide +kernel
theorem dX12_trial_8 : decode cX12_trial 8 = .ok (.ifCond .ne 7, 3) := by decide +kernel
theorem dX12_trial_11 : decode cX12_trial 11 = .ok (.iconst 1, 1) := by decide +kernel
theorem dX12_trial_12 : decode cX12_trial 12 = .ok (.goto 4, 3) := by decide +kernel
theorem dX12_trial_15 : decode cX12_trial 15 = .ok (.iconst 0, 1) := by decide +kernel
theorem dX12_trial_16 : decode cX12_trial 16 = .ok (.putfield 58, 3) := by decide +kernel
theorem dX12_trial_19 : decode cX12_trial 19 = .ok (.aload_n 0, 1) := by decide +kernel
theorem dX12_trial_20 : decode cX12_trial 20 = .ok (.getfield 58, 3) := by decide +kernel
theorem dX12_trial_23 : decode cX12_trial 23 = .ok (.ifCond .le 5, 3) := by decide +kernel
theorem dX12_trial_26 : decode cX12_trial 26 = .ok (.iconst 0, 1) := by decide +kernel
theorem dX12_trial_27 : decode cX12_trial 27 = .ok (.ireturn, 1) := by decide +kernel
theorem dX12_trial_28 : decode cX12_trial 28 = .ok (.aload_n 0, 1) := by decide +kernel
theorem dX12_trial_29 : decode cX12_trial 29 = .ok (.invokevirtual 192, 3) := by decide +kernel
theorem dX12_trial_32 : decode cX12_trial 32 = .ok (.aload_n 0, 1) := by decide +kernel
theorem dX12_trial_33 : decode cX12_trial 33 = .ok (.iload_n 1, 1) := by decide +kernel
theorem dX12_trial_34 : decode cX12_trial 34 = .ok (.iconst 1, 1) := by decide +kernel
theorem dX12_trial_35 : decode cX12_trial 35 = .ok (.invokevirtual 310, 3) := by decide +kernel
theorem dX12_trial_38 : decode cX12_trial 38 = .ok (.istore_n 3, 1) := by decide +kernel
theorem dX12_trial_39 : decode cX12_trial 39 = .ok (.iload_n 2, 1) := by decide +kernel
theorem dX12_trial_40 : decode cX12_trial 40 = .ok (.ifCond .eq 13, 3) := by decide +kernel
theorem dX12_trial_43 : decode cX12_trial 43 = .ok (.aload_n 0, 1) := by decide +kernel
theorem dX12_trial_44 : decode cX12_trial 44 = .ok (.getfield 7, 3) := by decide +kernel
theorem dX12_trial_47 : decode cX12_trial 47 = .ok (.bipush 7, 2) := by decide +kernel
theorem dX12_trial_49 : decode cX12_trial 49 = .ok (.iaload, 1) := by decide +kernel
theorem dX12_trial_50 : decode cX12_trial 50 = .ok (.goto 7, 3) := by decide +kernel
theorem dX12_trial_53 : decode cX12_trial 53 = .ok (.aload_n 0, 1) := by decide +kernel
theorem dX12_trial_54 : decode cX12_trial 54 = .ok (.invokevirtual 298, 3) := by decide +kernel
theorem dX12_trial_57 : decode cX12_trial 57 = .ok (.istore 4, 2) := by decide +kernel
theorem dX12_trial_59 : decode cX12_trial 59 = .ok (.aload_n 0, 1) := by decide +kernel
theorem dX12_trial_60 : decode cX12_trial 60 = .ok (.invokevirtual 201, 3) := by decide +kernel
theorem dX12_trial_63 : decode cX12_trial 63 = .ok (.iload 4, 2) := by decide +kernel
theorem dX12_trial_65 : decode cX12_trial 65 = .ok (.ireturn, 1) := by decide +kernel
theorem dX12_span_0 : decode cX12_span 0 = .ok (.aload_n 0, 1) := by decide +kernel
theorem dX12_span_1 : decode cX12_span 1 = .ok (.iload_n 1, 1) := by decide +kernel
theorem dX12_span_2 : decode cX12_span 2 = .ok (.iconst 0, 1) := by decide +kernel
theorem dX12_span_3 : decode cX12_span 3 = .ok (.bipush 72, 2) := by decide +kernel
theorem dX12_span_5 : decode cX12_span 5 = .ok (.invokestatic 61, 3) := by decide +kernel
theorem dX12_span_8 : decode cX12_span 8 = .ok (.ifCond .ne 7, 3) := by decide +kernel
theorem dX12_span_11 : decode cX12_span 11 = .ok (.iconst 1, 1) := by decide +kernel
theorem dX12_span_12 : decode cX12_span 12 = .ok (.goto 4, 3) := by decide +kernel
theorem dX12_span_15 : decode cX12_span 15 = .ok (.iconst 0, 1) := by decide +kernel
theorem dX12_span_16 : decode cX12_span 16 = .ok (.putfield 58, 3) := by decide +kernel
theorem dX12_span_19 : decode cX12_span 19 = .ok (.aload_n 0, 1) := by decide +kernel
theorem dX12_span_20 : decode cX12_span 20 = .ok (.getfield 58, 3) := by decide +kernel
theorem dX12_span_23 : decode cX12_span 23 = .ok (.ifCond .le 5, 3) := by decide +kernel
theorem dX12_span_26 : decode cX12_span 26 = .ok (.iconst 0, 1) := by decide +kernel
theorem dX12_span_27 : decode cX12_span 27 = .ok (.ireturn, 1) := by decide +kernel
theorem dX12_span_28 : decode cX12_span 28 = .ok (.aload_n 0, 1) := by decide +kernel
theorem dX12_span_29 : decode cX12_span 29 = .ok (.invokevirtual 192, 3) := by decide +kernel
theorem dX12_span_32 : decode cX12_span 32 = .ok (.iconst (-1), 1) := by decide +kernel
theorem dX12_span_33 : decode cX12_span 33 = .ok (.istore_n 3, 1) := by decide +kernel
theorem dX12_span_34 : decode cX12_span 34 = .ok (.iconst 1, 1) := by decide +kernel
theorem dX12_span_35 : decode cX12_span 35 = .ok (.istore 4, 2) := by decide +kernel
theorem dX12_span_37 : decode cX12_span 37 = .ok (.iload 4, 2) := by decide +kernel
theorem dX12_span_39 : decode cX12_span 39 = .ok (.bipush 6, 2) := by decide +kernel
theorem dX12_span_41 : decode cX12_span 41 = .ok (.if_icmp .gt 66, 3) := by decide +kernel
theorem dX12_span_44 : decode cX12_span 44 = .ok (.aload_n 0, 1) := by decide +kernel
theorem dX12_span_45 : decode cX12_span 45 = .ok (.getfield 7, 3) := by decide +kernel
theorem dX12_span_48 : decode cX12_span 48 = .ok (.bipush 11, 2) := by decide +kernel
theorem dX12_span_50 : decode cX12_span 50 = .ok (.iload 4, 2) := by decide +kernel
theorem dX12_span_52 : decode cX12_span 52 = .ok (.iastore, 1) := by decide +kernel
theorem dX12_span_53 : decode cX12_span 53 = .ok (.aload_n 0, 1) := by decide +kernel
theorem dX12_span_54 : decode cX12_span 54 = .ok (.iload_n 1, 1) := by decide +kernel
theorem dX12_span_55 : decode cX12_span 55 = .ok (.iconst 1, 1) := by decide +kernel
theorem dX12_span_56 : decode cX12_span 56 = .ok (.invokevirtual 310, 3) := by decide +kernel
theorem dX12_span_59 : decode cX12_span 59 = .ok (.istore 5, 2) := by decide +kernel
theorem dX12_span_61 : decode cX12_span 61 = .ok (.aload_n 0, 1) := by decide +kernel
theorem dX12_span_62 : decode cX12_span 62 = .ok (.invokevirtual 298, 3) := by decide +kernel
theorem dX12_span_65 : decode cX12_span 65 = .ok (.istore 6, 2) := by decide +kernel
theorem dX12_span_67 : decode cX12_span 67 = .ok (.aload_n 0, 1) := by decide +kernel
theorem dX12_span_68 : decode cX12_span 68 = .ok (.invokevirtual 201, 3) := by decide +kernel
theorem dX12_span_71 : decode cX12_span 71 = .ok (.iload_n 3, 1) := by decide +kernel
theorem dX12_span_72 : decode cX12_span 72 = .ok (.iconst (-1), 1) := by decide +kernel
theorem dX12_span_73 : decode cX12_span 73 = .ok (.if_icmp .ne 8, 3) := by decide +kernel
theorem dX12_span_76 : decode cX12_span 76 = .ok (.iload 6, 2) := by decide +kernel
theorem dX12_span_78 : decode cX12_span 78 = .ok (.goto 22, 3) := by decide +kernel
theorem dX12_span_81 : decode cX12_span 81 = .ok (.iload_n 2, 1) := by decide +kernel
theorem dX12_span_82 : decode cX12_span 82 = .ok (.ifCond .eq 12, 3) := by decide +kernel
theorem dX12_span_85 : decode cX12_span 85 = .ok (.iload_n 3, 1) := by decide +kernel
theorem dX12_span_86 : decode cX12_span 86 = .ok (.iload 6, 2) := by decide +kernel
theorem dX12_span_88 : decode cX12_span 88 = .ok (.invokestatic 266, 3) := by decide +kernel
theorem dX12_span_91 : decode cX12_span 91 = .ok (.goto 9, 3) := by decide +kernel
theorem dX12_span_94 : decode cX12_span 94 = .ok (.iload_n 3, 1) := by decide +kernel
theorem dX12_span_95 : decode cX12_span 95 = .ok (.iload 6, 2) := by decide +kernel
theorem dX12_span_97 : decode cX12_span 97 = .ok (.invokestatic 73, 3) := by decide +kernel
theorem dX12_span_100 : decode cX12_span 100 = .ok (.istore_n 3, 1) := by decide +kernel
theorem dX12_span_101 : decode cX12_span 101 = .ok (.iinc 4 1, 3) := by decide +kernel
theorem dX12_span_104 : decode cX12_span 104 = .ok (.goto (-67), 3) := by decide +kernel
theorem dX12_span_107 : decode cX12_span 107 = .ok (.iload_n 3, 1) := by decide +kernel
theorem dX12_span_108 : decode cX12_span 108 = .ok (.ireturn, 1) := by decide +kernel
theorem dX12_logged_0 : decode cX12_logged 0 = .ok (.aload_n 0, 1) := by decide +kernel
theorem dX12_logged_1 : decode cX12_logged 1 = .ok (.getfield 7, 3) := by decide +kernel
theorem dX12_logged_4 : decode cX12_logged 4 = .ok (.bipush 72, 2) := by decide +kernel
theorem dX12_logged_6 : decode cX12_logged 6 = .ok (.iconst 5, 1) := by decide +kernel
theorem dX12_logged_7 : decode cX12_logged 7 = .ok (.iload_n 1, 1) := by decide +kernel
theorem dX12_logged_8 : decode cX12_logged 8 = .ok (.imul, 1) := by decide +kernel
theorem dX12_logged_9 : decode cX12_logged 9 = .ok (.iadd, 1) := by decide +kernel
theorem dX12_logged_10 : decode cX12_logged 10 = .ok (.iload_n 2, 1) := by decide +kernel
theorem dX12_logged_11 : decode cX12_logged 11 = .ok (.iadd, 1) := by decide +kernel
theorem dX12_logged_12 : decode cX12_logged 12 = .ok (.iaload, 1) := by decide +kernel
theorem dX12_logged_13 : decode cX12_logged 13 = .ok (.ireturn, 1) := by decide +kernel
theorem dX12_led_0 : decode cX12_led 0 = .ok (.aload_n 0, 1) := by decide +kernel
theorem dX12_led_1 : decode cX12_led 1 = .ok (.aload_n 0, 1) := by decide +kernel
theorem dX12_led_2 : decode cX12_led 2 = .ok (.iload_n 1, 1) := by decide +kernel
theorem dX12_led_3 : decode cX12_led 3 = .ok (.invokevirtual 295, 3) := by decide +kernel
theorem dX12_led_6 : decode cX12_led 6 = .ok (.ifCond .ne 7, 3) := by decide +kernel
theorem dX12_led_9 : decode cX12_led 9 = .ok (.iconst 1, 1) := by decide +kernel
theorem dX12_led_10 : decode cX12_led 10 = .ok (.goto 4, 3) := by decide +kernel
theorem dX12_led_13 : decode cX12_led 13 = .ok (.iconst 0, 1) := by decide +kernel
theorem dX12_led_14 : decode cX12_led 14 = .ok (.putfield 58, 3) := by decide +kernel
theorem dX12_led_17 : decode cX12_led 17 = .ok (.aload_n 0, 1) := by decide +kernel
theorem dX12_led_18 : decode cX12_led 18 = .ok (.getfield 58, 3) := by decide +kernel
theorem dX12_led_21 : decode cX12_led 21 = .ok (.ifCond .le 5, 3) := by decide +kernel
theorem dX12_led_24 : decode cX12_led 24 = .ok (.iconst 0, 1) := by decide +kernel
theorem dX12_led_25 : decode cX12_led 25 = .ok (.ireturn, 1) := by decide +kernel
theorem dX12_led_26 : decode cX12_led 26 = .ok (.iconst 0, 1) := by decide +kernel
theorem dX12_led_27 : decode cX12_led 27 = .ok (.istore_n 3, 1) := by decide +kernel
theorem dX12_led_28 : decode cX12_led 28 = .ok (.iconst (-1), 1) := by decide +kernel
theorem dX12_led_29 : decode cX12_led 29 = .ok (.istore 4, 2) := by decide +kernel
theorem dX12_led_31 : decode cX12_led 31 = .ok (.aload_n 0, 1) := by decide +kernel
theorem dX12_led_32 : decode cX12_led 32 = .ok (.getfield 7, 3) := by decide +kernel
theorem dX12_led_35 : decode cX12_led 35 = .ok (.bipush 10, 2) := by decide +kernel
theorem dX12_led_37 : decode cX12_led 37 = .ok (.iaload, 1) := by decide +kernel
theorem dX12_led_38 : decode cX12_led 38 = .ok (.iconst 1, 1) := by decide +kernel
theorem dX12_led_39 : decode cX12_led 39 = .ok (.isub, 1) := by decide +kernel
theorem dX12_led_40 : decode cX12_led 40 = .ok (.istore 5, 2) := by decide +kernel
theorem dX12_led_42 : decode cX12_led 42 = .ok (.iload 5, 2) := by decide +kernel
theorem dX12_led_44 : decode cX12_led 44 = .ok (.ifCond .lt 35, 3) := by decide +kernel
theorem dX12_led_47 : decode cX12_led 47 = .ok (.aload_n 0, 1) := by decide +kernel
theorem dX12_led_48 : decode cX12_led 48 = .ok (.iload 5, 2) := by decide +kernel
theorem dX12_led_50 : decode cX12_led 50 = .ok (.iconst 3, 1) := by decide +kernel
theorem dX12_led_51 : decode cX12_led 51 = .ok (.invokevirtual 419, 3) := by decide +kernel
theorem dX12_led_54 : decode cX12_led 54 = .ok (.iload_n 1, 1) := by decide +kernel
theorem dX12_led_55 : decode cX12_led 55 = .ok (.if_icmp .eq 6, 3) := by decide +kernel
theorem dX12_led_58 : decode cX12_led 58 = .ok (.goto 15, 3) := by decide +kernel
theorem dX12_led_61 : decode cX12_led 61 = .ok (.iinc 3 1, 3) := by decide +kernel
theorem dX12_led_64 : decode cX12_led 64 = .ok (.aload_n 0, 1) := by decide +kernel
theorem dX12_led_65 : decode cX12_led 65 = .ok (.iload 5, 2) := by decide +kernel
theorem dX12_led_67 : decode cX12_led 67 = .ok (.iconst 4, 1) := by decide +kernel
theorem dX12_led_68 : decode cX12_led 68 = .ok (.invokevirtual 419, 3) := by decide +kernel
theorem dX12_led_71 : decode cX12_led 71 = .ok (.istore 4, 2) := by decide +kernel
theorem dX12_led_73 : decode cX12_led 73 = .ok (.iinc 5 (-1), 3) := by decide +kernel
theorem dX12_led_76 : decode cX12_led 76 = .ok (.goto (-34), 3) := by decide +kernel
theorem dX12_led_79 : decode cX12_led 79 = .ok (.iload_n 2, 1) := by decide +kernel
theorem dX12_led_80 : decode cX12_led 80 = .ok (.ifCond .eq 8, 3) := by decide +kernel
theorem dX12_led_83 : decode cX12_led 83 = .ok (.iload 4, 2) := by decide +kernel
theorem dX12_led_85 : decode cX12_led 85 = .ok (.goto 4, 3) := by decide +kernel
theorem dX12_led_88 : decode cX12_led 88 = .ok (.iload_n 3, 1) := by decide +kernel
theorem dX12_led_89 : decode cX12_led 89 = .ok (.ireturn, 1) := by decide +kernel
theorem dX12_log_0 : decode cX12_log 0 = .ok (.aload_n 0, 1) := by decide +kernel
theorem dX12_log_1 : decode cX12_log 1 = .ok (.iload_n 2, 1) := by decide +kernel
theorem dX12_log_2 : decode cX12_log 2 = .ok (.iconst 0, 1) := by decide +kernel
theorem dX12_log_3 : decode cX12_log 3 = .ok (.iconst 4, 1) := by decide +kernel
theorem dX12_log_4 : decode cX12_log 4 = .ok (.invokestatic 61, 3) := by decide +kernel
theorem dX12_log_7 : decode cX12_log 7 = .ok (.ifCond .ne 7, 3) := by decide +kernel
theorem dX12_log_10 : decode cX12_log 10 = .ok (.iconst 1, 1) := by decide +kernel
theorem dX12_log_11 : decode cX12_log 11 = .ok (.goto 4, 3) := by decide +kernel
theorem dX12_log_14 : decode cX12_log 14 = .ok (.iconst 0, 1) := by decide +kernel
theorem dX12_log_15 : decode cX12_log 15 = .ok (.putfield 58, 3) := by decide +kernel
theorem dX12_log_18 : decode cX12_log 18 = .ok (.aload_n 0, 1) := by decide +kernel
theorem dX12_log_19 : decode cX12_log 19 = .ok (.getfield 58, 3) := by decide +kernel
theorem dX12_log_22 : decode cX12_log 22 = .ok (.ifCond .le 5, 3) := by decide +kernel
theorem dX12_log_25 : decode cX12_log 25 = .ok (.iconst 0, 1) := by decide +kernel
theorem dX12_log_26 : decode cX12_log 26 = .ok (.ireturn, 1) := by decide +kernel
theorem dX12_log_27 : decode cX12_log 27 = .ok (.iload_n 1, 1) := by decide +kernel
theorem dX12_log_28 : decode cX12_log 28 = .ok (.iconst 0, 1) := by decide +kernel
theorem dX12_log_29 : decode cX12_log 29 = .ok (.aload_n 0, 1) := by decide +kernel
theorem dX12_log_30 : decode cX12_log 30 = .ok (.getfield 7, 3) := by decide +kernel
theorem dX12_log_33 : decode cX12_log 33 = .ok (.bipush 10, 2) := by decide +kernel
theorem dX12_log_35 : decode cX12_log 35 = .ok (.iaload, 1) := by decide +kernel
theorem dX12_log_36 : decode cX12_log 36 = .ok (.iconst 1, 1) := by decide +kernel
theorem dX12_log_37 : decode cX12_log 37 = .ok (.isub, 1) := by decide +kernel
theorem dX12_log_38 : decode cX12_log 38 = .ok (.invokestatic 61, 3) := by decide +kernel
theorem dX12_log_41 : decode cX12_log 41 = .ok (.ifCond .eq 12, 3) := by decide +kernel
theorem dX12_log_44 : decode cX12_log 44 = .ok (.aload_n 0, 1) := by decide +kernel
theorem dX12_log_45 : decode cX12_log 45 = .ok (.iload_n 1, 1) := by decide +kernel
theorem dX12_log_46 : decode cX12_log 46 = .ok (.iload_n 2, 1) := by decide +kernel
theorem dX12_log_47 : decode cX12_log 47 = .ok (.invokevirtual 419, 3) := by decide +kernel
theorem dX12_log_50 : decode cX12_log 50 = .ok (.goto 4, 3) := by decide +kernel
theorem dX12_log_53 : decode cX12_log 53 = .ok (.iconst (-1), 1) := by decide +kernel
theorem dX12_log_54 : decode cX12_log 54 = .ok (.ireturn, 1) := by decide +kernel
theorem dX12_seed_0 : decode cX12_seed 0 = .ok (.aload_n 0, 1) := by decide +kernel
theorem dX12_seed_1 : decode cX12_seed 1 = .ok (.iconst 0, 1) := by decide +kernel
theorem dX12_seed_2 : decode cX12_seed 2 = .ok (.putfield 58, 3) := by decide +kernel
theorem dX12_seed_5 : decode cX12_seed 5 = .ok (.aload_n 0, 1) := by decide +kernel
theorem dX12_seed_6 : decode cX12_seed 6 = .ok (.getfield 7, 3) := by decide +kernel
theorem dX12_seed_9 : decode cX12_seed 9 = .ok (.bipush 11, 2) := by decide +kernel
theorem dX12_seed_11 : decode cX12_seed 11 = .ok (.iaload, 1) := by decide +kernel
theorem dX12_seed_12 : decode cX12_seed 12 = .ok (.istore_n 2, 1) := by decide +kernel
theorem dX12_seed_13 : decode cX12_seed 13 = .ok (.aload_n 0, 1) := by decide +kernel
theorem dX12_seed_14 : decode cX12_seed 14 = .ok (.getfield 7, 3) := by decide +kernel
theorem dX12_seed_17 : decode cX12_seed 17 = .ok (.bipush 11, 2) := by decide +kernel
theorem dX12_seed_19 : decode cX12_seed 19 = .ok (.iload_n 1, 1) := by decide +kernel
theorem dX12_seed_20 : decode cX12_seed 20 = .ok (.iastore, 1) := by decide +kernel
theorem dX12_seed_21 : decode cX12_seed 21 = .ok (.iload_n 2, 1) := by decide +kernel
theorem dX12_seed_22 : decode cX12_seed 22 = .ok (.ireturn, 1) := by decide +kernel
theorem dX12_undo_0 : decode cX12_undo 0 = .ok (.aload_n 0, 1) := by decide +kernel
theorem dX12_undo_1 : decode cX12_undo 1 = .ok (.iconst 0, 1) := by decide +kernel
theorem dX12_undo_2 : decode cX12_undo 2 = .ok (.putfield 58, 3) := by decide +kernel
theorem dX12_undo_5 : decode cX12_undo 5 = .ok (.aload_n 0, 1) := by decide +kernel
theorem dX12_undo_6 : decode cX12_undo 6 = .ok (.getfield 204, 3) := by decide +kernel
theorem dX12_undo_9 : decode cX12_undo 9 = .ok (.ifCond .ne 5, 3) := by decide +kernel
theorem dX12_undo_12 : decode cX12_undo 12 = .ok (.iconst 0, 1) := by decide +kernel
theorem dX12_undo_13 : decode cX12_undo 13 = .ok (.ireturn, 1) := by decide +kernel
theorem dX12_undo_14 : decode cX12_undo 14 = .ok (.aload_n 0, 1) := by decide +kernel
theorem dX12_undo_15 : decode cX12_undo 15 = .ok (.dup, 1) := by decide +kernel
theorem dX12_undo_16 : decode cX12_undo 16 = .ok (.getfield 204, 3) := by decide +kernel
theorem dX12_undo_19 : decode cX12_undo 19 = .ok (.iconst 1, 1) := by decide +kernel
theorem dX12_undo_20 : decode cX12_undo 20 = .ok (.isub, 1) := by decide +kernel
theorem dX12_undo_21 : decode cX12_undo 21 = .ok (.putfield 204, 3) := by decide +kernel
theorem dX12_undo_24 : decode cX12_undo 24 = .ok (.iconst 0, 1) := by decide +kernel
theorem dX12_undo_25 : decode cX12_undo 25 = .ok (.istore_n 1, 1) := by decide +kernel
theorem dX12_undo_26 : decode cX12_undo 26 = .ok (.iload_n 1, 1) := by decide +kernel
theorem dX12_undo_27 : decode cX12_undo 27 = .ok (.sipush 372, 3) := by decide +kernel
theorem dX12_undo_30 : decode cX12_undo 30 = .ok (.if_icmp .ge 30, 3) := by decide +kernel
theorem dX12_undo_33 : decode cX12_undo 33 = .ok (.aload_n 0, 1) := by decide +kernel
theorem dX12_undo_34 : decode cX12_undo 34 = .ok (.getfield 7, 3) := by decide +kernel
theorem dX12_undo_37 : decode cX12_undo 37 = .ok (.iload_n 1, 1) := by decide +kernel
theorem dX12_undo_38 : decode cX12_undo 38 = .ok (.aload_n 0, 1) := by decide +kernel
theorem dX12_undo_39 : decode cX12_undo 39 = .ok (.getfield 19, 3) := by decide +kernel
theorem dX12_undo_42 : decode cX12_undo 42 = .ok (.sipush 372, 3) := by decide +kernel
theorem dX12_undo_45 : decode cX12_undo 45 = .ok (.aload_n 0, 1) := by decide +kernel
theorem dX12_undo_46 : decode cX12_undo 46 = .ok (.getfield 204, 3) := by decide +kernel
theorem dX12_undo_49 : decode cX12_undo 49 = .ok (.imul, 1) := by decide +kernel
theorem dX12_undo_50 : decode cX12_undo 50 = .ok (.iload_n 1, 1) := by decide +kernel
theorem dX12_undo_51 : decode cX12_undo 51 = .ok (.iadd, 1) := by decide +kernel
theorem dX12_undo_52 : decode cX12_undo 52 = .ok (.iaload, 1) := by decide +kernel
theorem dX12_undo_53 : decode cX12_undo 53 = .ok (.iastore, 1) := by decide +kernel
theorem dX12_undo_54 : decode cX12_undo 54 = .ok (.iinc 1 1, 3) := by decide +kernel
theorem dX12_undo_57 : decode cX12_undo 57 = .ok (.goto (-31), 3) := by decide +kernel
theorem dX12_undo_60 : decode cX12_undo 60 = .ok (.iconst 1, 1) := by decide +kernel
theorem dX12_undo_61 : decode cX12_undo 61 = .ok (.ireturn, 1) := by decide +kernel
theorem dX12_image_0 : decode cX12_image 0 = .ok (.aload_n 0, 1) := by decide +kernel
theorem dX12_image_1 : decode cX12_image 1 = .ok (.iconst 0, 1) := by decide +kernel
theorem dX12_image_2 : decode cX12_image 2 = .ok (.putfield 58, 3) := by decide +kernel
theorem dX12_image_5 : decode cX12_image 5 = .ok (.iconst 0, 1) := by decide +kernel
theorem dX12_image_6 : decode cX12_image 6 = .ok (.istore_n 1, 1) := by decide +kernel
theorem dX12_image_7 : decode cX12_image 7 = .ok (.iload_n 1, 1) := by decide +kernel
theorem dX12_image_8 : decode cX12_image 8 = .ok (.sipush 772, 3) := by decide +kernel
theorem dX12_image_11 : decode cX12_image 11 = .ok (.if_icmp .ge 21, 3) := by decide +kernel
theorem dX12_image_14 : decode cX12_image 14 = .ok (.aload_n 0, 1) := by decide +kernel
theorem dX12_image_15 : decode cX12_image 15 = .ok (.getfield 13, 3) := by decide +kernel
theorem dX12_image_18 : decode cX12_image 18 = .ok (.iload_n 1, 1) := by decide +kernel
theorem dX12_image_19 : decode cX12_image 19 = .ok (.aload_n 0, 1) := by decide +kernel
theorem dX12_image_20 : decode cX12_image 20 = .ok (.getfield 7, 3) := by decide +kernel
theorem dX12_image_23 : decode cX12_image 23 = .ok (.iload_n 1, 1) := by decide +kernel
theorem dX12_image_24 : decode cX12_image 24 = .ok (.iaload, 1) := by decide +kernel
theorem dX12_image_25 : decode cX12_image 25 = .ok (.iastore, 1) := by decide +kernel
theorem dX12_image_26 : decode cX12_image 26 = .ok (.iinc 1 1, 3) := by decide +kernel
theorem dX12_image_29 : decode cX12_image 29 = .ok (.goto (-22), 3) := by decide +kernel
theorem dX12_image_32 : decode cX12_image 32 = .ok (.aload_n 0, 1) := by decide +kernel
theorem dX12_image_33 : decode cX12_image 33 = .ok (.iconst 1, 1) := by decide +kernel
theorem dX12_image_34 : decode cX12_image 34 = .ok (.putfield 422, 3) := by decide +kernel
theorem dX12_image_37 : decode cX12_image 37 = .ok (.return_, 1) := by decide +kernel
theorem dX12_back_0 : decode cX12_back 0 = .ok (.aload_n 0, 1) := by decide +kernel
theorem dX12_back_1 : decode cX12_back 1 = .ok (.iconst 0, 1) := by decide +kernel
theorem dX12_back_2 : decode cX12_back 2 = .ok (.putfield 58, 3) := by decide +kernel
theorem dX12_back_5 : decode cX12_back 5 = .ok (.aload_n 0, 1) := by decide +kernel
theorem dX12_back_6 : decode cX12_back 6 = .ok (.getfield 422, 3) := by decide +kernel
theorem dX12_back_9 : decode cX12_back 9 = .ok (.ifCond .ne 5, 3) := by decide +kernel
theorem dX12_back_12 : decode cX12_back 12 = .ok (.iconst 0, 1) := by decide +kernel
theorem dX12_back_13 : decode cX12_back 13 = .ok (.ireturn, 1) := by decide +kernel
theorem dX12_back_14 : decode cX12_back 14 = .ok (.iconst 0, 1) := by decide +kernel
theorem dX12_back_15 : decode cX12_back 15 = .ok (.istore_n 1, 1) := by decide +kernel
theorem dX12_back_16 : decode cX12_back 16 = .ok (.iload_n 1, 1) := by decide +kernel
theorem dX12_back_17 : decode cX12_back 17 = .ok (.sipush 772, 3) := by decide +kernel
theorem dX12_back_20 : decode cX12_back 20 = .ok (.if_icmp .ge 21, 3) := by decide +kernel
theorem dX12_back_23 : decode cX12_back 23 = .ok (.aload_n 0, 1) := by decide +kernel
theorem dX12_back_24 : decode cX12_back 24 = .ok (.getfield 7, 3) := by decide +kernel
theorem dX12_back_27 : decode cX12_back 27 = .ok (.iload_n 1, 1) := by decide +kernel
theorem dX12_back_28 : decode cX12_back 28 = .ok (.aload_n 0, 1) := by decide +kernel
theorem dX12_back_29 : decode cX12_back 29 = .ok (.getfield 13, 3) := by decide +kernel
theorem dX12_back_32 : decode cX12_back 32 = .ok (.iload_n 1, 1) := by decide +kernel
theorem dX12_back_33 : decode cX12_back 33 = .ok (.iaload, 1) := by decide +kernel
theorem dX12_back_34 : decode cX12_back 34 = .ok (.iastore, 1) := by decide +kernel
theorem dX12_back_35 : decode cX12_back 35 = .ok (.iinc 1 1, 3) := by decide +kernel
theorem dX12_back_38 : decode cX12_back 38 = .ok (.goto (-22), 3) := by decide +kernel
theorem dX12_back_41 : decode cX12_back 41 = .ok (.aload_n 0, 1) := by decide +kernel
theorem dX12_back_42 : decode cX12_back 42 = .ok (.iconst 0, 1) := by decide +kernel
theorem dX12_back_43 : decode cX12_back 43 = .ok (.putfield 204, 3) := by decide +kernel
theorem dX12_back_46 : decode cX12_back 46 = .ok (.iconst 1, 1) := by decide +kernel
theorem dX12_back_47 : decode cX12_back 47 = .ok (.ireturn, 1) := by decide +kernel
theorem dX12_count_0 : decode cX12_count 0 = .ok (.aload_n 0, 1) := by decide +kernel
theorem dX12_count_1 : decode cX12_count 1 = .ok (.iconst 0, 1) := by decide +kernel
theorem dX12_count_2 : decode cX12_count 2 = .ok (.putfield 58, 3) := by decide +kernel
theorem dX12_count_5 : decode cX12_count 5 = .ok (.iload_n 1, 1) := by decide +kernel
theorem dX12_count_6 : decode cX12_count 6 = .ok (.ifCond .ne 10, 3) := by decide +kernel
theorem dX12_count_9 : decode cX12_count 9 = .ok (.aload_n 0, 1) := by decide +kernel
theorem dX12_count_10 : decode cX12_count 10 = .ok (.getfield 7, 3) := by decide +kernel
theorem dX12_count_13 : decode cX12_count 13 = .ok (.iconst 3, 1) := by decide +kernel
theorem dX12_count_14 : decode cX12_count 14 = .ok (.iaload, 1) := by decide +kernel
theorem dX12_count_15 : decode cX12_count 15 = .ok (.ireturn, 1) := by decide +kernel
theorem dX12_count_16 : decode cX12_count 16 = .ok (.iload_n 1, 1) := by decide +kernel
theorem dX12_count_17 : decode cX12_count 17 = .ok (.iconst 1, 1) := by decide +kernel
theorem dX12_count_18 : decode cX12_count 18 = .ok (.if_icmp .ne 10, 3) := by decide +kernel
theorem dX12_count_21 : decode cX12_count 21 = .ok (.aload_n 0, 1) := by decide +kernel
theorem dX12_count_22 : decode cX12_count 22 = .ok (.getfield 7, 3) := by decide +kernel
theorem dX12_count_25 : decode cX12_count 25 = .ok (.iconst 0, 1) := by decide +kernel
theorem dX12_count_26 : decode cX12_count 26 = .ok (.iaload, 1) := by decide +kernel
theorem dX12_count_27 : decode cX12_count 27 = .ok (.ireturn, 1) := by decide +kernel
theorem dX12_count_28 : decode cX12_count 28 = .ok (.iload_n 1, 1) := by decide +kernel
theorem dX12_count_29 : decode cX12_count 29 = .ok (.iconst 2, 1) := by decide +kernel
theorem dX12_count_30 : decode cX12_count 30 = .ok (.if_icmp .ne 10, 3) := by decide +kernel
theorem dX12_count_33 : decode cX12_count 33 = .ok (.aload_n 0, 1) := by decide +kernel
theorem dX12_count_34 : decode cX12_count 34 = .ok (.getfield 7, 3) := by decide +kernel
theorem dX12_count_37 : decode cX12_count 37 = .ok (.iconst 1, 1) := by decide +kernel
theorem dX12_count_38 : decode cX12_count 38 = .ok (.iaload, 1) := by decide +kernel
theorem dX12_count_39 : decode cX12_count 39 = .ok (.ireturn, 1) := by decide +kernel
theorem dX12_count_40 : decode cX12_count 40 = .ok (.iload_n 1, 1) := by decide +kernel
theorem dX12_count_41 : decode cX12_count 41 = .ok (.iconst 3, 1) := by decide +kernel
theorem dX12_count_42 : decode cX12_count 42 = .ok (.bipush 8, 2) := by decide +kernel
theorem dX12_count_44 : decode cX12_count 44 = .ok (.invokestatic 61, 3) := by decide +kernel
theorem dX12_count_47 : decode cX12_count 47 = .ok (.ifCond .eq 14, 3) := by decide +kernel
theorem dX12_count_50 : decode cX12_count 50 = .ok (.aload_n 0, 1) := by decide +kernel
theorem dX12_count_51 : decode cX12_count 51 = .ok (.getfield 7, 3) := by decide +kernel
theorem dX12_count_54 : decode cX12_count 54 = .ok (.iconst 4, 1) := by decide +kernel
theorem dX12_count_55 : decode cX12_count 55 = .ok (.iload_n 1, 1) := by decide +kernel
theorem dX12_count_56 : decode cX12_count 56 = .ok (.iadd, 1) := by decide +kernel
theorem dX12_count_57 : decode cX12_count 57 = .ok (.iconst 3, 1) := by decide +kernel
theorem dX12_count_58 : decode cX12_count 58 = .ok (.isub, 1) := by decide +kernel
theorem dX12_count_59 : decode cX12_count 59 = .ok (.iaload, 1) := by decide +kernel
theorem dX12_count_60 : decode cX12_count 60 = .ok (.ireturn, 1) := by decide +kernel
theorem dX12_count_61 : decode cX12_count 61 = .ok (.iload_n 1, 1) := by decide +kernel
theorem dX12_count_62 : decode cX12_count 62 = .ok (.bipush 10, 2) := by decide +kernel
theorem dX12_count_64 : decode cX12_count 64 = .ok (.if_icmp .ne 8, 3) := by decide +kernel
theorem dX12_count_67 : decode cX12_count 67 = .ok (.aload_n 0, 1) := by decide +kernel
theorem dX12_count_68 : decode cX12_count 68 = .ok (.invokevirtual 298, 3) := by decide +kernel
theorem dX12_count_71 : decode cX12_count 71 = .ok (.ireturn, 1) := by decide +kernel
theorem dX12_count_72 : decode cX12_count 72 = .ok (.iload_n 1, 1) := by decide +kernel
theorem dX12_count_73 : decode cX12_count 73 = .ok (.bipush 11, 2) := by decide +kernel
theorem dX12_count_75 : decode cX12_count 75 = .ok (.if_icmp .ne 11, 3) := by decide +kernel
theorem dX12_count_78 : decode cX12_count 78 = .ok (.aload_n 0, 1) := by decide +kernel
theorem dX12_count_79 : decode cX12_count 79 = .ok (.getfield 7, 3) := by decide +kernel
theorem dX12_count_82 : decode cX12_count 82 = .ok (.bipush 10, 2) := by decide +kernel
theorem dX12_count_84 : decode cX12_count 84 = .ok (.iaload, 1) := by decide +kernel
theorem dX12_count_85 : decode cX12_count 85 = .ok (.ireturn, 1) := by decide +kernel
theorem dX12_count_86 : decode cX12_count 86 = .ok (.iload_n 1, 1) := by decide +kernel
theorem dX12_count_87 : decode cX12_count 87 = .ok (.bipush 12, 2) := by decide +kernel
theorem dX12_count_89 : decode cX12_count 89 = .ok (.if_icmp .ne 8, 3) := by decide +kernel
theorem dX12_count_92 : decode cX12_count 92 = .ok (.aload_n 0, 1) := by decide +kernel
theorem dX12_count_93 : decode cX12_count 93 = .ok (.getfield 204, 3) := by decide +kernel
theorem dX12_count_96 : decode cX12_count 96 = .ok (.ireturn, 1) := by decide +kernel
theorem dX12_count_97 : decode cX12_count 97 = .ok (.iconst 0, 1) := by decide +kernel
theorem dX12_count_98 : decode cX12_count 98 = .ok (.istore_n 2, 1) := by decide +kernel
theorem dX12_count_99 : decode cX12_count 99 = .ok (.iconst 0, 1) := by decide +kernel
theorem dX12_count_100 : decode cX12_count 100 = .ok (.istore_n 3, 1) := by decide +kernel
theorem dX12_count_101 : decode cX12_count 101 = .ok (.iload_n 3, 1) := by decide +kernel
theorem dX12_count_102 : decode cX12_count 102 = .ok (.iconst 4, 1) := by decide +kernel
theorem dX12_count_103 : decode cX12_count 103 = .ok (.if_icmp .ge 21, 3) := by decide +kernel
theorem dX12_count_106 : decode cX12_count 106 = .ok (.iload_n 2, 1) := by decide +kernel
theorem dX12_count_107 : decode cX12_count 107 = .ok (.aload_n 0, 1) := by decide +kernel
theorem dX12_count_108 : decode cX12_count 108 = .ok (.getfield 7, 3) := by decide +kernel
theorem dX12_count_111 : decode cX12_count 111 = .ok (.bipush 12, 2) := by decide +kernel
theorem dX12_count_113 : decode cX12_count 113 = .ok (.iload_n 3, 1) := by decide +kernel
theorem dX12_count_114 : decode cX12_count 114 = .ok (.iadd, 1) := by decide +kernel
theorem dX12_count_115 : decode cX12_count 115 = .ok (.iaload, 1) := by decide +kernel
theorem dX12_count_116 : decode cX12_count 116 = .ok (.iadd, 1) := by decide +kernel
theorem dX12_count_117 : decode cX12_count 117 = .ok (.istore_n 2, 1) := by decide +kernel
theorem dX12_count_118 : decode cX12_count 118 = .ok (.iinc 3 1, 3) := by decide +kernel
theorem dX12_count_121 : decode cX12_count 121 = .ok (.goto (-20), 3) := by decide +kernel
theorem dX12_count_124 : decode cX12_count 124 = .ok (.iload_n 1, 1) := by decide +kernel
theorem dX12_count_125 : decode cX12_count 125 = .ok (.bipush 9, 2) := by decide +kernel
theorem dX12_count_127 : decode cX12_count 127 = .ok (.if_icmp .ne 7, 3) := by decide +kernel
theorem dX12_count_130 : decode cX12_count 130 = .ok (.iload_n 2, 1) := by decide +kernel
theorem dX12_count_131 : decode cX12_count 131 = .ok (.goto 4, 3) := by decide +kernel
theorem dX12_count_134 : decode cX12_count 134 = .ok (.iconst (-1), 1) := by decide +kernel
theorem dX12_count_135 : decode cX12_count 135 = .ok (.ireturn, 1) := by decide +kernel

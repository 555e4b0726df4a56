theorem dX0_init_0 : decode cX0_init 0 = .ok (.aload_n 0, 1) := by decide +kernel
theorem dX0_init_1 : decode cX0_init 1 = .ok (.invokespecial 1, 3) := by decide +kernel
theorem dX0_init_4 : decode cX0_init 4 = .ok (.aload_n 0, 1) := by decide +kernel
theorem dX0_init_5 : decode cX0_init 5 = .ok (.iconst 4, 1) := by decide +kernel
theorem dX0_init_6 : decode cX0_init 6 = .ok (.anewarray 7, 3) := by decide +kernel
theorem dX0_init_9 : decode cX0_init 9 = .ok (.dup, 1) := by decide +kernel
theorem dX0_init_10 : decode cX0_init 10 = .ok (.iconst 0, 1) := by decide +kernel
theorem dX0_init_11 : decode cX0_init 11 = .ok (.new 7, 3) := by decide +kernel
theorem dX0_init_14 : decode cX0_init 14 = .ok (.dup, 1) := by decide +kernel
theorem dX0_init_15 : decode cX0_init 15 = .ok (.invokespecial 9, 3) := by decide +kernel
theorem dX0_init_18 : decode cX0_init 18 = .ok (.aastore, 1) := by decide +kernel
theorem dX0_init_19 : decode cX0_init 19 = .ok (.dup, 1) := by decide +kernel
theorem dX0_init_20 : decode cX0_init 20 = .ok (.iconst 1, 1) := by decide +kernel
theorem dX0_init_21 : decode cX0_init 21 = .ok (.new 7, 3) := by decide +kernel
theorem dX0_init_24 : decode cX0_init 24 = .ok (.dup, 1) := by decide +kernel
theorem dX0_init_25 : decode cX0_init 25 = .ok (.invokespecial 9, 3) := by decide +kernel
theorem dX0_init_28 : decode cX0_init 28 = .ok (.aastore, 1) := by decide +kernel
theorem dX0_init_29 : decode cX0_init 29 = .ok (.dup, 1) := by decide +kernel
theorem dX0_init_30 : decode cX0_init 30 = .ok (.iconst 2, 1) := by decide +kernel
theorem dX0_init_31 : decode cX0_init 31 = .ok (.new 7, 3) := by decide +kernel
theorem dX0_init_34 : decode cX0_init 34 = .ok (.dup, 1) := by decide +kernel
theorem dX0_init_35 : decode cX0_init 35 = .ok (.invokespecial 9, 3) := by decide +kernel
theorem dX0_init_38 : decode cX0_init 38 = .ok (.aastore, 1) := by decide +kernel
theorem dX0_init_39 : decode cX0_init 39 = .ok (.dup, 1) := by decide +kernel
theorem dX0_init_40 : decode cX0_init 40 = .ok (.iconst 3, 1) := by decide +kernel
theorem dX0_init_41 : decode cX0_init 41 = .ok (.new 7, 3) := by decide +kernel
theorem dX0_init_44 : decode cX0_init 44 = .ok (.dup, 1) := by decide +kernel
theorem dX0_init_45 : decode cX0_init 45 = .ok (.invokespecial 9, 3) := by decide +kernel
theorem dX0_init_48 : decode cX0_init 48 = .ok (.aastore, 1) := by decide +kernel
theorem dX0_init_49 : decode cX0_init 49 = .ok (.putfield 10, 3) := by decide +kernel
theorem dX0_init_52 : decode cX0_init 52 = .ok (.aload_n 0, 1) := by decide +kernel
theorem dX0_init_53 : decode cX0_init 53 = .ok (.iconst 0, 1) := by decide +kernel
theorem dX0_init_54 : decode cX0_init 54 = .ok (.putfield 16, 3) := by decide +kernel
theorem dX0_init_57 : decode cX0_init 57 = .ok (.aload_n 0, 1) := by decide +kernel
theorem dX0_init_58 : decode cX0_init 58 = .ok (.iconst 0, 1) := by decide +kernel
theorem dX0_init_59 : decode cX0_init 59 = .ok (.putfield 20, 3) := by decide +kernel
theorem dX0_init_62 : decode cX0_init 62 = .ok (.return_, 1) := by decide +kernel
theorem dX0_keep_0 : decode cX0_keep 0 = .ok (.aload_n 0, 1) := by decide +kernel
theorem dX0_keep_1 : decode cX0_keep 1 = .ok (.getfield 10, 3) := by decide +kernel
theorem dX0_keep_4 : decode cX0_keep 4 = .ok (.aload_n 0, 1) := by decide +kernel
theorem dX0_keep_5 : decode cX0_keep 5 = .ok (.getfield 16, 3) := by decide +kernel
theorem dX0_keep_8 : decode cX0_keep 8 = .ok (.aload_n 0, 1) := by decide +kernel
theorem dX0_keep_9 : decode cX0_keep 9 = .ok (.getfield 20, 3) := by decide +kernel
theorem dX0_keep_12 : decode cX0_keep 12 = .ok (.iadd, 1) := by decide +kernel
theorem dX0_keep_13 : decode cX0_keep 13 = .ok (.iconst 4, 1) := by decide +kernel
theorem dX0_keep_14 : decode cX0_keep 14 = .ok (.irem, 1) := by decide +kernel
theorem dX0_keep_15 : decode cX0_keep 15 = .ok (.aaload, 1) := by decide +kernel
theorem dX0_keep_16 : decode cX0_keep 16 = .ok (.aload_n 1, 1) := by decide +kernel
theorem dX0_keep_17 : decode cX0_keep 17 = .ok (.invokevirtual 23, 3) := by decide +kernel
theorem dX0_keep_20 : decode cX0_keep 20 = .ok (.aload_n 0, 1) := by decide +kernel
theorem dX0_keep_21 : decode cX0_keep 21 = .ok (.getfield 20, 3) := by decide +kernel
theorem dX0_keep_24 : decode cX0_keep 24 = .ok (.iconst 4, 1) := by decide +kernel
theorem dX0_keep_25 : decode cX0_keep 25 = .ok (.if_icmp .ge 16, 3) := by decide +kernel
theorem dX0_keep_28 : decode cX0_keep 28 = .ok (.aload_n 0, 1) := by decide +kernel
theorem dX0_keep_29 : decode cX0_keep 29 = .ok (.dup, 1) := by decide +kernel
theorem dX0_keep_30 : decode cX0_keep 30 = .ok (.getfield 20, 3) := by decide +kernel
theorem dX0_keep_33 : decode cX0_keep 33 = .ok (.iconst 1, 1) := by decide +kernel
theorem dX0_keep_34 : decode cX0_keep 34 = .ok (.iadd, 1) := by decide +kernel
theorem dX0_keep_35 : decode cX0_keep 35 = .ok (.putfield 20, 3) := by decide +kernel
theorem dX0_keep_38 : decode cX0_keep 38 = .ok (.goto 15, 3) := by decide +kernel
theorem dX0_keep_41 : decode cX0_keep 41 = .ok (.aload_n 0, 1) := by decide +kernel
theorem dX0_keep_42 : decode cX0_keep 42 = .ok (.aload_n 0, 1) := by decide +kernel
theorem dX0_keep_43 : decode cX0_keep 43 = .ok (.getfield 16, 3) := by decide +kernel
theorem dX0_keep_46 : decode cX0_keep 46 = .ok (.iconst 1, 1) := by decide +kernel
theorem dX0_keep_47 : decode cX0_keep 47 = .ok (.iadd, 1) := by decide +kernel
theorem dX0_keep_48 : decode cX0_keep 48 = .ok (.iconst 4, 1) := by decide +kernel
theorem dX0_keep_49 : decode cX0_keep 49 = .ok (.irem, 1) := by decide +kernel
theorem dX0_keep_50 : decode cX0_keep 50 = .ok (.putfield 16, 3) := by decide +kernel
theorem dX0_keep_53 : decode cX0_keep 53 = .ok (.return_, 1) := by decide +kernel
theorem dX0_takeBack_0 : decode cX0_takeBack 0 = .ok (.aload_n 0, 1) := by decide +kernel
theorem dX0_takeBack_1 : decode cX0_takeBack 1 = .ok (.getfield 20, 3) := by decide +kernel
theorem dX0_takeBack_4 : decode cX0_takeBack 4 = .ok (.ifCond .le 33, 3) := by decide +kernel
theorem dX0_takeBack_7 : decode cX0_takeBack 7 = .ok (.aload_n 0, 1) := by decide +kernel
theorem dX0_takeBack_8 : decode cX0_takeBack 8 = .ok (.dup, 1) := by decide +kernel
theorem dX0_takeBack_9 : decode cX0_takeBack 9 = .ok (.getfield 20, 3) := by decide +kernel
theorem dX0_takeBack_12 : decode cX0_takeBack 12 = .ok (.iconst 1, 1) := by decide +kernel
theorem dX0_takeBack_13 : decode cX0_takeBack 13 = .ok (.isub, 1) := by decide +kernel
theorem dX0_takeBack_14 : decode cX0_takeBack 14 = .ok (.putfield 20, 3) := by decide +kernel
theorem dX0_takeBack_17 : decode cX0_takeBack 17 = .ok (.aload_n 1, 1) := by decide +kernel
theorem dX0_takeBack_18 : decode cX0_takeBack 18 = .ok (.aload_n 0, 1) := by decide +kernel
theorem dX0_takeBack_19 : decode cX0_takeBack 19 = .ok (.getfield 10, 3) := by decide +kernel
theorem dX0_takeBack_22 : decode cX0_takeBack 22 = .ok (.aload_n 0, 1) := by decide +kernel
theorem dX0_takeBack_23 : decode cX0_takeBack 23 = .ok (.getfield 16, 3) := by decide +kernel
theorem dX0_takeBack_26 : decode cX0_takeBack 26 = .ok (.aload_n 0, 1) := by decide +kernel
theorem dX0_takeBack_27 : decode cX0_takeBack 27 = .ok (.getfield 20, 3) := by decide +kernel
theorem dX0_takeBack_30 : decode cX0_takeBack 30 = .ok (.iadd, 1) := by decide +kernel
theorem dX0_takeBack_31 : decode cX0_takeBack 31 = .ok (.iconst 4, 1) := by decide +kernel
theorem dX0_takeBack_32 : decode cX0_takeBack 32 = .ok (.irem, 1) := by decide +kernel
theorem dX0_takeBack_33 : decode cX0_takeBack 33 = .ok (.aaload, 1) := by decide +kernel
theorem dX0_takeBack_34 : decode cX0_takeBack 34 = .ok (.invokevirtual 23, 3) := by decide +kernel
theorem dX0_takeBack_37 : decode cX0_takeBack 37 = .ok (.return_, 1) := by decide +kernel
theorem dX1_init_0 : decode cX1_init 0 = .ok (.aload_n 0, 1) := by decide +kernel
theorem dX1_init_1 : decode cX1_init 1 = .ok (.invokespecial 3, 3) := by decide +kernel
theorem dX1_init_4 : decode cX1_init 4 = .ok (.aload_n 0, 1) := by decide +kernel
theorem dX1_init_5 : decode cX1_init 5 = .ok (.iconst 4, 1) := by decide +kernel
theorem dX1_init_6 : decode cX1_init 6 = .ok (.newarray .int, 2) := by decide +kernel
theorem dX1_init_8 : decode cX1_init 8 = .ok (.dup, 1) := by decide +kernel
theorem dX1_init_9 : decode cX1_init 9 = .ok (.iconst 0, 1) := by decide +kernel
theorem dX1_init_10 : decode cX1_init 10 = .ok (.iconst 2, 1) := by decide +kernel
theorem dX1_init_11 : decode cX1_init 11 = .ok (.iastore, 1) := by decide +kernel
theorem dX1_init_12 : decode cX1_init 12 = .ok (.dup, 1) := by decide +kernel
theorem dX1_init_13 : decode cX1_init 13 = .ok (.iconst 1, 1) := by decide +kernel
theorem dX1_init_14 : decode cX1_init 14 = .ok (.bipush 10, 2) := by decide +kernel
theorem dX1_init_16 : decode cX1_init 16 = .ok (.iastore, 1) := by decide +kernel
theorem dX1_init_17 : decode cX1_init 17 = .ok (.dup, 1) := by decide +kernel
theorem dX1_init_18 : decode cX1_init 18 = .ok (.iconst 2, 1) := by decide +kernel
theorem dX1_init_19 : decode cX1_init 19 = .ok (.iconst 0, 1) := by decide +kernel
theorem dX1_init_20 : decode cX1_init 20 = .ok (.iastore, 1) := by decide +kernel
theorem dX1_init_21 : decode cX1_init 21 = .ok (.dup, 1) := by decide +kernel
theorem dX1_init_22 : decode cX1_init 22 = .ok (.iconst 3, 1) := by decide +kernel
theorem dX1_init_23 : decode cX1_init 23 = .ok (.bipush 50, 2) := by decide +kernel
theorem dX1_init_25 : decode cX1_init 25 = .ok (.iastore, 1) := by decide +kernel
theorem dX1_init_26 : decode cX1_init 26 = .ok (.putfield 9, 3) := by decide +kernel
theorem dX1_init_29 : decode cX1_init 29 = .ok (.aload_n 0, 1) := by decide +kernel
theorem dX1_init_30 : decode cX1_init 30 = .ok (.iconst 4, 1) := by decide +kernel
theorem dX1_init_31 : decode cX1_init 31 = .ok (.newarray .int, 2) := by decide +kernel
theorem dX1_init_33 : decode cX1_init 33 = .ok (.dup, 1) := by decide +kernel
theorem dX1_init_34 : decode cX1_init 34 = .ok (.iconst 0, 1) := by decide +kernel
theorem dX1_init_35 : decode cX1_init 35 = .ok (.iconst 0, 1) := by decide +kernel
theorem dX1_init_36 : decode cX1_init 36 = .ok (.iastore, 1) := by decide +kernel
theorem dX1_init_37 : decode cX1_init 37 = .ok (.dup, 1) := by decide +kernel
theorem dX1_init_38 : decode cX1_init 38 = .ok (.iconst 1, 1) := by decide +kernel
theorem dX1_init_39 : decode cX1_init 39 = .ok (.iconst 1, 1) := by decide +kernel
theorem dX1_init_40 : decode cX1_init 40 = .ok (.iastore, 1) := by decide +kernel
theorem dX1_init_41 : decode cX1_init 41 = .ok (.dup, 1) := by decide +kernel
theorem dX1_init_42 : decode cX1_init 42 = .ok (.iconst 2, 1) := by decide +kernel
theorem dX1_init_43 : decode cX1_init 43 = .ok (.iconst 2, 1) := by decide +kernel
theorem dX1_init_44 : decode cX1_init 44 = .ok (.iastore, 1) := by decide +kernel
theorem dX1_init_45 : decode cX1_init 45 = .ok (.dup, 1) := by decide +kernel
theorem dX1_init_46 : decode cX1_init 46 = .ok (.iconst 3, 1) := by decide +kernel
theorem dX1_init_47 : decode cX1_init 47 = .ok (.iconst 0, 1) := by decide +kernel
theorem dX1_init_48 : decode cX1_init 48 = .ok (.iastore, 1) := by decide +kernel
theorem dX1_init_49 : decode cX1_init 49 = .ok (.putfield 15, 3) := by decide +kernel
theorem dX1_init_52 : decode cX1_init 52 = .ok (.aload_n 0, 1) := by decide +kernel
theorem dX1_init_53 : decode cX1_init 53 = .ok (.iconst 4, 1) := by decide +kernel
theorem dX1_init_54 : decode cX1_init 54 = .ok (.newarray .int, 2) := by decide +kernel
theorem dX1_init_56 : decode cX1_init 56 = .ok (.dup, 1) := by decide +kernel
theorem dX1_init_57 : decode cX1_init 57 = .ok (.iconst 0, 1) := by decide +kernel
theorem dX1_init_58 : decode cX1_init 58 = .ok (.sipush 2000, 3) := by decide +kernel
theorem dX1_init_61 : decode cX1_init 61 = .ok (.iastore, 1) := by decide +kernel
theorem dX1_init_62 : decode cX1_init 62 = .ok (.dup, 1) := by decide +kernel
theorem dX1_init_63 : decode cX1_init 63 = .ok (.iconst 1, 1) := by decide +kernel
theorem dX1_init_64 : decode cX1_init 64 = .ok (.sipush 2000, 3) := by decide +kernel
theorem dX1_init_67 : decode cX1_init 67 = .ok (.iastore, 1) := by decide +kernel
theorem dX1_init_68 : decode cX1_init 68 = .ok (.dup, 1) := by decide +kernel
theorem dX1_init_69 : decode cX1_init 69 = .ok (.iconst 2, 1) := by decide +kernel
theorem dX1_init_70 : decode cX1_init 70 = .ok (.sipush 2000, 3) := by decide +kernel
theorem dX1_init_73 : decode cX1_init 73 = .ok (.iastore, 1) := by decide +kernel
theorem dX1_init_74 : decode cX1_init 74 = .ok (.dup, 1) := by decide +kernel
theorem dX1_init_75 : decode cX1_init 75 = .ok (.iconst 3, 1) := by decide +kernel
theorem dX1_init_76 : decode cX1_init 76 = .ok (.sipush 2000, 3) := by decide +kernel
theorem dX1_init_79 : decode cX1_init 79 = .ok (.iastore, 1) := by decide +kernel
theorem dX1_init_80 : decode cX1_init 80 = .ok (.putfield 18, 3) := by decide +kernel
theorem dX1_init_83 : decode cX1_init 83 = .ok (.aload_n 0, 1) := by decide +kernel
theorem dX1_init_84 : decode cX1_init 84 = .ok (.iconst 4, 1) := by decide +kernel
theorem dX1_init_85 : decode cX1_init 85 = .ok (.newarray .int, 2) := by decide +kernel
theorem dX1_init_87 : decode cX1_init 87 = .ok (.dup, 1) := by decide +kernel
theorem dX1_init_88 : decode cX1_init 88 = .ok (.iconst 0, 1) := by decide +kernel
theorem dX1_init_89 : decode cX1_init 89 = .ok (.sipush 2000, 3) := by decide +kernel
theorem dX1_init_92 : decode cX1_init 92 = .ok (.iastore, 1) := by decide +kernel
theorem dX1_init_93 : decode cX1_init 93 = .ok (.dup, 1) := by decide +kernel
theorem dX1_init_94 : decode cX1_init 94 = .ok (.iconst 1, 1) := by decide +kernel
theorem dX1_init_95 : decode cX1_init 95 = .ok (.sipush 2000, 3) := by decide +kernel
theorem dX1_init_98 : decode cX1_init 98 = .ok (.iastore, 1) := by decide +kernel
theorem dX1_init_99 : decode cX1_init 99 = .ok (.dup, 1) := by decide +kernel
theorem dX1_init_100 : decode cX1_init 100 = .ok (.iconst 2, 1) := by decide +kernel
theorem dX1_init_101 : decode cX1_init 101 = .ok (.sipush 2000, 3) := by decide +kernel
theorem dX1_init_104 : decode cX1_init 104 = .ok (.iastore, 1) := by decide +kernel
theorem dX1_init_105 : decode cX1_init 105 = .ok (.dup, 1) := by decide +kernel
theorem dX1_init_106 : decode cX1_init 106 = .ok (.iconst 3, 1) := by decide +kernel
theorem dX1_init_107 : decode cX1_init 107 = .ok (.sipush 2000, 3) := by decide +kernel
theorem dX1_init_110 : decode cX1_init 110 = .ok (.iastore, 1) := by decide +kernel
theorem dX1_init_111 : decode cX1_init 111 = .ok (.putfield 21, 3) := by decide +kernel
theorem dX1_init_114 : decode cX1_init 114 = .ok (.aload_n 0, 1) := by decide +kernel
theorem dX1_init_115 : decode cX1_init 115 = .ok (.iconst 4, 1) := by decide +kernel
theorem dX1_init_116 : decode cX1_init 116 = .ok (.newarray .int, 2) := by decide +kernel
theorem dX1_init_118 : decode cX1_init 118 = .ok (.dup, 1) := by decide +kernel
theorem dX1_init_119 : decode cX1_init 119 = .ok (.iconst 0, 1) := by decide +kernel
theorem dX1_init_120 : decode cX1_init 120 = .ok (.sipush 4000, 3) := by decide +kernel
theorem dX1_init_123 : decode cX1_init 123 = .ok (.iastore, 1) := by decide +kernel
theorem dX1_init_124 : decode cX1_init 124 = .ok (.dup, 1) := by decide +kernel
theorem dX1_init_125 : decode cX1_init 125 = .ok (.iconst 1, 1) := by decide +kernel
theorem dX1_init_126 : decode cX1_init 126 = .ok (.sipush 4000, 3) := by decide +kernel
theorem dX1_init_129 : decode cX1_init 129 = .ok (.iastore, 1) := by decide +kernel
theorem dX1_init_130 : decode cX1_init 130 = .ok (.dup, 1) := by decide +kernel
theorem dX1_init_131 : decode cX1_init 131 = .ok (.iconst 2, 1) := by decide +kernel
theorem dX1_init_132 : decode cX1_init 132 = .ok (.sipush 4000, 3) := by decide +kernel
theorem dX1_init_135 : decode cX1_init 135 = .ok (.iastore, 1) := by decide +kernel
theorem dX1_init_136 : decode cX1_init 136 = .ok (.dup, 1) := by decide +kernel
theorem dX1_init_137 : decode cX1_init 137 = .ok (.iconst 3, 1) := by decide +kernel
theorem dX1_init_138 : decode cX1_init 138 = .ok (.sipush 4000, 3) := by decide +kernel
theorem dX1_init_141 : decode cX1_init 141 = .ok (.iastore, 1) := by decide +kernel
theorem dX1_init_142 : decode cX1_init 142 = .ok (.putfield 24, 3) := by decide +kernel
theorem dX1_init_145 : decode cX1_init 145 = .ok (.aload_n 0, 1) := by decide +kernel
theorem dX1_init_146 : decode cX1_init 146 = .ok (.iconst 2, 1) := by decide +kernel
theorem dX1_init_147 : decode cX1_init 147 = .ok (.newarray .int, 2) := by decide +kernel
theorem dX1_init_149 : decode cX1_init 149 = .ok (.dup, 1) := by decide +kernel
theorem dX1_init_150 : decode cX1_init 150 = .ok (.iconst 0, 1) := by decide +kernel
theorem dX1_init_151 : decode cX1_init 151 = .ok (.iconst 0, 1) := by decide +kernel
theorem dX1_init_152 : decode cX1_init 152 = .ok (.iastore, 1) := by decide +kernel
theorem dX1_init_153 : decode cX1_init 153 = .ok (.dup, 1) := by decide +kernel
theorem dX1_init_154 : decode cX1_init 154 = .ok (.iconst 1, 1) := by decide +kernel
theorem dX1_init_155 : decode cX1_init 155 = .ok (.iconst 1, 1) := by decide +kernel
theorem dX1_init_156 : decode cX1_init 156 = .ok (.iastore, 1) := by decide +kernel
theorem dX1_init_157 : decode cX1_init 157 = .ok (.putfield 27, 3) := by decide +kernel
theorem dX1_init_160 : decode cX1_init 160 = .ok (.aload_n 0, 1) := by decide +kernel
theorem dX1_init_161 : decode cX1_init 161 = .ok (.iconst 2, 1) := by decide +kernel
theorem dX1_init_162 : decode cX1_init 162 = .ok (.newarray .int, 2) := by decide +kernel
theorem dX1_init_164 : decode cX1_init 164 = .ok (.dup, 1) := by decide +kernel
theorem dX1_init_165 : decode cX1_init 165 = .ok (.iconst 0, 1) := by decide +kernel
theorem dX1_init_166 : decode cX1_init 166 = .ok (.iconst 0, 1) := by decide +kernel
theorem dX1_init_167 : decode cX1_init 167 = .ok (.iastore, 1) := by decide +kernel
theorem dX1_init_168 : decode cX1_init 168 = .ok (.dup, 1) := by decide +kernel
theorem dX1_init_169 : decode cX1_init 169 = .ok (.iconst 1, 1) := by decide +kernel
theorem dX1_init_170 : decode cX1_init 170 = .ok (.iconst 0, 1) := by decide +kernel
theorem dX1_init_171 : decode cX1_init 171 = .ok (.iastore, 1) := by decide +kernel
theorem dX1_init_172 : decode cX1_init 172 = .ok (.putfield 30, 3) := by decide +kernel
theorem dX1_init_175 : decode cX1_init 175 = .ok (.aload_n 0, 1) := by decide +kernel
theorem dX1_init_176 : decode cX1_init 176 = .ok (.iconst 2, 1) := by decide +kernel
theorem dX1_init_177 : decode cX1_init 177 = .ok (.newarray .int, 2) := by decide +kernel
theorem dX1_init_179 : decode cX1_init 179 = .ok (.dup, 1) := by decide +kernel
theorem dX1_init_180 : decode cX1_init 180 = .ok (.iconst 0, 1) := by decide +kernel
theorem dX1_init_181 : decode cX1_init 181 = .ok (.iconst 0, 1) := by decide +kernel
theorem dX1_init_182 : decode cX1_init 182 = .ok (.iastore, 1) := by decide +kernel
theorem dX1_init_183 : decode cX1_init 183 = .ok (.dup, 1) := by decide +kernel
theorem dX1_init_184 : decode cX1_init 184 = .ok (.iconst 1, 1) := by decide +kernel
theorem dX1_init_185 : decode cX1_init 185 = .ok (.iconst 0, 1) := by decide +kernel
theorem dX1_init_186 : decode cX1_init 186 = .ok (.iastore, 1) := by decide +kernel
theorem dX1_init_187 : decode cX1_init 187 = .ok (.putfield 33, 3) := by decide +kernel
theorem dX1_init_190 : decode cX1_init 190 = .ok (.aload_n 0, 1) := by decide +kernel
theorem dX1_init_191 : decode cX1_init 191 = .ok (.iconst 2, 1) := by decide +kernel
theorem dX1_init_192 : decode cX1_init 192 = .ok (.newarray .int, 2) := by decide +kernel
theorem dX1_init_194 : decode cX1_init 194 = .ok (.dup, 1) := by decide +kernel
theorem dX1_init_195 : decode cX1_init 195 = .ok (.iconst 0, 1) := by decide +kernel
theorem dX1_init_196 : decode cX1_init 196 = .ok (.iconst 0, 1) := by decide +kernel
theorem dX1_init_197 : decode cX1_init 197 = .ok (.iastore, 1) := by decide +kernel
theorem dX1_init_198 : decode cX1_init 198 = .ok (.dup, 1) := by decide +kernel
theorem dX1_init_199 : decode cX1_init 199 = .ok (.iconst 1, 1) := by decide +kernel
theorem dX1_init_200 : decode cX1_init 200 = .ok (.iconst 0, 1) := by decide +kernel
theorem dX1_init_201 : decode cX1_init 201 = .ok (.iastore, 1) := by decide +kernel
theorem dX1_init_202 : decode cX1_init 202 = .ok (.putfield 36, 3) := by decide +kernel
theorem dX1_init_205 : decode cX1_init 205 = .ok (.aload_n 0, 1) := by decide +kernel
theorem dX1_init_206 : decode cX1_init 206 = .ok (.iconst 2, 1) := by decide +kernel
theorem dX1_init_207 : decode cX1_init 207 = .ok (.newarray .int, 2) := by decide +kernel
theorem dX1_init_209 : decode cX1_init 209 = .ok (.dup, 1) := by decide +kernel
theorem dX1_init_210 : decode cX1_init 210 = .ok (.iconst 0, 1) := by decide +kernel
theorem dX1_init_211 : decode cX1_init 211 = .ok (.iconst 0, 1) := by decide +kernel
theorem dX1_init_212 : decode cX1_init 212 = .ok (.iastore, 1) := by decide +kernel
theorem dX1_init_213 : decode cX1_init 213 = .ok (.dup, 1) := by decide +kernel
theorem dX1_init_214 : decode cX1_init 214 = .ok (.iconst 1, 1) := by decide +kernel
theorem dX1_init_215 : decode cX1_init 215 = .ok (.iconst 0, 1) := by decide +kernel
theorem dX1_init_216 : decode cX1_init 216 = .ok (.iastore, 1) := by decide +kernel
theorem dX1_init_217 : decode cX1_init 217 = .ok (.putfield 39, 3) := by decide +kernel
theorem dX1_init_220 : decode cX1_init 220 = .ok (.aload_n 0, 1) := by decide +kernel
theorem dX1_init_221 : decode cX1_init 221 = .ok (.iconst 2, 1) := by decide +kernel
theorem dX1_init_222 : decode cX1_init 222 = .ok (.newarray .int, 2) := by decide +kernel
theorem dX1_init_224 : decode cX1_init 224 = .ok (.dup, 1) := by decide +kernel
theorem dX1_init_225 : decode cX1_init 225 = .ok (.iconst 0, 1) := by decide +kernel
theorem dX1_init_226 : decode cX1_init 226 = .ok (.bipush (-4), 2) := by decide +kernel
theorem dX1_init_228 : decode cX1_init 228 = .ok (.iastore, 1) := by decide +kernel
theorem dX1_init_229 : decode cX1_init 229 = .ok (.dup, 1) := by decide +kernel
theorem dX1_init_230 : decode cX1_init 230 = .ok (.iconst 1, 1) := by decide +kernel
theorem dX1_init_231 : decode cX1_init 231 = .ok (.bipush (-4), 2) := by decide +kernel
theorem dX1_init_233 : decode cX1_init 233 = .ok (.iastore, 1) := by decide +kernel
theorem dX1_init_234 : decode cX1_init 234 = .ok (.putfield 42, 3) := by decide +kernel
theorem dX1_init_237 : decode cX1_init 237 = .ok (.aload_n 0, 1) := by decide +kernel
theorem dX1_init_238 : decode cX1_init 238 = .ok (.iconst 0, 1) := by decide +kernel
theorem dX1_init_239 : decode cX1_init 239 = .ok (.putfield 45, 3) := by decide +kernel
theorem dX1_init_242 : decode cX1_init 242 = .ok (.aload_n 0, 1) := by decide +kernel
theorem dX1_init_243 : decode cX1_init 243 = .ok (.iconst 0, 1) := by decide +kernel
theorem dX1_init_244 : decode cX1_init 244 = .ok (.putfield 49, 3) := by decide +kernel
theorem dX1_init_247 : decode cX1_init 247 = .ok (.aload_n 0, 1) := by decide +kernel
theorem dX1_init_248 : decode cX1_init 248 = .ok (.iconst 0, 1) := by decide +kernel
theorem dX1_init_249 : decode cX1_init 249 = .ok (.putfield 52, 3) := by decide +kernel
theorem dX1_init_252 : decode cX1_init 252 = .ok (.return_, 1) := by decide +kernel
theorem dX1_becomeLike_0 : decode cX1_becomeLike 0 = .ok (.aload_n 1, 1) := by decide +kernel
theorem dX1_becomeLike_1 : decode cX1_becomeLike 1 = .ok (.getfield 9, 3) := by decide +kernel
theorem dX1_becomeLike_4 : decode cX1_becomeLike 4 = .ok (.iconst 0, 1) := by decide +kernel
theorem dX1_becomeLike_5 : decode cX1_becomeLike 5 = .ok (.aload_n 0, 1) := by decide +kernel
theorem dX1_becomeLike_6 : decode cX1_becomeLike 6 = .ok (.getfield 9, 3) := by decide +kernel
theorem dX1_becomeLike_9 : decode cX1_becomeLike 9 = .ok (.iconst 0, 1) := by decide +kernel
theorem dX1_becomeLike_10 : decode cX1_becomeLike 10 = .ok (.iconst 4, 1) := by decide +kernel
theorem dX1_becomeLike_11 : decode cX1_becomeLike 11 = .ok (.invokestatic 55, 3) := by decide +kernel
theorem dX1_becomeLike_14 : decode cX1_becomeLike 14 = .ok (.aload_n 1, 1) := by decide +kernel
theorem dX1_becomeLike_15 : decode cX1_becomeLike 15 = .ok (.getfield 15, 3) := by decide +kernel
theorem dX1_becomeLike_18 : decode cX1_becomeLike 18 = .ok (.iconst 0, 1) := by decide +kernel
theorem dX1_becomeLike_19 : decode cX1_becomeLike 19 = .ok (.aload_n 0, 1) := by decide +kernel
theorem dX1_becomeLike_20 : decode cX1_becomeLike 20 = .ok (.getfield 15, 3) := by decide +kernel
theorem dX1_becomeLike_23 : decode cX1_becomeLike 23 = .ok (.iconst 0, 1) := by decide +kernel
theorem dX1_becomeLike_24 : decode cX1_becomeLike 24 = .ok (.iconst 4, 1) := by decide +kernel
theorem dX1_becomeLike_25 : decode cX1_becomeLike 25 = .ok (.invokestatic 55, 3) := by decide +kernel
theorem dX1_becomeLike_28 : decode cX1_becomeLike 28 = .ok (.aload_n 1, 1) := by decide +kernel
theorem dX1_becomeLike_29 : decode cX1_becomeLike 29 = .ok (.getfield 18, 3) := by decide +kernel
theorem dX1_becomeLike_32 : decode cX1_becomeLike 32 = .ok (.iconst 0, 1) := by decide +kernel
theorem dX1_becomeLike_33 : decode cX1_becomeLike 33 = .ok (.aload_n 0, 1) := by decide +kernel
theorem dX1_becomeLike_34 : decode cX1_becomeLike 34 = .ok (.getfield 18, 3) := by decide +kernel
theorem dX1_becomeLike_37 : decode cX1_becomeLike 37 = .ok (.iconst 0, 1) := by decide +kernel
theorem dX1_becomeLike_38 : decode cX1_becomeLike 38 = .ok (.iconst 4, 1) := by decide +kernel
theorem dX1_becomeLike_39 : decode cX1_becomeLike 39 = .ok (.invokestatic 55, 3) := by decide +kernel
theorem dX1_becomeLike_42 : decode cX1_becomeLike 42 = .ok (.aload_n 1, 1) := by decide +kernel
theorem dX1_becomeLike_43 : decode cX1_becomeLike 43 = .ok (.getfield 21, 3) := by decide +kernel
theorem dX1_becomeLike_46 : decode cX1_becomeLike 46 = .ok (.iconst 0, 1) := by decide +kernel
theorem dX1_becomeLike_47 : decode cX1_becomeLike 47 = .ok (.aload_n 0, 1) := by decide +kernel
theorem dX1_becomeLike_48 : decode cX1_becomeLike 48 = .ok (.getfield 21, 3) := by decide +kernel
theorem dX1_becomeLike_51 : decode cX1_becomeLike 51 = .ok (.iconst 0, 1) := by decide +kernel
theorem dX1_becomeLike_52 : decode cX1_becomeLike 52 = .ok (.iconst 4, 1) := by decide +kernel
theorem dX1_becomeLike_53 : decode cX1_becomeLike 53 = .ok (.invokestatic 55, 3) := by decide +kernel
theorem dX1_becomeLike_56 : decode cX1_becomeLike 56 = .ok (.aload_n 1, 1) := by decide +kernel
theorem dX1_becomeLike_57 : decode cX1_becomeLike 57 = .ok (.getfield 24, 3) := by decide +kernel
theorem dX1_becomeLike_60 : decode cX1_becomeLike 60 = .ok (.iconst 0, 1) := by decide +kernel
theorem dX1_becomeLike_61 : decode cX1_becomeLike 61 = .ok (.aload_n 0, 1) := by decide +kernel
theorem dX1_becomeLike_62 : decode cX1_becomeLike 62 = .ok (.getfield 24, 3) := by decide +kernel
theorem dX1_becomeLike_65 : decode cX1_becomeLike 65 = .ok (.iconst 0, 1) := by decide +kernel
theorem dX1_becomeLike_66 : decode cX1_becomeLike 66 = .ok (.iconst 4, 1) := by decide +kernel
theorem dX1_becomeLike_67 : decode cX1_becomeLike 67 = .ok (.invokestatic 55, 3) := by decide +kernel
theorem dX1_becomeLike_70 : decode cX1_becomeLike 70 = .ok (.aload_n 1, 1) := by decide +kernel
theorem dX1_becomeLike_71 : decode cX1_becomeLike 71 = .ok (.getfield 27, 3) := by decide +kernel
theorem dX1_becomeLike_74 : decode cX1_becomeLike 74 = .ok (.iconst 0, 1) := by decide +kernel
theorem dX1_becomeLike_75 : decode cX1_becomeLike 75 = .ok (.aload_n 0, 1) := by decide +kernel
theorem dX1_becomeLike_76 : decode cX1_becomeLike 76 = .ok (.getfield 27, 3) := by decide +kernel
theorem dX1_becomeLike_79 : decode cX1_becomeLike 79 = .ok (.iconst 0, 1) := by decide +kernel
theorem dX1_becomeLike_80 : decode cX1_becomeLike 80 = .ok (.iconst 2, 1) := by decide +kernel
theorem dX1_becomeLike_81 : decode cX1_becomeLike 81 = .ok (.invokestatic 55, 3) := by decide +kernel
theorem dX1_becomeLike_84 : decode cX1_becomeLike 84 = .ok (.aload_n 1, 1) := by decide +kernel
theorem dX1_becomeLike_85 : decode cX1_becomeLike 85 = .ok (.getfield 30, 3) := by decide +kernel
theorem dX1_becomeLike_88 : decode cX1_becomeLike 88 = .ok (.iconst 0, 1) := by decide +kernel
theorem dX1_becomeLike_89 : decode cX1_becomeLike 89 = .ok (.aload_n 0, 1) := by decide +kernel
theorem dX1_becomeLike_90 : decode cX1_becomeLike 90 = .ok (.getfield 30, 3) := by decide +kernel
theorem dX1_becomeLike_93 : decode cX1_becomeLike 93 = .ok (.iconst 0, 1) := by decide +kernel
theorem dX1_becomeLike_94 : decode cX1_becomeLike 94 = .ok (.iconst 2, 1) := by decide +kernel
theorem dX1_becomeLike_95 : decode cX1_becomeLike 95 = .ok (.invokestatic 55, 3) := by decide +kernel
theorem dX1_becomeLike_98 : decode cX1_becomeLike 98 = .ok (.aload_n 1, 1) := by decide +kernel
theorem dX1_becomeLike_99 : decode cX1_becomeLike 99 = .ok (.getfield 33, 3) := by decide +kernel
theorem dX1_becomeLike_102 : decode cX1_becomeLike 102 = .ok (.iconst 0, 1) := by decide +kernel
theorem dX1_becomeLike_103 : decode cX1_becomeLike 103 = .ok (.aload_n 0, 1) := by decide +kernel
theorem dX1_becomeLike_104 : decode cX1_becomeLike 104 = .ok (.getfield 33, 3) := by decide +kernel
theorem dX1_becomeLike_107 : decode cX1_becomeLike 107 = .ok (.iconst 0, 1) := by decide +kernel
theorem dX1_becomeLike_108 : decode cX1_becomeLike 108 = .ok (.iconst 2, 1) := by decide +kernel
theorem dX1_becomeLike_109 : decode cX1_becomeLike 109 = .ok (.invokestatic 55, 3) := by decide +kernel
theorem dX1_becomeLike_112 : decode cX1_becomeLike 112 = .ok (.aload_n 1, 1) := by decide +kernel
theorem dX1_becomeLike_113 : decode cX1_becomeLike 113 = .ok (.getfield 36, 3) := by decide +kernel
theorem dX1_becomeLike_116 : decode cX1_becomeLike 116 = .ok (.iconst 0, 1) := by decide +kernel
theorem dX1_becomeLike_117 : decode cX1_becomeLike 117 = .ok (.aload_n 0, 1) := by decide +kernel
theorem dX1_becomeLike_118 : decode cX1_becomeLike 118 = .ok (.getfield 36, 3) := by decide +kernel
theorem dX1_becomeLike_121 : decode cX1_becomeLike 121 = .ok (.iconst 0, 1) := by decide +kernel
theorem dX1_becomeLike_122 : decode cX1_becomeLike 122 = .ok (.iconst 2, 1) := by decide +kernel
theorem dX1_becomeLike_123 : decode cX1_becomeLike 123 = .ok (.invokestatic 55, 3) := by decide +kernel
theorem dX1_becomeLike_126 : decode cX1_becomeLike 126 = .ok (.aload_n 1, 1) := by decide +kernel
theorem dX1_becomeLike_127 : decode cX1_becomeLike 127 = .ok (.getfield 39, 3) := by decide +kernel
theorem dX1_becomeLike_130 : decode cX1_becomeLike 130 = .ok (.iconst 0, 1) := by decide +kernel
theorem dX1_becomeLike_131 : decode cX1_becomeLike 131 = .ok (.aload_n 0, 1) := by decide +kernel
theorem dX1_becomeLike_132 : decode cX1_becomeLike 132 = .ok (.getfield 39, 3) := by decide +kernel
theorem dX1_becomeLike_135 : decode cX1_becomeLike 135 = .ok (.iconst 0, 1) := by decide +kernel
theorem dX1_becomeLike_136 : decode cX1_becomeLike 136 = .ok (.iconst 2, 1) := by decide +kernel
theorem dX1_becomeLike_137 : decode cX1_becomeLike 137 = .ok (.invokestatic 55, 3) := by decide +kernel
theorem dX1_becomeLike_140 : decode cX1_becomeLike 140 = .ok (.aload_n 1, 1) := by decide +kernel
theorem dX1_becomeLike_141 : decode cX1_becomeLike 141 = .ok (.getfield 42, 3) := by decide +kernel
theorem dX1_becomeLike_144 : decode cX1_becomeLike 144 = .ok (.iconst 0, 1) := by decide +kernel
theorem dX1_becomeLike_145 : decode cX1_becomeLike 145 = .ok (.aload_n 0, 1) := by decide +kernel
theorem dX1_becomeLike_146 : decode cX1_becomeLike 146 = .ok (.getfield 42, 3) := by decide +kernel
theorem dX1_becomeLike_149 : decode cX1_becomeLike 149 = .ok (.iconst 0, 1) := by decide +kernel
theorem dX1_becomeLike_150 : decode cX1_becomeLike 150 = .ok (.iconst 2, 1) := by decide +kernel
theorem dX1_becomeLike_151 : decode cX1_becomeLike 151 = .ok (.invokestatic 55, 3) := by decide +kernel
theorem dX1_becomeLike_154 : decode cX1_becomeLike 154 = .ok (.aload_n 0, 1) := by decide +kernel
theorem dX1_becomeLike_155 : decode cX1_becomeLike 155 = .ok (.aload_n 1, 1) := by decide +kernel
theorem dX1_becomeLike_156 : decode cX1_becomeLike 156 = .ok (.getfield 45, 3) := by decide +kernel
theorem dX1_becomeLike_159 : decode cX1_becomeLike 159 = .ok (.putfield 45, 3) := by decide +kernel
theorem dX1_becomeLike_162 : decode cX1_becomeLike 162 = .ok (.aload_n 0, 1) := by decide +kernel
theorem dX1_becomeLike_163 : decode cX1_becomeLike 163 = .ok (.aload_n 1, 1) := by decide +kernel
theorem dX1_becomeLike_164 : decode cX1_becomeLike 164 = .ok (.getfield 49, 3) := by decide +kernel
theorem dX1_becomeLike_167 : decode cX1_becomeLike 167 = .ok (.putfield 49, 3) := by decide +kernel
theorem dX1_becomeLike_170 : decode cX1_becomeLike 170 = .ok (.aload_n 0, 1) := by decide +kernel
theorem dX1_becomeLike_171 : decode cX1_becomeLike 171 = .ok (.aload_n 1, 1) := by decide +kernel
theorem dX1_becomeLike_172 : decode cX1_becomeLike 172 = .ok (.getfield 52, 3) := by decide +kernel
theorem dX1_becomeLike_175 : decode cX1_becomeLike 175 = .ok (.putfield 52, 3) := by decide +kernel
theorem dX1_becomeLike_178 : decode cX1_becomeLike 178 = .ok (.return_, 1) := by decide +kernel
theorem dX1_tonerFor_0 : decode cX1_tonerFor 0 = .ok (.iload_n 2, 1) := by decide +kernel
theorem dX1_tonerFor_1 : decode cX1_tonerFor 1 = .ok (.iload_n 3, 1) := by decide +kernel
theorem dX1_tonerFor_2 : decode cX1_tonerFor 2 = .ok (.imul, 1) := by decide +kernel
theorem dX1_tonerFor_3 : decode cX1_tonerFor 3 = .ok (.istore 4, 2) := by decide +kernel
theorem dX1_tonerFor_5 : decode cX1_tonerFor 5 = .ok (.aload_n 0, 1) := by decide +kernel
theorem dX1_tonerFor_6 : decode cX1_tonerFor 6 = .ok (.getfield 15, 3) := by decide +kernel
theorem dX1_tonerFor_9 : decode cX1_tonerFor 9 = .ok (.iload_n 1, 1) := by decide +kernel
theorem dX1_tonerFor_10 : decode cX1_tonerFor 10 = .ok (.iaload, 1) := by decide +kernel
theorem dX1_tonerFor_11 : decode cX1_tonerFor 11 = .ok (.lookupswitch 41 #[(1, 25), (2, 32)], 25) := by decide +kernel
theorem dX1_tonerFor_36 : decode cX1_tonerFor 36 = .ok (.iload 4, 2) := by decide +kernel
theorem dX1_tonerFor_38 : decode cX1_tonerFor 38 = .ok (.iconst 3, 1) := by decide +kernel
theorem dX1_tonerFor_39 : decode cX1_tonerFor 39 = .ok (.imul, 1) := by decide +kernel
theorem dX1_tonerFor_40 : decode cX1_tonerFor 40 = .ok (.iconst 4, 1) := by decide +kernel
theorem dX1_tonerFor_41 : decode cX1_tonerFor 41 = .ok (.idiv, 1) := by decide +kernel
theorem dX1_tonerFor_42 : decode cX1_tonerFor 42 = .ok (.ireturn, 1) := by decide +kernel
theorem dX1_tonerFor_43 : decode cX1_tonerFor 43 = .ok (.iload 4, 2) := by decide +kernel
theorem dX1_tonerFor_45 : decode cX1_tonerFor 45 = .ok (.bipush 9, 2) := by decide +kernel
theorem dX1_tonerFor_47 : decode cX1_tonerFor 47 = .ok (.imul, 1) := by decide +kernel
theorem dX1_tonerFor_48 : decode cX1_tonerFor 48 = .ok (.bipush 8, 2) := by decide +kernel
theorem dX1_tonerFor_50 : decode cX1_tonerFor 50 = .ok (.idiv, 1) := by decide +kernel
theorem dX1_tonerFor_51 : decode cX1_tonerFor 51 = .ok (.ireturn, 1) := by decide +kernel
theorem dX1_tonerFor_52 : decode cX1_tonerFor 52 = .ok (.iload 4, 2) := by decide +kernel
theorem dX1_tonerFor_54 : decode cX1_tonerFor 54 = .ok (.ireturn, 1) := by decide +kernel
theorem dX1_chipFor_0 : decode cX1_chipFor 0 = .ok (.aload_n 0, 1) := by decide +kernel
theorem dX1_chipFor_1 : decode cX1_chipFor 1 = .ok (.getfield 15, 3) := by decide +kernel
theorem dX1_chipFor_4 : decode cX1_chipFor 4 = .ok (.iload_n 1, 1) := by decide +kernel
theorem dX1_chipFor_5 : decode cX1_chipFor 5 = .ok (.iaload, 1) := by decide +kernel
theorem dX1_chipFor_6 : decode cX1_chipFor 6 = .ok (.iconst 2, 1) := by decide +kernel
theorem dX1_chipFor_7 : decode cX1_chipFor 7 = .ok (.if_icmp .ne 9, 3) := by decide +kernel
theorem dX1_chipFor_10 : decode cX1_chipFor 10 = .ok (.iload_n 2, 1) := by decide +kernel
theorem dX1_chipFor_11 : decode cX1_chipFor 11 = .ok (.iload_n 3, 1) := by decide +kernel
theorem dX1_chipFor_12 : decode cX1_chipFor 12 = .ok (.imul, 1) := by decide +kernel
theorem dX1_chipFor_13 : decode cX1_chipFor 13 = .ok (.goto 10, 3) := by decide +kernel
theorem dX1_chipFor_16 : decode cX1_chipFor 16 = .ok (.aload_n 0, 1) := by decide +kernel
theorem dX1_chipFor_17 : decode cX1_chipFor 17 = .ok (.iload_n 1, 1) := by decide +kernel
theorem dX1_chipFor_18 : decode cX1_chipFor 18 = .ok (.iload_n 2, 1) := by decide +kernel
theorem dX1_chipFor_19 : decode cX1_chipFor 19 = .ok (.iload_n 3, 1) := by decide +kernel
theorem dX1_chipFor_20 : decode cX1_chipFor 20 = .ok (.invokevirtual 61, 3) := by decide +kernel
theorem dX1_chipFor_23 : decode cX1_chipFor 23 = .ok (.ireturn, 1) := by decide +kernel
theorem dX1_refusal_0 : decode cX1_refusal 0 = .ok (.iload_n 1, 1) := by decide +kernel
theorem dX1_refusal_1 : decode cX1_refusal 1 = .ok (.invokestatic 65, 3) := by decide +kernel
theorem dX1_refusal_4 : decode cX1_refusal 4 = .ok (.ifCond .ne 5, 3) := by decide +kernel
theorem dX1_refusal_7 : decode cX1_refusal 7 = .ok (.iconst 1, 1) := by decide +kernel
theorem dX1_refusal_8 : decode cX1_refusal 8 = .ok (.ireturn, 1) := by decide +kernel
theorem dX1_refusal_9 : decode cX1_refusal 9 = .ok (.aload_n 0, 1) := by decide +kernel
theorem dX1_refusal_10 : decode cX1_refusal 10 = .ok (.getfield 24, 3) := by decide +kernel
theorem dX1_refusal_13 : decode cX1_refusal 13 = .ok (.iload_n 1, 1) := by decide +kernel
theorem dX1_refusal_14 : decode cX1_refusal 14 = .ok (.iaload, 1) := by decide +kernel
theorem dX1_refusal_15 : decode cX1_refusal 15 = .ok (.ifCond .ne 15, 3) := by decide +kernel
theorem dX1_refusal_18 : decode cX1_refusal 18 = .ok (.aload_n 0, 1) := by decide +kernel
theorem dX1_refusal_19 : decode cX1_refusal 19 = .ok (.getfield 9, 3) := by decide +kernel
theorem dX1_refusal_22 : decode cX1_refusal 22 = .ok (.iconst 2, 1) := by decide +kernel
theorem dX1_refusal_23 : decode cX1_refusal 23 = .ok (.iaload, 1) := by decide +kernel
theorem dX1_refusal_24 : decode cX1_refusal 24 = .ok (.iconst 1, 1) := by decide +kernel
theorem dX1_refusal_25 : decode cX1_refusal 25 = .ok (.if_icmp .ne 5, 3) := by decide +kernel
theorem dX1_refusal_28 : decode cX1_refusal 28 = .ok (.iconst 2, 1) := by decide +kernel
theorem dX1_refusal_29 : decode cX1_refusal 29 = .ok (.ireturn, 1) := by decide +kernel
theorem dX1_refusal_30 : decode cX1_refusal 30 = .ok (.aload_n 0, 1) := by decide +kernel
theorem dX1_refusal_31 : decode cX1_refusal 31 = .ok (.getfield 18, 3) := by decide +kernel
theorem dX1_refusal_34 : decode cX1_refusal 34 = .ok (.iload_n 1, 1) := by decide +kernel
theorem dX1_refusal_35 : decode cX1_refusal 35 = .ok (.iaload, 1) := by decide +kernel
theorem dX1_refusal_36 : decode cX1_refusal 36 = .ok (.ifCond .ne 7, 3) := by decide +kernel
theorem dX1_refusal_39 : decode cX1_refusal 39 = .ok (.iconst 3, 1) := by decide +kernel
theorem dX1_refusal_40 : decode cX1_refusal 40 = .ok (.goto 4, 3) := by decide +kernel
theorem dX1_refusal_43 : decode cX1_refusal 43 = .ok (.iconst 0, 1) := by decide +kernel
theorem dX1_refusal_44 : decode cX1_refusal 44 = .ok (.ireturn, 1) := by decide +kernel
theorem dX1_printPage_0 : decode cX1_printPage 0 = .ok (.aload_n 0, 1) := by decide +kernel
theorem dX1_printPage_1 : decode cX1_printPage 1 = .ok (.getfield 27, 3) := by decide +kernel
theorem dX1_printPage_4 : decode cX1_printPage 4 = .ok (.iload_n 1, 1) := by decide +kernel
theorem dX1_printPage_5 : decode cX1_printPage 5 = .ok (.iaload, 1) := by decide +kernel
theorem dX1_printPage_6 : decode cX1_printPage 6 = .ok (.istore_n 3, 1) := by decide +kernel
theorem dX1_printPage_7 : decode cX1_printPage 7 = .ok (.aload_n 0, 1) := by decide +kernel
theorem dX1_printPage_8 : decode cX1_printPage 8 = .ok (.iload_n 3, 1) := by decide +kernel
theorem dX1_printPage_9 : decode cX1_printPage 9 = .ok (.invokevirtual 69, 3) := by decide +kernel
theorem dX1_printPage_12 : decode cX1_printPage 12 = .ok (.istore 4, 2) := by decide +kernel
theorem dX1_printPage_14 : decode cX1_printPage 14 = .ok (.iload 4, 2) := by decide +kernel
theorem dX1_printPage_16 : decode cX1_printPage 16 = .ok (.ifCond .eq 16, 3) := by decide +kernel
theorem dX1_printPage_19 : decode cX1_printPage 19 = .ok (.aload_n 0, 1) := by decide +kernel
theorem dX1_printPage_20 : decode cX1_printPage 20 = .ok (.getfield 36, 3) := by decide +kernel
theorem dX1_printPage_23 : decode cX1_printPage 23 = .ok (.iload_n 1, 1) := by decide +kernel
theorem dX1_printPage_24 : decode cX1_printPage 24 = .ok (.dup2, 1) := by decide +kernel
theorem dX1_printPage_25 : decode cX1_printPage 25 = .ok (.iaload, 1) := by decide +kernel
theorem dX1_printPage_26 : decode cX1_printPage 26 = .ok (.iconst 1, 1) := by decide +kernel
theorem dX1_printPage_27 : decode cX1_printPage 27 = .ok (.iadd, 1) := by decide +kernel
theorem dX1_printPage_28 : decode cX1_printPage 28 = .ok (.iastore, 1) := by decide +kernel
theorem dX1_printPage_29 : decode cX1_printPage 29 = .ok (.iload 4, 2) := by decide +kernel
theorem dX1_printPage_31 : decode cX1_printPage 31 = .ok (.ireturn, 1) := by decide +kernel
theorem dX1_printPage_32 : decode cX1_printPage 32 = .ok (.aload_n 0, 1) := by decide +kernel
theorem dX1_printPage_33 : decode cX1_printPage 33 = .ok (.iload_n 3, 1) := by decide +kernel
theorem dX1_printPage_34 : decode cX1_printPage 34 = .ok (.aload_n 0, 1) := by decide +kernel
theorem dX1_printPage_35 : decode cX1_printPage 35 = .ok (.iload_n 3, 1) := by decide +kernel
theorem dX1_printPage_36 : decode cX1_printPage 36 = .ok (.iload_n 2, 1) := by decide +kernel
theorem dX1_printPage_37 : decode cX1_printPage 37 = .ok (.aload_n 0, 1) := by decide +kernel
theorem dX1_printPage_38 : decode cX1_printPage 38 = .ok (.getfield 9, 3) := by decide +kernel
theorem dX1_printPage_41 : decode cX1_printPage 41 = .ok (.iconst 0, 1) := by decide +kernel
theorem dX1_printPage_42 : decode cX1_printPage 42 = .ok (.iaload, 1) := by decide +kernel
theorem dX1_printPage_43 : decode cX1_printPage 43 = .ok (.invokevirtual 61, 3) := by decide +kernel
theorem dX1_printPage_46 : decode cX1_printPage 46 = .ok (.invokevirtual 73, 3) := by decide +kernel
theorem dX1_printPage_49 : decode cX1_printPage 49 = .ok (.istore 5, 2) := by decide +kernel
theorem dX1_printPage_51 : decode cX1_printPage 51 = .ok (.aload_n 0, 1) := by decide +kernel
theorem dX1_printPage_52 : decode cX1_printPage 52 = .ok (.getfield 24, 3) := by decide +kernel
theorem dX1_printPage_55 : decode cX1_printPage 55 = .ok (.iload_n 3, 1) := by decide +kernel
theorem dX1_printPage_56 : decode cX1_printPage 56 = .ok (.iaload, 1) := by decide +kernel
theorem dX1_printPage_57 : decode cX1_printPage 57 = .ok (.aload_n 0, 1) := by decide +kernel
theorem dX1_printPage_58 : decode cX1_printPage 58 = .ok (.iload_n 3, 1) := by decide +kernel
theorem dX1_printPage_59 : decode cX1_printPage 59 = .ok (.iload_n 2, 1) := by decide +kernel
theorem dX1_printPage_60 : decode cX1_printPage 60 = .ok (.aload_n 0, 1) := by decide +kernel
theorem dX1_printPage_61 : decode cX1_printPage 61 = .ok (.getfield 9, 3) := by decide +kernel
theorem dX1_printPage_64 : decode cX1_printPage 64 = .ok (.iconst 0, 1) := by decide +kernel
theorem dX1_printPage_65 : decode cX1_printPage 65 = .ok (.iaload, 1) := by decide +kernel
theorem dX1_printPage_66 : decode cX1_printPage 66 = .ok (.invokevirtual 77, 3) := by decide +kernel
theorem dX1_printPage_69 : decode cX1_printPage 69 = .ok (.isub, 1) := by decide +kernel
theorem dX1_printPage_70 : decode cX1_printPage 70 = .ok (.istore 6, 2) := by decide +kernel
theorem dX1_printPage_72 : decode cX1_printPage 72 = .ok (.aload_n 0, 1) := by decide +kernel
theorem dX1_printPage_73 : decode cX1_printPage 73 = .ok (.getfield 24, 3) := by decide +kernel
theorem dX1_printPage_76 : decode cX1_printPage 76 = .ok (.iload_n 3, 1) := by decide +kernel
theorem dX1_printPage_77 : decode cX1_printPage 77 = .ok (.iload 6, 2) := by decide +kernel
theorem dX1_printPage_79 : decode cX1_printPage 79 = .ok (.ifCond .le 8, 3) := by decide +kernel
theorem dX1_printPage_82 : decode cX1_printPage 82 = .ok (.iload 6, 2) := by decide +kernel
theorem dX1_printPage_84 : decode cX1_printPage 84 = .ok (.goto 4, 3) := by decide +kernel
theorem dX1_printPage_87 : decode cX1_printPage 87 = .ok (.iconst 0, 1) := by decide +kernel
theorem dX1_printPage_88 : decode cX1_printPage 88 = .ok (.iastore, 1) := by decide +kernel
theorem dX1_printPage_89 : decode cX1_printPage 89 = .ok (.aload_n 0, 1) := by decide +kernel
theorem dX1_printPage_90 : decode cX1_printPage 90 = .ok (.iload_n 3, 1) := by decide +kernel
theorem dX1_printPage_91 : decode cX1_printPage 91 = .ok (.invokevirtual 80, 3) := by decide +kernel
theorem dX1_printPage_94 : decode cX1_printPage 94 = .ok (.iload 5, 2) := by decide +kernel
theorem dX1_printPage_96 : decode cX1_printPage 96 = .ok (.bipush 100, 2) := by decide +kernel
theorem dX1_printPage_98 : decode cX1_printPage 98 = .ok (.if_icmp .ne 16, 3) := by decide +kernel
theorem dX1_printPage_101 : decode cX1_printPage 101 = .ok (.aload_n 0, 1) := by decide +kernel
theorem dX1_printPage_102 : decode cX1_printPage 102 = .ok (.getfield 30, 3) := by decide +kernel
theorem dX1_printPage_105 : decode cX1_printPage 105 = .ok (.iload_n 1, 1) := by decide +kernel
theorem dX1_printPage_106 : decode cX1_printPage 106 = .ok (.dup2, 1) := by decide +kernel
theorem dX1_printPage_107 : decode cX1_printPage 107 = .ok (.iaload, 1) := by decide +kernel
theorem dX1_printPage_108 : decode cX1_printPage 108 = .ok (.iconst 1, 1) := by decide +kernel
theorem dX1_printPage_109 : decode cX1_printPage 109 = .ok (.iadd, 1) := by decide +kernel
theorem dX1_printPage_110 : decode cX1_printPage 110 = .ok (.iastore, 1) := by decide +kernel
theorem dX1_printPage_111 : decode cX1_printPage 111 = .ok (.goto 13, 3) := by decide +kernel
theorem dX1_printPage_114 : decode cX1_printPage 114 = .ok (.aload_n 0, 1) := by decide +kernel
theorem dX1_printPage_115 : decode cX1_printPage 115 = .ok (.getfield 33, 3) := by decide +kernel
theorem dX1_printPage_118 : decode cX1_printPage 118 = .ok (.iload_n 1, 1) := by decide +kernel
theorem dX1_printPage_119 : decode cX1_printPage 119 = .ok (.dup2, 1) := by decide +kernel
theorem dX1_printPage_120 : decode cX1_printPage 120 = .ok (.iaload, 1) := by decide +kernel
theorem dX1_printPage_121 : decode cX1_printPage 121 = .ok (.iconst 1, 1) := by decide +kernel
theorem dX1_printPage_122 : decode cX1_printPage 122 = .ok (.iadd, 1) := by decide +kernel
theorem dX1_printPage_123 : decode cX1_printPage 123 = .ok (.iastore, 1) := by decide +kernel
theorem dX1_printPage_124 : decode cX1_printPage 124 = .ok (.aload_n 0, 1) := by decide +kernel
theorem dX1_printPage_125 : decode cX1_printPage 125 = .ok (.getfield 39, 3) := by decide +kernel
theorem dX1_printPage_128 : decode cX1_printPage 128 = .ok (.iload_n 1, 1) := by decide +kernel
theorem dX1_printPage_129 : decode cX1_printPage 129 = .ok (.dup2, 1) := by decide +kernel
theorem dX1_printPage_130 : decode cX1_printPage 130 = .ok (.iaload, 1) := by decide +kernel
theorem dX1_printPage_131 : decode cX1_printPage 131 = .ok (.iload_n 2, 1) := by decide +kernel
theorem dX1_printPage_132 : decode cX1_printPage 132 = .ok (.iadd, 1) := by decide +kernel
theorem dX1_printPage_133 : decode cX1_printPage 133 = .ok (.iastore, 1) := by decide +kernel
theorem dX1_printPage_134 : decode cX1_printPage 134 = .ok (.aload_n 0, 1) := by decide +kernel
theorem dX1_printPage_135 : decode cX1_printPage 135 = .ok (.getfield 42, 3) := by decide +kernel
theorem dX1_printPage_138 : decode cX1_printPage 138 = .ok (.iload_n 1, 1) := by decide +kernel
theorem dX1_printPage_139 : decode cX1_printPage 139 = .ok (.iload 5, 2) := by decide +kernel
theorem dX1_printPage_141 : decode cX1_printPage 141 = .ok (.iastore, 1) := by decide +kernel
theorem dX1_printPage_142 : decode cX1_printPage 142 = .ok (.bipush 10, 2) := by decide +kernel
theorem dX1_printPage_144 : decode cX1_printPage 144 = .ok (.iload 5, 2) := by decide +kernel
theorem dX1_printPage_146 : decode cX1_printPage 146 = .ok (.iadd, 1) := by decide +kernel
theorem dX1_printPage_147 : decode cX1_printPage 147 = .ok (.ireturn, 1) := by decide +kernel
theorem dX1_useToner_0 : decode cX1_useToner 0 = .ok (.aload_n 0, 1) := by decide +kernel
theorem dX1_useToner_1 : decode cX1_useToner 1 = .ok (.getfield 18, 3) := by decide +kernel
theorem dX1_useToner_4 : decode cX1_useToner 4 = .ok (.iload_n 1, 1) := by decide +kernel
theorem dX1_useToner_5 : decode cX1_useToner 5 = .ok (.iaload, 1) := by decide +kernel
theorem dX1_useToner_6 : decode cX1_useToner 6 = .ok (.iload_n 2, 1) := by decide +kernel
theorem dX1_useToner_7 : decode cX1_useToner 7 = .ok (.if_icmp .ge 12, 3) := by decide +kernel
theorem dX1_useToner_10 : decode cX1_useToner 10 = .ok (.aload_n 0, 1) := by decide +kernel
theorem dX1_useToner_11 : decode cX1_useToner 11 = .ok (.getfield 18, 3) := by decide +kernel
theorem dX1_useToner_14 : decode cX1_useToner 14 = .ok (.iload_n 1, 1) := by decide +kernel
theorem dX1_useToner_15 : decode cX1_useToner 15 = .ok (.iaload, 1) := by decide +kernel
theorem dX1_useToner_16 : decode cX1_useToner 16 = .ok (.goto 4, 3) := by decide +kernel
theorem dX1_useToner_19 : decode cX1_useToner 19 = .ok (.iload_n 2, 1) := by decide +kernel
theorem dX1_useToner_20 : decode cX1_useToner 20 = .ok (.istore_n 3, 1) := by decide +kernel
theorem dX1_useToner_21 : decode cX1_useToner 21 = .ok (.aload_n 0, 1) := by decide +kernel
theorem dX1_useToner_22 : decode cX1_useToner 22 = .ok (.getfield 18, 3) := by decide +kernel
theorem dX1_useToner_25 : decode cX1_useToner 25 = .ok (.iload_n 1, 1) := by decide +kernel
theorem dX1_useToner_26 : decode cX1_useToner 26 = .ok (.dup2, 1) := by decide +kernel
theorem dX1_useToner_27 : decode cX1_useToner 27 = .ok (.iaload, 1) := by decide +kernel
theorem dX1_useToner_28 : decode cX1_useToner 28 = .ok (.iload_n 3, 1) := by decide +kernel
theorem dX1_useToner_29 : decode cX1_useToner 29 = .ok (.isub, 1) := by decide +kernel
theorem dX1_useToner_30 : decode cX1_useToner 30 = .ok (.iastore, 1) := by decide +kernel
theorem dX1_useToner_31 : decode cX1_useToner 31 = .ok (.aload_n 0, 1) := by decide +kernel
theorem dX1_useToner_32 : decode cX1_useToner 32 = .ok (.dup, 1) := by decide +kernel
theorem dX1_useToner_33 : decode cX1_useToner 33 = .ok (.getfield 45, 3) := by decide +kernel
theorem dX1_useToner_36 : decode cX1_useToner 36 = .ok (.iload_n 3, 1) := by decide +kernel
theorem dX1_useToner_37 : decode cX1_useToner 37 = .ok (.iadd, 1) := by decide +kernel
theorem dX1_useToner_38 : decode cX1_useToner 38 = .ok (.putfield 45, 3) := by decide +kernel
theorem dX1_useToner_41 : decode cX1_useToner 41 = .ok (.iload_n 3, 1) := by decide +kernel
theorem dX1_useToner_42 : decode cX1_useToner 42 = .ok (.iload_n 2, 1) := by decide +kernel
theorem dX1_useToner_43 : decode cX1_useToner 43 = .ok (.if_icmp .ne 8, 3) := by decide +kernel
theorem dX1_useToner_46 : decode cX1_useToner 46 = .ok (.bipush 100, 2) := by decide +kernel
theorem dX1_useToner_48 : decode cX1_useToner 48 = .ok (.goto 11, 3) := by decide +kernel
theorem dX1_useToner_51 : decode cX1_useToner 51 = .ok (.iload_n 3, 1) := by decide +kernel
theorem dX1_useToner_52 : decode cX1_useToner 52 = .ok (.bipush 100, 2) := by decide +kernel
theorem dX1_useToner_54 : decode cX1_useToner 54 = .ok (.imul, 1) := by decide +kernel
theorem dX1_useToner_55 : decode cX1_useToner 55 = .ok (.iload_n 2, 1) := by decide +kernel
theorem dX1_useToner_56 : decode cX1_useToner 56 = .ok (.invokestatic 84, 3) := by decide +kernel
theorem dX1_useToner_59 : decode cX1_useToner 59 = .ok (.ireturn, 1) := by decide +kernel
theorem dX1_settleToner_0 : decode cX1_settleToner 0 = .ok (.aload_n 0, 1) := by decide +kernel
theorem dX1_settleToner_1 : decode cX1_settleToner 1 = .ok (.getfield 18, 3) := by decide +kernel
theorem dX1_settleToner_4 : decode cX1_settleToner 4 = .ok (.iload_n 1, 1) := by decide +kernel
theorem dX1_settleToner_5 : decode cX1_settleToner 5 = .ok (.iaload, 1) := by decide +kernel
theorem dX1_settleToner_6 : decode cX1_settleToner 6 = .ok (.aload_n 0, 1) := by decide +kernel
theorem dX1_settleToner_7 : decode cX1_settleToner 7 = .ok (.getfield 9, 3) := by decide +kernel
theorem dX1_settleToner_10 : decode cX1_settleToner 10 = .ok (.iconst 1, 1) := by decide +kernel
theorem dX1_settleToner_11 : decode cX1_settleToner 11 = .ok (.iaload, 1) := by decide +kernel
theorem dX1_settleToner_12 : decode cX1_settleToner 12 = .ok (.invokestatic 84, 3) := by decide +kernel
theorem dX1_settleToner_15 : decode cX1_settleToner 15 = .ok (.istore_n 2, 1) := by decide +kernel
theorem dX1_settleToner_16 : decode cX1_settleToner 16 = .ok (.aload_n 0, 1) := by decide +kernel
theorem dX1_settleToner_17 : decode cX1_settleToner 17 = .ok (.getfield 18, 3) := by decide +kernel
theorem dX1_settleToner_20 : decode cX1_settleToner 20 = .ok (.iload_n 1, 1) := by decide +kernel
theorem dX1_settleToner_21 : decode cX1_settleToner 21 = .ok (.dup2, 1) := by decide +kernel
theorem dX1_settleToner_22 : decode cX1_settleToner 22 = .ok (.iaload, 1) := by decide +kernel
theorem dX1_settleToner_23 : decode cX1_settleToner 23 = .ok (.iload_n 2, 1) := by decide +kernel
theorem dX1_settleToner_24 : decode cX1_settleToner 24 = .ok (.isub, 1) := by decide +kernel
theorem dX1_settleToner_25 : decode cX1_settleToner 25 = .ok (.iastore, 1) := by decide +kernel
theorem dX1_settleToner_26 : decode cX1_settleToner 26 = .ok (.aload_n 0, 1) := by decide +kernel
theorem dX1_settleToner_27 : decode cX1_settleToner 27 = .ok (.getfield 21, 3) := by decide +kernel
theorem dX1_settleToner_30 : decode cX1_settleToner 30 = .ok (.iload_n 1, 1) := by decide +kernel
theorem dX1_settleToner_31 : decode cX1_settleToner 31 = .ok (.dup2, 1) := by decide +kernel
theorem dX1_settleToner_32 : decode cX1_settleToner 32 = .ok (.iaload, 1) := by decide +kernel
theorem dX1_settleToner_33 : decode cX1_settleToner 33 = .ok (.iload_n 2, 1) := by decide +kernel
theorem dX1_settleToner_34 : decode cX1_settleToner 34 = .ok (.iadd, 1) := by decide +kernel
theorem dX1_settleToner_35 : decode cX1_settleToner 35 = .ok (.iastore, 1) := by decide +kernel
theorem dX1_settleToner_36 : decode cX1_settleToner 36 = .ok (.return_, 1) := by decide +kernel
theorem dX1_shakeCup_0 : decode cX1_shakeCup 0 = .ok (.aload_n 0, 1) := by decide +kernel
theorem dX1_shakeCup_1 : decode cX1_shakeCup 1 = .ok (.getfield 21, 3) := by decide +kernel
theorem dX1_shakeCup_4 : decode cX1_shakeCup 4 = .ok (.iload_n 1, 1) := by decide +kernel
theorem dX1_shakeCup_5 : decode cX1_shakeCup 5 = .ok (.iaload, 1) := by decide +kernel
theorem dX1_shakeCup_6 : decode cX1_shakeCup 6 = .ok (.iconst 2, 1) := by decide +kernel
theorem dX1_shakeCup_7 : decode cX1_shakeCup 7 = .ok (.idiv, 1) := by decide +kernel
theorem dX1_shakeCup_8 : decode cX1_shakeCup 8 = .ok (.istore_n 2, 1) := by decide +kernel
theorem dX1_shakeCup_9 : decode cX1_shakeCup 9 = .ok (.aload_n 0, 1) := by decide +kernel
theorem dX1_shakeCup_10 : decode cX1_shakeCup 10 = .ok (.getfield 21, 3) := by decide +kernel
theorem dX1_shakeCup_13 : decode cX1_shakeCup 13 = .ok (.iload_n 1, 1) := by decide +kernel
theorem dX1_shakeCup_14 : decode cX1_shakeCup 14 = .ok (.dup2, 1) := by decide +kernel
theorem dX1_shakeCup_15 : decode cX1_shakeCup 15 = .ok (.iaload, 1) := by decide +kernel
theorem dX1_shakeCup_16 : decode cX1_shakeCup 16 = .ok (.iload_n 2, 1) := by decide +kernel
theorem dX1_shakeCup_17 : decode cX1_shakeCup 17 = .ok (.isub, 1) := by decide +kernel
theorem dX1_shakeCup_18 : decode cX1_shakeCup 18 = .ok (.iastore, 1) := by decide +kernel
theorem dX1_shakeCup_19 : decode cX1_shakeCup 19 = .ok (.aload_n 0, 1) := by decide +kernel
theorem dX1_shakeCup_20 : decode cX1_shakeCup 20 = .ok (.getfield 18, 3) := by decide +kernel
theorem dX1_shakeCup_23 : decode cX1_shakeCup 23 = .ok (.iload_n 1, 1) := by decide +kernel
theorem dX1_shakeCup_24 : decode cX1_shakeCup 24 = .ok (.dup2, 1) := by decide +kernel
theorem dX1_shakeCup_25 : decode cX1_shakeCup 25 = .ok (.iaload, 1) := by decide +kernel
theorem dX1_shakeCup_26 : decode cX1_shakeCup 26 = .ok (.iload_n 2, 1) := by decide +kernel
theorem dX1_shakeCup_27 : decode cX1_shakeCup 27 = .ok (.iadd, 1) := by decide +kernel
theorem dX1_shakeCup_28 : decode cX1_shakeCup 28 = .ok (.iastore, 1) := by decide +kernel
theorem dX1_shakeCup_29 : decode cX1_shakeCup 29 = .ok (.iload_n 2, 1) := by decide +kernel
theorem dX1_shakeCup_30 : decode cX1_shakeCup 30 = .ok (.ireturn, 1) := by decide +kernel
theorem dX1_moveCup_0 : decode cX1_moveCup 0 = .ok (.aload_n 0, 1) := by decide +kernel
theorem dX1_moveCup_1 : decode cX1_moveCup 1 = .ok (.getfield 27, 3) := by decide +kernel
theorem dX1_moveCup_4 : decode cX1_moveCup 4 = .ok (.iload_n 2, 1) := by decide +kernel
theorem dX1_moveCup_5 : decode cX1_moveCup 5 = .ok (.iaload, 1) := by decide +kernel
theorem dX1_moveCup_6 : decode cX1_moveCup 6 = .ok (.iload_n 1, 1) := by decide +kernel
theorem dX1_moveCup_7 : decode cX1_moveCup 7 = .ok (.if_icmp .ne 5, 3) := by decide +kernel
theorem dX1_moveCup_10 : decode cX1_moveCup 10 = .ok (.iconst 0, 1) := by decide +kernel
theorem dX1_moveCup_11 : decode cX1_moveCup 11 = .ok (.ireturn, 1) := by decide +kernel
theorem dX1_moveCup_12 : decode cX1_moveCup 12 = .ok (.aload_n 0, 1) := by decide +kernel
theorem dX1_moveCup_13 : decode cX1_moveCup 13 = .ok (.getfield 49, 3) := by decide +kernel
theorem dX1_moveCup_16 : decode cX1_moveCup 16 = .ok (.istore_n 3, 1) := by decide +kernel
theorem dX1_moveCup_17 : decode cX1_moveCup 17 = .ok (.aload_n 0, 1) := by decide +kernel
theorem dX1_moveCup_18 : decode cX1_moveCup 18 = .ok (.iload_n 1, 1) := by decide +kernel
theorem dX1_moveCup_19 : decode cX1_moveCup 19 = .ok (.invokevirtual 87, 3) := by decide +kernel
theorem dX1_moveCup_22 : decode cX1_moveCup 22 = .ok (.istore 4, 2) := by decide +kernel
theorem dX1_moveCup_24 : decode cX1_moveCup 24 = .ok (.iload 4, 2) := by decide +kernel
theorem dX1_moveCup_26 : decode cX1_moveCup 26 = .ok (.invokestatic 90, 3) := by decide +kernel
theorem dX1_moveCup_29 : decode cX1_moveCup 29 = .ok (.ifCond .eq 9, 3) := by decide +kernel
theorem dX1_moveCup_32 : decode cX1_moveCup 32 = .ok (.aload_n 0, 1) := by decide +kernel
theorem dX1_moveCup_33 : decode cX1_moveCup 33 = .ok (.iload 4, 2) := by decide +kernel
theorem dX1_moveCup_35 : decode cX1_moveCup 35 = .ok (.invokevirtual 93, 3) := by decide +kernel
theorem dX1_moveCup_38 : decode cX1_moveCup 38 = .ok (.aload_n 0, 1) := by decide +kernel
theorem dX1_moveCup_39 : decode cX1_moveCup 39 = .ok (.iload_n 2, 1) := by decide +kernel
theorem dX1_moveCup_40 : decode cX1_moveCup 40 = .ok (.invokevirtual 93, 3) := by decide +kernel
theorem dX1_moveCup_43 : decode cX1_moveCup 43 = .ok (.aload_n 0, 1) := by decide +kernel
theorem dX1_moveCup_44 : decode cX1_moveCup 44 = .ok (.getfield 27, 3) := by decide +kernel
theorem dX1_moveCup_47 : decode cX1_moveCup 47 = .ok (.iload_n 2, 1) := by decide +kernel
theorem dX1_moveCup_48 : decode cX1_moveCup 48 = .ok (.iload_n 1, 1) := by decide +kernel
theorem dX1_moveCup_49 : decode cX1_moveCup 49 = .ok (.iastore, 1) := by decide +kernel
theorem dX1_moveCup_50 : decode cX1_moveCup 50 = .ok (.aload_n 0, 1) := by decide +kernel
theorem dX1_moveCup_51 : decode cX1_moveCup 51 = .ok (.getfield 49, 3) := by decide +kernel
theorem dX1_moveCup_54 : decode cX1_moveCup 54 = .ok (.iload_n 3, 1) := by decide +kernel
theorem dX1_moveCup_55 : decode cX1_moveCup 55 = .ok (.isub, 1) := by decide +kernel
theorem dX1_moveCup_56 : decode cX1_moveCup 56 = .ok (.ireturn, 1) := by decide +kernel
theorem dX1_empty_0 : decode cX1_empty 0 = .ok (.aload_n 0, 1) := by decide +kernel
theorem dX1_empty_1 : decode cX1_empty 1 = .ok (.getfield 27, 3) := by decide +kernel
theorem dX1_empty_4 : decode cX1_empty 4 = .ok (.iload_n 1, 1) := by decide +kernel
theorem dX1_empty_5 : decode cX1_empty 5 = .ok (.iaload, 1) := by decide +kernel
theorem dX1_empty_6 : decode cX1_empty 6 = .ok (.istore_n 2, 1) := by decide +kernel
theorem dX1_empty_7 : decode cX1_empty 7 = .ok (.iload_n 2, 1) := by decide +kernel
theorem dX1_empty_8 : decode cX1_empty 8 = .ok (.invokestatic 65, 3) := by decide +kernel
theorem dX1_empty_11 : decode cX1_empty 11 = .ok (.ifCond .ne 4, 3) := by decide +kernel
theorem dX1_empty_14 : decode cX1_empty 14 = .ok (.return_, 1) := by decide +kernel
theorem dX1_empty_15 : decode cX1_empty 15 = .ok (.aload_n 0, 1) := by decide +kernel
theorem dX1_empty_16 : decode cX1_empty 16 = .ok (.getfield 18, 3) := by decide +kernel
theorem dX1_empty_19 : decode cX1_empty 19 = .ok (.iload_n 2, 1) := by decide +kernel
theorem dX1_empty_20 : decode cX1_empty 20 = .ok (.iaload, 1) := by decide +kernel
theorem dX1_empty_21 : decode cX1_empty 21 = .ok (.bipush 50, 2) := by decide +kernel
theorem dX1_empty_23 : decode cX1_empty 23 = .ok (.idiv, 1) := by decide +kernel
theorem dX1_empty_24 : decode cX1_empty 24 = .ok (.istore_n 3, 1) := by decide +kernel
theorem dX1_empty_25 : decode cX1_empty 25 = .ok (.aload_n 0, 1) := by decide +kernel
theorem dX1_empty_26 : decode cX1_empty 26 = .ok (.getfield 18, 3) := by decide +kernel
theorem dX1_empty_29 : decode cX1_empty 29 = .ok (.iload_n 2, 1) := by decide +kernel
theorem dX1_empty_30 : decode cX1_empty 30 = .ok (.dup2, 1) := by decide +kernel
theorem dX1_empty_31 : decode cX1_empty 31 = .ok (.iaload, 1) := by decide +kernel
theorem dX1_empty_32 : decode cX1_empty 32 = .ok (.iload_n 3, 1) := by decide +kernel
theorem dX1_empty_33 : decode cX1_empty 33 = .ok (.isub, 1) := by decide +kernel
theorem dX1_empty_34 : decode cX1_empty 34 = .ok (.iastore, 1) := by decide +kernel
theorem dX1_empty_35 : decode cX1_empty 35 = .ok (.aload_n 0, 1) := by decide +kernel
theorem dX1_empty_36 : decode cX1_empty 36 = .ok (.dup, 1) := by decide +kernel
theorem dX1_empty_37 : decode cX1_empty 37 = .ok (.getfield 49, 3) := by decide +kernel
theorem dX1_empty_40 : decode cX1_empty 40 = .ok (.iload_n 3, 1) := by decide +kernel
theorem dX1_empty_41 : decode cX1_empty 41 = .ok (.iadd, 1) := by decide +kernel
theorem dX1_empty_42 : decode cX1_empty 42 = .ok (.putfield 49, 3) := by decide +kernel
theorem dX1_empty_45 : decode cX1_empty 45 = .ok (.aload_n 0, 1) := by decide +kernel
theorem dX1_empty_46 : decode cX1_empty 46 = .ok (.getfield 27, 3) := by decide +kernel
theorem dX1_empty_49 : decode cX1_empty 49 = .ok (.iload_n 1, 1) := by decide +kernel
theorem dX1_empty_50 : decode cX1_empty 50 = .ok (.bipush (-4), 2) := by decide +kernel
theorem dX1_empty_52 : decode cX1_empty 52 = .ok (.iastore, 1) := by decide +kernel
theorem dX1_empty_53 : decode cX1_empty 53 = .ok (.return_, 1) := by decide +kernel
theorem dX1_fillCup_0 : decode cX1_fillCup 0 = .ok (.sipush 6000, 3) := by decide +kernel
theorem dX1_fillCup_3 : decode cX1_fillCup 3 = .ok (.aload_n 0, 1) := by decide +kernel
theorem dX1_fillCup_4 : decode cX1_fillCup 4 = .ok (.iload_n 1, 1) := by decide +kernel
theorem dX1_fillCup_5 : decode cX1_fillCup 5 = .ok (.invokevirtual 96, 3) := by decide +kernel
theorem dX1_fillCup_8 : decode cX1_fillCup 8 = .ok (.isub, 1) := by decide +kernel
theorem dX1_fillCup_9 : decode cX1_fillCup 9 = .ok (.istore_n 3, 1) := by decide +kernel
theorem dX1_fillCup_10 : decode cX1_fillCup 10 = .ok (.iload_n 2, 1) := by decide +kernel
theorem dX1_fillCup_11 : decode cX1_fillCup 11 = .ok (.iload_n 3, 1) := by decide +kernel
theorem dX1_fillCup_12 : decode cX1_fillCup 12 = .ok (.if_icmp .ge 7, 3) := by decide +kernel
theorem dX1_fillCup_15 : decode cX1_fillCup 15 = .ok (.iload_n 2, 1) := by decide +kernel
theorem dX1_fillCup_16 : decode cX1_fillCup 16 = .ok (.goto 4, 3) := by decide +kernel
theorem dX1_fillCup_19 : decode cX1_fillCup 19 = .ok (.iload_n 3, 1) := by decide +kernel
theorem dX1_fillCup_20 : decode cX1_fillCup 20 = .ok (.istore 4, 2) := by decide +kernel
theorem dX1_fillCup_22 : decode cX1_fillCup 22 = .ok (.aload_n 0, 1) := by decide +kernel
theorem dX1_fillCup_23 : decode cX1_fillCup 23 = .ok (.getfield 21, 3) := by decide +kernel
theorem dX1_fillCup_26 : decode cX1_fillCup 26 = .ok (.iload_n 1, 1) := by decide +kernel
theorem dX1_fillCup_27 : decode cX1_fillCup 27 = .ok (.dup2, 1) := by decide +kernel
theorem dX1_fillCup_28 : decode cX1_fillCup 28 = .ok (.iaload, 1) := by decide +kernel
theorem dX1_fillCup_29 : decode cX1_fillCup 29 = .ok (.iload 4, 2) := by decide +kernel
theorem dX1_fillCup_31 : decode cX1_fillCup 31 = .ok (.iadd, 1) := by decide +kernel
theorem dX1_fillCup_32 : decode cX1_fillCup 32 = .ok (.iastore, 1) := by decide +kernel
theorem dX1_fillCup_33 : decode cX1_fillCup 33 = .ok (.aload_n 0, 1) := by decide +kernel
theorem dX1_fillCup_34 : decode cX1_fillCup 34 = .ok (.dup, 1) := by decide +kernel
theorem dX1_fillCup_35 : decode cX1_fillCup 35 = .ok (.getfield 52, 3) := by decide +kernel
theorem dX1_fillCup_38 : decode cX1_fillCup 38 = .ok (.iload 4, 2) := by decide +kernel
theorem dX1_fillCup_40 : decode cX1_fillCup 40 = .ok (.iadd, 1) := by decide +kernel
theorem dX1_fillCup_41 : decode cX1_fillCup 41 = .ok (.putfield 52, 3) := by decide +kernel
theorem dX1_fillCup_44 : decode cX1_fillCup 44 = .ok (.aload_n 0, 1) := by decide +kernel
theorem dX1_fillCup_45 : decode cX1_fillCup 45 = .ok (.getfield 15, 3) := by decide +kernel
theorem dX1_fillCup_48 : decode cX1_fillCup 48 = .ok (.iload_n 1, 1) := by decide +kernel
theorem dX1_fillCup_49 : decode cX1_fillCup 49 = .ok (.iconst 2, 1) := by decide +kernel
theorem dX1_fillCup_50 : decode cX1_fillCup 50 = .ok (.iastore, 1) := by decide +kernel
theorem dX1_fillCup_51 : decode cX1_fillCup 51 = .ok (.iload 4, 2) := by decide +kernel
theorem dX1_fillCup_53 : decode cX1_fillCup 53 = .ok (.ireturn, 1) := by decide +kernel
theorem dX1_printerOf_0 : decode cX1_printerOf 0 = .ok (.iconst 0, 1) := by decide +kernel
theorem dX1_printerOf_1 : decode cX1_printerOf 1 = .ok (.istore_n 2, 1) := by decide +kernel
theorem dX1_printerOf_2 : decode cX1_printerOf 2 = .ok (.iload_n 2, 1) := by decide +kernel
theorem dX1_printerOf_3 : decode cX1_printerOf 3 = .ok (.iconst 2, 1) := by decide +kernel
theorem dX1_printerOf_4 : decode cX1_printerOf 4 = .ok (.if_icmp .ge 21, 3) := by decide +kernel
theorem dX1_printerOf_7 : decode cX1_printerOf 7 = .ok (.aload_n 0, 1) := by decide +kernel
theorem dX1_printerOf_8 : decode cX1_printerOf 8 = .ok (.getfield 27, 3) := by decide +kernel
theorem dX1_printerOf_11 : decode cX1_printerOf 11 = .ok (.iload_n 2, 1) := by decide +kernel
theorem dX1_printerOf_12 : decode cX1_printerOf 12 = .ok (.iaload, 1) := by decide +kernel
theorem dX1_printerOf_13 : decode cX1_printerOf 13 = .ok (.iload_n 1, 1) := by decide +kernel
theorem dX1_printerOf_14 : decode cX1_printerOf 14 = .ok (.if_icmp .ne 5, 3) := by decide +kernel
theorem dX1_printerOf_17 : decode cX1_printerOf 17 = .ok (.iload_n 2, 1) := by decide +kernel
theorem dX1_printerOf_18 : decode cX1_printerOf 18 = .ok (.ireturn, 1) := by decide +kernel
theorem dX1_printerOf_19 : decode cX1_printerOf 19 = .ok (.iinc 2 1, 3) := by decide +kernel
theorem dX1_printerOf_22 : decode cX1_printerOf 22 = .ok (.goto (-20), 3) := by decide +kernel
theorem dX1_printerOf_25 : decode cX1_printerOf 25 = .ok (.bipush (-4), 2) := by decide +kernel
theorem dX1_printerOf_27 : decode cX1_printerOf 27 = .ok (.ireturn, 1) := by decide +kernel
theorem dX1_toner_0 : decode cX1_toner 0 = .ok (.aload_n 0, 1) := by decide +kernel
theorem dX1_toner_1 : decode cX1_toner 1 = .ok (.getfield 18, 3) := by decide +kernel
theorem dX1_toner_4 : decode cX1_toner 4 = .ok (.iload_n 1, 1) := by decide +kernel
theorem dX1_toner_5 : decode cX1_toner 5 = .ok (.iaload, 1) := by decide +kernel
theorem dX1_toner_6 : decode cX1_toner 6 = .ok (.aload_n 0, 1) := by decide +kernel
theorem dX1_toner_7 : decode cX1_toner 7 = .ok (.getfield 21, 3) := by decide +kernel
theorem dX1_toner_10 : decode cX1_toner 10 = .ok (.iload_n 1, 1) := by decide +kernel
theorem dX1_toner_11 : decode cX1_toner 11 = .ok (.iaload, 1) := by decide +kernel
theorem dX1_toner_12 : decode cX1_toner 12 = .ok (.iadd, 1) := by decide +kernel
theorem dX1_toner_13 : decode cX1_toner 13 = .ok (.ireturn, 1) := by decide +kernel
theorem dX1_scaleTells_0 : decode cX1_scaleTells 0 = .ok (.aload_n 0, 1) := by decide +kernel
theorem dX1_scaleTells_1 : decode cX1_scaleTells 1 = .ok (.iload_n 1, 1) := by decide +kernel
theorem dX1_scaleTells_2 : decode cX1_scaleTells 2 = .ok (.invokevirtual 96, 3) := by decide +kernel
theorem dX1_scaleTells_5 : decode cX1_scaleTells 5 = .ok (.aload_n 0, 1) := by decide +kernel
theorem dX1_scaleTells_6 : decode cX1_scaleTells 6 = .ok (.getfield 9, 3) := by decide +kernel
theorem dX1_scaleTells_9 : decode cX1_scaleTells 9 = .ok (.iconst 3, 1) := by decide +kernel
theorem dX1_scaleTells_10 : decode cX1_scaleTells 10 = .ok (.iaload, 1) := by decide +kernel
theorem dX1_scaleTells_11 : decode cX1_scaleTells 11 = .ok (.invokestatic 84, 3) := by decide +kernel
theorem dX1_scaleTells_14 : decode cX1_scaleTells 14 = .ok (.aload_n 0, 1) := by decide +kernel
theorem dX1_scaleTells_15 : decode cX1_scaleTells 15 = .ok (.getfield 9, 3) := by decide +kernel
theorem dX1_scaleTells_18 : decode cX1_scaleTells 18 = .ok (.iconst 3, 1) := by decide +kernel
theorem dX1_scaleTells_19 : decode cX1_scaleTells 19 = .ok (.iaload, 1) := by decide +kernel
theorem dX1_scaleTells_20 : decode cX1_scaleTells 20 = .ok (.imul, 1) := by decide +kernel
theorem dX1_scaleTells_21 : decode cX1_scaleTells 21 = .ok (.ireturn, 1) := by decide +kernel
theorem dX1_toldLeft_0 : decode cX1_toldLeft 0 = .ok (.aload_n 0, 1) := by decide +kernel
theorem dX1_toldLeft_1 : decode cX1_toldLeft 1 = .ok (.iload_n 1, 1) := by decide +kernel
theorem dX1_toldLeft_2 : decode cX1_toldLeft 2 = .ok (.invokevirtual 99, 3) := by decide +kernel
theorem dX1_toldLeft_5 : decode cX1_toldLeft 5 = .ok (.aload_n 0, 1) := by decide +kernel
theorem dX1_toldLeft_6 : decode cX1_toldLeft 6 = .ok (.getfield 24, 3) := by decide +kernel
theorem dX1_toldLeft_9 : decode cX1_toldLeft 9 = .ok (.iload_n 1, 1) := by decide +kernel
theorem dX1_toldLeft_10 : decode cX1_toldLeft 10 = .ok (.iaload, 1) := by decide +kernel
theorem dX1_toldLeft_11 : decode cX1_toldLeft 11 = .ok (.iadd, 1) := by decide +kernel
theorem dX1_toldLeft_12 : decode cX1_toldLeft 12 = .ok (.iconst 2, 1) := by decide +kernel
theorem dX1_toldLeft_13 : decode cX1_toldLeft 13 = .ok (.idiv, 1) := by decide +kernel
theorem dX1_toldLeft_14 : decode cX1_toldLeft 14 = .ok (.ireturn, 1) := by decide +kernel
theorem dX1_allToner_0 : decode cX1_allToner 0 = .ok (.iconst 0, 1) := by decide +kernel
theorem dX1_allToner_1 : decode cX1_allToner 1 = .ok (.istore_n 1, 1) := by decide +kernel
theorem dX1_allToner_2 : decode cX1_allToner 2 = .ok (.iconst 0, 1) := by decide +kernel
theorem dX1_allToner_3 : decode cX1_allToner 3 = .ok (.istore_n 2, 1) := by decide +kernel
theorem dX1_allToner_4 : decode cX1_allToner 4 = .ok (.iload_n 2, 1) := by decide +kernel
theorem dX1_allToner_5 : decode cX1_allToner 5 = .ok (.iconst 4, 1) := by decide +kernel
theorem dX1_allToner_6 : decode cX1_allToner 6 = .ok (.if_icmp .ge 17, 3) := by decide +kernel
theorem dX1_allToner_9 : decode cX1_allToner 9 = .ok (.iload_n 1, 1) := by decide +kernel
theorem dX1_allToner_10 : decode cX1_allToner 10 = .ok (.aload_n 0, 1) := by decide +kernel
theorem dX1_allToner_11 : decode cX1_allToner 11 = .ok (.iload_n 2, 1) := by decide +kernel
theorem dX1_allToner_12 : decode cX1_allToner 12 = .ok (.invokevirtual 96, 3) := by decide +kernel
theorem dX1_allToner_15 : decode cX1_allToner 15 = .ok (.iadd, 1) := by decide +kernel
theorem dX1_allToner_16 : decode cX1_allToner 16 = .ok (.istore_n 1, 1) := by decide +kernel
theorem dX1_allToner_17 : decode cX1_allToner 17 = .ok (.iinc 2 1, 3) := by decide +kernel
theorem dX1_allToner_20 : decode cX1_allToner 20 = .ok (.goto (-16), 3) := by decide +kernel
theorem dX1_allToner_23 : decode cX1_allToner 23 = .ok (.iload_n 1, 1) := by decide +kernel
theorem dX1_allToner_24 : decode cX1_allToner 24 = .ok (.ireturn, 1) := by decide +kernel
theorem dX1_allToldLeft_0 : decode cX1_allToldLeft 0 = .ok (.iconst 0, 1) := by decide +kernel
theorem dX1_allToldLeft_1 : decode cX1_allToldLeft 1 = .ok (.istore_n 1, 1) := by decide +kernel
theorem dX1_allToldLeft_2 : decode cX1_allToldLeft 2 = .ok (.iconst 0, 1) := by decide +kernel
theorem dX1_allToldLeft_3 : decode cX1_allToldLeft 3 = .ok (.istore_n 2, 1) := by decide +kernel
theorem dX1_allToldLeft_4 : decode cX1_allToldLeft 4 = .ok (.iload_n 2, 1) := by decide +kernel
theorem dX1_allToldLeft_5 : decode cX1_allToldLeft 5 = .ok (.iconst 4, 1) := by decide +kernel
theorem dX1_allToldLeft_6 : decode cX1_allToldLeft 6 = .ok (.if_icmp .ge 17, 3) := by decide +kernel
theorem dX1_allToldLeft_9 : decode cX1_allToldLeft 9 = .ok (.iload_n 1, 1) := by decide +kernel
theorem dX1_allToldLeft_10 : decode cX1_allToldLeft 10 = .ok (.aload_n 0, 1) := by decide +kernel
theorem dX1_allToldLeft_11 : decode cX1_allToldLeft 11 = .ok (.iload_n 2, 1) := by decide +kernel
theorem dX1_allToldLeft_12 : decode cX1_allToldLeft 12 = .ok (.invokevirtual 102, 3) := by decide +kernel
theorem dX1_allToldLeft_15 : decode cX1_allToldLeft 15 = .ok (.iadd, 1) := by decide +kernel
theorem dX1_allToldLeft_16 : decode cX1_allToldLeft 16 = .ok (.istore_n 1, 1) := by decide +kernel
theorem dX1_allToldLeft_17 : decode cX1_allToldLeft 17 = .ok (.iinc 2 1, 3) := by decide +kernel
theorem dX1_allToldLeft_20 : decode cX1_allToldLeft 20 = .ok (.goto (-16), 3) := by decide +kernel
theorem dX1_allToldLeft_23 : decode cX1_allToldLeft 23 = .ok (.iload_n 1, 1) := by decide +kernel
theorem dX1_allToldLeft_24 : decode cX1_allToldLeft 24 = .ok (.ireturn, 1) := by decide +kernel
theorem dX1_cupsOvertold_0 : decode cX1_cupsOvertold 0 = .ok (.iconst 0, 1) := by decide +kernel
theorem dX1_cupsOvertold_1 : decode cX1_cupsOvertold 1 = .ok (.istore_n 1, 1) := by decide +kernel
theorem dX1_cupsOvertold_2 : decode cX1_cupsOvertold 2 = .ok (.iconst 0, 1) := by decide +kernel
theorem dX1_cupsOvertold_3 : decode cX1_cupsOvertold 3 = .ok (.istore_n 2, 1) := by decide +kernel
theorem dX1_cupsOvertold_4 : decode cX1_cupsOvertold 4 = .ok (.iload_n 2, 1) := by decide +kernel
theorem dX1_cupsOvertold_5 : decode cX1_cupsOvertold 5 = .ok (.iconst 4, 1) := by decide +kernel
theorem dX1_cupsOvertold_6 : decode cX1_cupsOvertold 6 = .ok (.if_icmp .ge 25, 3) := by decide +kernel
theorem dX1_cupsOvertold_9 : decode cX1_cupsOvertold 9 = .ok (.aload_n 0, 1) := by decide +kernel
theorem dX1_cupsOvertold_10 : decode cX1_cupsOvertold 10 = .ok (.iload_n 2, 1) := by decide +kernel
theorem dX1_cupsOvertold_11 : decode cX1_cupsOvertold 11 = .ok (.invokevirtual 102, 3) := by decide +kernel
theorem dX1_cupsOvertold_14 : decode cX1_cupsOvertold 14 = .ok (.aload_n 0, 1) := by decide +kernel
theorem dX1_cupsOvertold_15 : decode cX1_cupsOvertold 15 = .ok (.iload_n 2, 1) := by decide +kernel
theorem dX1_cupsOvertold_16 : decode cX1_cupsOvertold 16 = .ok (.invokevirtual 96, 3) := by decide +kernel
theorem dX1_cupsOvertold_19 : decode cX1_cupsOvertold 19 = .ok (.if_icmp .le 6, 3) := by decide +kernel
theorem dX1_cupsOvertold_22 : decode cX1_cupsOvertold 22 = .ok (.iinc 1 1, 3) := by decide +kernel
theorem dX1_cupsOvertold_25 : decode cX1_cupsOvertold 25 = .ok (.iinc 2 1, 3) := by decide +kernel
theorem dX1_cupsOvertold_28 : decode cX1_cupsOvertold 28 = .ok (.goto (-24), 3) := by decide +kernel
theorem dX1_cupsOvertold_31 : decode cX1_cupsOvertold 31 = .ok (.iload_n 1, 1) := by decide +kernel
theorem dX1_cupsOvertold_32 : decode cX1_cupsOvertold 32 = .ok (.ireturn, 1) := by decide +kernel
theorem dX1_cupsInside_0 : decode cX1_cupsInside 0 = .ok (.iconst 0, 1) := by decide +kernel
theorem dX1_cupsInside_1 : decode cX1_cupsInside 1 = .ok (.istore_n 1, 1) := by decide +kernel
theorem dX1_cupsInside_2 : decode cX1_cupsInside 2 = .ok (.iconst 0, 1) := by decide +kernel
theorem dX1_cupsInside_3 : decode cX1_cupsInside 3 = .ok (.istore_n 2, 1) := by decide +kernel
theorem dX1_cupsInside_4 : decode cX1_cupsInside 4 = .ok (.iload_n 2, 1) := by decide +kernel
theorem dX1_cupsInside_5 : decode cX1_cupsInside 5 = .ok (.iconst 2, 1) := by decide +kernel
theorem dX1_cupsInside_6 : decode cX1_cupsInside 6 = .ok (.if_icmp .ge 24, 3) := by decide +kernel
theorem dX1_cupsInside_9 : decode cX1_cupsInside 9 = .ok (.aload_n 0, 1) := by decide +kernel
theorem dX1_cupsInside_10 : decode cX1_cupsInside 10 = .ok (.getfield 27, 3) := by decide +kernel
theorem dX1_cupsInside_13 : decode cX1_cupsInside 13 = .ok (.iload_n 2, 1) := by decide +kernel
theorem dX1_cupsInside_14 : decode cX1_cupsInside 14 = .ok (.iaload, 1) := by decide +kernel
theorem dX1_cupsInside_15 : decode cX1_cupsInside 15 = .ok (.invokestatic 65, 3) := by decide +kernel
theorem dX1_cupsInside_18 : decode cX1_cupsInside 18 = .ok (.ifCond .eq 6, 3) := by decide +kernel
theorem dX1_cupsInside_21 : decode cX1_cupsInside 21 = .ok (.iinc 1 1, 3) := by decide +kernel
theorem dX1_cupsInside_24 : decode cX1_cupsInside 24 = .ok (.iinc 2 1, 3) := by decide +kernel
theorem dX1_cupsInside_27 : decode cX1_cupsInside 27 = .ok (.goto (-23), 3) := by decide +kernel
theorem dX1_cupsInside_30 : decode cX1_cupsInside 30 = .ok (.iload_n 1, 1) := by decide +kernel
theorem dX1_cupsInside_31 : decode cX1_cupsInside 31 = .ok (.ireturn, 1) := by decide +kernel
theorem dX1_darkOfAll_0 : decode cX1_darkOfAll 0 = .ok (.aload_n 0, 1) := by decide +kernel
theorem dX1_darkOfAll_1 : decode cX1_darkOfAll 1 = .ok (.getfield 30, 3) := by decide +kernel
theorem dX1_darkOfAll_4 : decode cX1_darkOfAll 4 = .ok (.iconst 0, 1) := by decide +kernel
theorem dX1_darkOfAll_5 : decode cX1_darkOfAll 5 = .ok (.iaload, 1) := by decide +kernel
theorem dX1_darkOfAll_6 : decode cX1_darkOfAll 6 = .ok (.aload_n 0, 1) := by decide +kernel
theorem dX1_darkOfAll_7 : decode cX1_darkOfAll 7 = .ok (.getfield 30, 3) := by decide +kernel
theorem dX1_darkOfAll_10 : decode cX1_darkOfAll 10 = .ok (.iconst 1, 1) := by decide +kernel
theorem dX1_darkOfAll_11 : decode cX1_darkOfAll 11 = .ok (.iaload, 1) := by decide +kernel
theorem dX1_darkOfAll_12 : decode cX1_darkOfAll 12 = .ok (.iadd, 1) := by decide +kernel
theorem dX1_darkOfAll_13 : decode cX1_darkOfAll 13 = .ok (.ireturn, 1) := by decide +kernel
theorem dX1_lightOfAll_0 : decode cX1_lightOfAll 0 = .ok (.aload_n 0, 1) := by decide +kernel
theorem dX1_lightOfAll_1 : decode cX1_lightOfAll 1 = .ok (.getfield 33, 3) := by decide +kernel
theorem dX1_lightOfAll_4 : decode cX1_lightOfAll 4 = .ok (.iconst 0, 1) := by decide +kernel
theorem dX1_lightOfAll_5 : decode cX1_lightOfAll 5 = .ok (.iaload, 1) := by decide +kernel
theorem dX1_lightOfAll_6 : decode cX1_lightOfAll 6 = .ok (.aload_n 0, 1) := by decide +kernel
theorem dX1_lightOfAll_7 : decode cX1_lightOfAll 7 = .ok (.getfield 33, 3) := by decide +kernel
theorem dX1_lightOfAll_10 : decode cX1_lightOfAll 10 = .ok (.iconst 1, 1) := by decide +kernel
theorem dX1_lightOfAll_11 : decode cX1_lightOfAll 11 = .ok (.iaload, 1) := by decide +kernel
theorem dX1_lightOfAll_12 : decode cX1_lightOfAll 12 = .ok (.iadd, 1) := by decide +kernel
theorem dX1_lightOfAll_13 : decode cX1_lightOfAll 13 = .ok (.ireturn, 1) := by decide +kernel
theorem dX1_pagesLasting_0 : decode cX1_pagesLasting 0 = .ok (.aload_n 0, 1) := by decide +kernel
theorem dX1_pagesLasting_1 : decode cX1_pagesLasting 1 = .ok (.getfield 18, 3) := by decide +kernel
theorem dX1_pagesLasting_4 : decode cX1_pagesLasting 4 = .ok (.iload_n 1, 1) := by decide +kernel
theorem dX1_pagesLasting_5 : decode cX1_pagesLasting 5 = .ok (.iaload, 1) := by decide +kernel
theorem dX1_pagesLasting_6 : decode cX1_pagesLasting 6 = .ok (.istore 5, 2) := by decide +kernel
theorem dX1_pagesLasting_8 : decode cX1_pagesLasting 8 = .ok (.aload_n 0, 1) := by decide +kernel
theorem dX1_pagesLasting_9 : decode cX1_pagesLasting 9 = .ok (.getfield 21, 3) := by decide +kernel
theorem dX1_pagesLasting_12 : decode cX1_pagesLasting 12 = .ok (.iload_n 1, 1) := by decide +kernel
theorem dX1_pagesLasting_13 : decode cX1_pagesLasting 13 = .ok (.iaload, 1) := by decide +kernel
theorem dX1_pagesLasting_14 : decode cX1_pagesLasting 14 = .ok (.istore 6, 2) := by decide +kernel
theorem dX1_pagesLasting_16 : decode cX1_pagesLasting 16 = .ok (.iconst 0, 1) := by decide +kernel
theorem dX1_pagesLasting_17 : decode cX1_pagesLasting 17 = .ok (.istore 7, 2) := by decide +kernel
theorem dX1_pagesLasting_19 : decode cX1_pagesLasting 19 = .ok (.iload 7, 2) := by decide +kernel
theorem dX1_pagesLasting_21 : decode cX1_pagesLasting 21 = .ok (.iload 4, 2) := by decide +kernel
theorem dX1_pagesLasting_23 : decode cX1_pagesLasting 23 = .ok (.if_icmp .ge 99, 3) := by decide +kernel
theorem dX1_pagesLasting_26 : decode cX1_pagesLasting 26 = .ok (.iload_n 3, 1) := by decide +kernel
theorem dX1_pagesLasting_27 : decode cX1_pagesLasting 27 = .ok (.ifCond .eq 44, 3) := by decide +kernel
theorem dX1_pagesLasting_30 : decode cX1_pagesLasting 30 = .ok (.iload 5, 2) := by decide +kernel
theorem dX1_pagesLasting_32 : decode cX1_pagesLasting 32 = .ok (.iload_n 2, 1) := by decide +kernel
theorem dX1_pagesLasting_33 : decode cX1_pagesLasting 33 = .ok (.invokestatic 105, 3) := by decide +kernel
theorem dX1_pagesLasting_36 : decode cX1_pagesLasting 36 = .ok (.ifCond .ne 35, 3) := by decide +kernel
theorem dX1_pagesLasting_39 : decode cX1_pagesLasting 39 = .ok (.iload 5, 2) := by decide +kernel
theorem dX1_pagesLasting_41 : decode cX1_pagesLasting 41 = .ok (.iload 6, 2) := by decide +kernel
theorem dX1_pagesLasting_43 : decode cX1_pagesLasting 43 = .ok (.iconst 2, 1) := by decide +kernel
theorem dX1_pagesLasting_44 : decode cX1_pagesLasting 44 = .ok (.idiv, 1) := by decide +kernel
theorem dX1_pagesLasting_45 : decode cX1_pagesLasting 45 = .ok (.iadd, 1) := by decide +kernel
theorem dX1_pagesLasting_46 : decode cX1_pagesLasting 46 = .ok (.iload_n 2, 1) := by decide +kernel
theorem dX1_pagesLasting_47 : decode cX1_pagesLasting 47 = .ok (.invokestatic 105, 3) := by decide +kernel
theorem dX1_pagesLasting_50 : decode cX1_pagesLasting 50 = .ok (.ifCond .eq 21, 3) := by decide +kernel
theorem dX1_pagesLasting_53 : decode cX1_pagesLasting 53 = .ok (.iload 5, 2) := by decide +kernel
theorem dX1_pagesLasting_55 : decode cX1_pagesLasting 55 = .ok (.iload 6, 2) := by decide +kernel
theorem dX1_pagesLasting_57 : decode cX1_pagesLasting 57 = .ok (.iconst 2, 1) := by decide +kernel
theorem dX1_pagesLasting_58 : decode cX1_pagesLasting 58 = .ok (.idiv, 1) := by decide +kernel
theorem dX1_pagesLasting_59 : decode cX1_pagesLasting 59 = .ok (.iadd, 1) := by decide +kernel
theorem dX1_pagesLasting_60 : decode cX1_pagesLasting 60 = .ok (.istore 5, 2) := by decide +kernel
theorem dX1_pagesLasting_62 : decode cX1_pagesLasting 62 = .ok (.iload 6, 2) := by decide +kernel
theorem dX1_pagesLasting_64 : decode cX1_pagesLasting 64 = .ok (.iload 6, 2) := by decide +kernel
theorem dX1_pagesLasting_66 : decode cX1_pagesLasting 66 = .ok (.iconst 2, 1) := by decide +kernel
theorem dX1_pagesLasting_67 : decode cX1_pagesLasting 67 = .ok (.idiv, 1) := by decide +kernel
theorem dX1_pagesLasting_68 : decode cX1_pagesLasting 68 = .ok (.isub, 1) := by decide +kernel
theorem dX1_pagesLasting_69 : decode cX1_pagesLasting 69 = .ok (.istore 6, 2) := by decide +kernel
theorem dX1_pagesLasting_71 : decode cX1_pagesLasting 71 = .ok (.iload 5, 2) := by decide +kernel
theorem dX1_pagesLasting_73 : decode cX1_pagesLasting 73 = .ok (.iload_n 2, 1) := by decide +kernel
theorem dX1_pagesLasting_74 : decode cX1_pagesLasting 74 = .ok (.invokestatic 105, 3) := by decide +kernel
theorem dX1_pagesLasting_77 : decode cX1_pagesLasting 77 = .ok (.ifCond .ne 6, 3) := by decide +kernel
theorem dX1_pagesLasting_80 : decode cX1_pagesLasting 80 = .ok (.iload 7, 2) := by decide +kernel
theorem dX1_pagesLasting_82 : decode cX1_pagesLasting 82 = .ok (.ireturn, 1) := by decide +kernel
theorem dX1_pagesLasting_83 : decode cX1_pagesLasting 83 = .ok (.iload 5, 2) := by decide +kernel
theorem dX1_pagesLasting_85 : decode cX1_pagesLasting 85 = .ok (.iload_n 2, 1) := by decide +kernel
theorem dX1_pagesLasting_86 : decode cX1_pagesLasting 86 = .ok (.isub, 1) := by decide +kernel
theorem dX1_pagesLasting_87 : decode cX1_pagesLasting 87 = .ok (.istore 5, 2) := by decide +kernel
theorem dX1_pagesLasting_89 : decode cX1_pagesLasting 89 = .ok (.iload 5, 2) := by decide +kernel
theorem dX1_pagesLasting_91 : decode cX1_pagesLasting 91 = .ok (.aload_n 0, 1) := by decide +kernel
theorem dX1_pagesLasting_92 : decode cX1_pagesLasting 92 = .ok (.getfield 9, 3) := by decide +kernel
theorem dX1_pagesLasting_95 : decode cX1_pagesLasting 95 = .ok (.iconst 1, 1) := by decide +kernel
theorem dX1_pagesLasting_96 : decode cX1_pagesLasting 96 = .ok (.iaload, 1) := by decide +kernel
theorem dX1_pagesLasting_97 : decode cX1_pagesLasting 97 = .ok (.invokestatic 84, 3) := by decide +kernel
theorem dX1_pagesLasting_100 : decode cX1_pagesLasting 100 = .ok (.istore 8, 2) := by decide +kernel
theorem dX1_pagesLasting_102 : decode cX1_pagesLasting 102 = .ok (.iload 5, 2) := by decide +kernel
theorem dX1_pagesLasting_104 : decode cX1_pagesLasting 104 = .ok (.iload 8, 2) := by decide +kernel
theorem dX1_pagesLasting_106 : decode cX1_pagesLasting 106 = .ok (.isub, 1) := by decide +kernel
theorem dX1_pagesLasting_107 : decode cX1_pagesLasting 107 = .ok (.istore 5, 2) := by decide +kernel
theorem dX1_pagesLasting_109 : decode cX1_pagesLasting 109 = .ok (.iload 6, 2) := by decide +kernel
theorem dX1_pagesLasting_111 : decode cX1_pagesLasting 111 = .ok (.iload 8, 2) := by decide +kernel
theorem dX1_pagesLasting_113 : decode cX1_pagesLasting 113 = .ok (.iadd, 1) := by decide +kernel
theorem dX1_pagesLasting_114 : decode cX1_pagesLasting 114 = .ok (.istore 6, 2) := by decide +kernel
theorem dX1_pagesLasting_116 : decode cX1_pagesLasting 116 = .ok (.iinc 7 1, 3) := by decide +kernel
theorem dX1_pagesLasting_119 : decode cX1_pagesLasting 119 = .ok (.goto (-100), 3) := by decide +kernel
theorem dX1_pagesLasting_122 : decode cX1_pagesLasting 122 = .ok (.iload 4, 2) := by decide +kernel
theorem dX1_pagesLasting_124 : decode cX1_pagesLasting 124 = .ok (.ireturn, 1) := by decide +kernel
theorem dX1_lastsShaken_0 : decode cX1_lastsShaken 0 = .ok (.aload_n 0, 1) := by decide +kernel
theorem dX1_lastsShaken_1 : decode cX1_lastsShaken 1 = .ok (.iload_n 1, 1) := by decide +kernel
theorem dX1_lastsShaken_2 : decode cX1_lastsShaken 2 = .ok (.aload_n 0, 1) := by decide +kernel
theorem dX1_lastsShaken_3 : decode cX1_lastsShaken 3 = .ok (.iload_n 1, 1) := by decide +kernel
theorem dX1_lastsShaken_4 : decode cX1_lastsShaken 4 = .ok (.iload_n 2, 1) := by decide +kernel
theorem dX1_lastsShaken_5 : decode cX1_lastsShaken 5 = .ok (.iload_n 3, 1) := by decide +kernel
theorem dX1_lastsShaken_6 : decode cX1_lastsShaken 6 = .ok (.invokevirtual 61, 3) := by decide +kernel
theorem dX1_lastsShaken_9 : decode cX1_lastsShaken 9 = .ok (.iconst 1, 1) := by decide +kernel
theorem dX1_lastsShaken_10 : decode cX1_lastsShaken 10 = .ok (.iload 4, 2) := by decide +kernel
theorem dX1_lastsShaken_12 : decode cX1_lastsShaken 12 = .ok (.invokevirtual 109, 3) := by decide +kernel
theorem dX1_lastsShaken_15 : decode cX1_lastsShaken 15 = .ok (.iload 4, 2) := by decide +kernel
theorem dX1_lastsShaken_17 : decode cX1_lastsShaken 17 = .ok (.if_icmp .lt 7, 3) := by decide +kernel
theorem dX1_lastsShaken_20 : decode cX1_lastsShaken 20 = .ok (.iconst 1, 1) := by decide +kernel
theorem dX1_lastsShaken_21 : decode cX1_lastsShaken 21 = .ok (.goto 4, 3) := by decide +kernel
theorem dX1_lastsShaken_24 : decode cX1_lastsShaken 24 = .ok (.iconst 0, 1) := by decide +kernel
theorem dX1_lastsShaken_25 : decode cX1_lastsShaken 25 = .ok (.ireturn, 1) := by decide +kernel
theorem dX1_wouldBeDark_0 : decode cX1_wouldBeDark 0 = .ok (.iload_n 0, 1) := by decide +kernel
theorem dX1_wouldBeDark_1 : decode cX1_wouldBeDark 1 = .ok (.ifCond .le 12, 3) := by decide +kernel
theorem dX1_wouldBeDark_4 : decode cX1_wouldBeDark 4 = .ok (.iload_n 0, 1) := by decide +kernel
theorem dX1_wouldBeDark_5 : decode cX1_wouldBeDark 5 = .ok (.iload_n 1, 1) := by decide +kernel
theorem dX1_wouldBeDark_6 : decode cX1_wouldBeDark 6 = .ok (.if_icmp .lt 7, 3) := by decide +kernel
theorem dX1_wouldBeDark_9 : decode cX1_wouldBeDark 9 = .ok (.iconst 1, 1) := by decide +kernel
theorem dX1_wouldBeDark_10 : decode cX1_wouldBeDark 10 = .ok (.goto 4, 3) := by decide +kernel
theorem dX1_wouldBeDark_13 : decode cX1_wouldBeDark 13 = .ok (.iconst 0, 1) := by decide +kernel
theorem dX1_wouldBeDark_14 : decode cX1_wouldBeDark 14 = .ok (.ireturn, 1) := by decide +kernel
theorem dX1_handPageByPage_0 : decode cX1_handPageByPage 0 = .ok (.aload_n 0, 1) := by decide +kernel
theorem dX1_handPageByPage_1 : decode cX1_handPageByPage 1 = .ok (.getfield 18, 3) := by decide +kernel
theorem dX1_handPageByPage_4 : decode cX1_handPageByPage 4 = .ok (.iload_n 1, 1) := by decide +kernel
theorem dX1_handPageByPage_5 : decode cX1_handPageByPage 5 = .ok (.iaload, 1) := by decide +kernel
theorem dX1_handPageByPage_6 : decode cX1_handPageByPage 6 = .ok (.istore 4, 2) := by decide +kernel
theorem dX1_handPageByPage_8 : decode cX1_handPageByPage 8 = .ok (.iconst 0, 1) := by decide +kernel
theorem dX1_handPageByPage_9 : decode cX1_handPageByPage 9 = .ok (.istore 5, 2) := by decide +kernel
theorem dX1_handPageByPage_11 : decode cX1_handPageByPage 11 = .ok (.iload 5, 2) := by decide +kernel
theorem dX1_handPageByPage_13 : decode cX1_handPageByPage 13 = .ok (.iload_n 3, 1) := by decide +kernel
theorem dX1_handPageByPage_14 : decode cX1_handPageByPage 14 = .ok (.if_icmp .ge 31, 3) := by decide +kernel
theorem dX1_handPageByPage_17 : decode cX1_handPageByPage 17 = .ok (.iload 4, 2) := by decide +kernel
theorem dX1_handPageByPage_19 : decode cX1_handPageByPage 19 = .ok (.iload_n 2, 1) := by decide +kernel
theorem dX1_handPageByPage_20 : decode cX1_handPageByPage 20 = .ok (.isub, 1) := by decide +kernel
theorem dX1_handPageByPage_21 : decode cX1_handPageByPage 21 = .ok (.istore 4, 2) := by decide +kernel
theorem dX1_handPageByPage_23 : decode cX1_handPageByPage 23 = .ok (.iload 4, 2) := by decide +kernel
theorem dX1_handPageByPage_25 : decode cX1_handPageByPage 25 = .ok (.iload 4, 2) := by decide +kernel
theorem dX1_handPageByPage_27 : decode cX1_handPageByPage 27 = .ok (.aload_n 0, 1) := by decide +kernel
theorem dX1_handPageByPage_28 : decode cX1_handPageByPage 28 = .ok (.getfield 9, 3) := by decide +kernel
theorem dX1_handPageByPage_31 : decode cX1_handPageByPage 31 = .ok (.iconst 1, 1) := by decide +kernel
theorem dX1_handPageByPage_32 : decode cX1_handPageByPage 32 = .ok (.iaload, 1) := by decide +kernel
theorem dX1_handPageByPage_33 : decode cX1_handPageByPage 33 = .ok (.invokestatic 84, 3) := by decide +kernel
theorem dX1_handPageByPage_36 : decode cX1_handPageByPage 36 = .ok (.isub, 1) := by decide +kernel
theorem dX1_handPageByPage_37 : decode cX1_handPageByPage 37 = .ok (.istore 4, 2) := by decide +kernel
theorem dX1_handPageByPage_39 : decode cX1_handPageByPage 39 = .ok (.iinc 5 1, 3) := by decide +kernel
theorem dX1_handPageByPage_42 : decode cX1_handPageByPage 42 = .ok (.goto (-31), 3) := by decide +kernel
theorem dX1_handPageByPage_45 : decode cX1_handPageByPage 45 = .ok (.iload 4, 2) := by decide +kernel
theorem dX1_handPageByPage_47 : decode cX1_handPageByPage 47 = .ok (.ireturn, 1) := by decide +kernel
theorem dX1_handAddedUp_0 : decode cX1_handAddedUp 0 = .ok (.aload_n 0, 1) := by decide +kernel
theorem dX1_handAddedUp_1 : decode cX1_handAddedUp 1 = .ok (.getfield 18, 3) := by decide +kernel
theorem dX1_handAddedUp_4 : decode cX1_handAddedUp 4 = .ok (.iload_n 1, 1) := by decide +kernel
theorem dX1_handAddedUp_5 : decode cX1_handAddedUp 5 = .ok (.iaload, 1) := by decide +kernel
theorem dX1_handAddedUp_6 : decode cX1_handAddedUp 6 = .ok (.istore 4, 2) := by decide +kernel
theorem dX1_handAddedUp_8 : decode cX1_handAddedUp 8 = .ok (.iconst 0, 1) := by decide +kernel
theorem dX1_handAddedUp_9 : decode cX1_handAddedUp 9 = .ok (.istore 5, 2) := by decide +kernel
theorem dX1_handAddedUp_11 : decode cX1_handAddedUp 11 = .ok (.iconst 0, 1) := by decide +kernel
theorem dX1_handAddedUp_12 : decode cX1_handAddedUp 12 = .ok (.istore 6, 2) := by decide +kernel
theorem dX1_handAddedUp_14 : decode cX1_handAddedUp 14 = .ok (.iconst 0, 1) := by decide +kernel
theorem dX1_handAddedUp_15 : decode cX1_handAddedUp 15 = .ok (.istore 7, 2) := by decide +kernel
theorem dX1_handAddedUp_17 : decode cX1_handAddedUp 17 = .ok (.iload 7, 2) := by decide +kernel
theorem dX1_handAddedUp_19 : decode cX1_handAddedUp 19 = .ok (.iload_n 3, 1) := by decide +kernel
theorem dX1_handAddedUp_20 : decode cX1_handAddedUp 20 = .ok (.if_icmp .ge 37, 3) := by decide +kernel
theorem dX1_handAddedUp_23 : decode cX1_handAddedUp 23 = .ok (.iload 5, 2) := by decide +kernel
theorem dX1_handAddedUp_25 : decode cX1_handAddedUp 25 = .ok (.iload_n 2, 1) := by decide +kernel
theorem dX1_handAddedUp_26 : decode cX1_handAddedUp 26 = .ok (.iadd, 1) := by decide +kernel
theorem dX1_handAddedUp_27 : decode cX1_handAddedUp 27 = .ok (.istore 5, 2) := by decide +kernel
theorem dX1_handAddedUp_29 : decode cX1_handAddedUp 29 = .ok (.iload 6, 2) := by decide +kernel
theorem dX1_handAddedUp_31 : decode cX1_handAddedUp 31 = .ok (.iload 4, 2) := by decide +kernel
theorem dX1_handAddedUp_33 : decode cX1_handAddedUp 33 = .ok (.iload 5, 2) := by decide +kernel
theorem dX1_handAddedUp_35 : decode cX1_handAddedUp 35 = .ok (.isub, 1) := by decide +kernel
theorem dX1_handAddedUp_36 : decode cX1_handAddedUp 36 = .ok (.iload 6, 2) := by decide +kernel
theorem dX1_handAddedUp_38 : decode cX1_handAddedUp 38 = .ok (.isub, 1) := by decide +kernel
theorem dX1_handAddedUp_39 : decode cX1_handAddedUp 39 = .ok (.aload_n 0, 1) := by decide +kernel
theorem dX1_handAddedUp_40 : decode cX1_handAddedUp 40 = .ok (.getfield 9, 3) := by decide +kernel
theorem dX1_handAddedUp_43 : decode cX1_handAddedUp 43 = .ok (.iconst 1, 1) := by decide +kernel
theorem dX1_handAddedUp_44 : decode cX1_handAddedUp 44 = .ok (.iaload, 1) := by decide +kernel
theorem dX1_handAddedUp_45 : decode cX1_handAddedUp 45 = .ok (.invokestatic 84, 3) := by decide +kernel
theorem dX1_handAddedUp_48 : decode cX1_handAddedUp 48 = .ok (.iadd, 1) := by decide +kernel
theorem dX1_handAddedUp_49 : decode cX1_handAddedUp 49 = .ok (.istore 6, 2) := by decide +kernel
theorem dX1_handAddedUp_51 : decode cX1_handAddedUp 51 = .ok (.iinc 7 1, 3) := by decide +kernel
theorem dX1_handAddedUp_54 : decode cX1_handAddedUp 54 = .ok (.goto (-37), 3) := by decide +kernel
theorem dX1_handAddedUp_57 : decode cX1_handAddedUp 57 = .ok (.iload 4, 2) := by decide +kernel
theorem dX1_handAddedUp_59 : decode cX1_handAddedUp 59 = .ok (.iload 5, 2) := by decide +kernel
theorem dX1_handAddedUp_61 : decode cX1_handAddedUp 61 = .ok (.isub, 1) := by decide +kernel
theorem dX1_handAddedUp_62 : decode cX1_handAddedUp 62 = .ok (.iload 6, 2) := by decide +kernel
theorem dX1_handAddedUp_64 : decode cX1_handAddedUp 64 = .ok (.isub, 1) := by decide +kernel
theorem dX1_handAddedUp_65 : decode cX1_handAddedUp 65 = .ok (.ireturn, 1) := by decide +kernel
theorem dX2_init_0 : decode cX2_init 0 = .ok (.aload_n 0, 1) := by decide +kernel
theorem dX2_init_1 : decode cX2_init 1 = .ok (.invokespecial 3, 3) := by decide +kernel
theorem dX2_init_4 : decode cX2_init 4 = .ok (.aload_n 0, 1) := by decide +kernel
theorem dX2_init_5 : decode cX2_init 5 = .ok (.bipush 60, 2) := by decide +kernel
theorem dX2_init_7 : decode cX2_init 7 = .ok (.newarray .char, 2) := by decide +kernel
theorem dX2_init_9 : decode cX2_init 9 = .ok (.putfield 11, 3) := by decide +kernel
theorem dX2_init_12 : decode cX2_init 12 = .ok (.aload_n 0, 1) := by decide +kernel
theorem dX2_init_13 : decode cX2_init 13 = .ok (.iconst 0, 1) := by decide +kernel
theorem dX2_init_14 : decode cX2_init 14 = .ok (.putfield 15, 3) := by decide +kernel
theorem dX2_init_17 : decode cX2_init 17 = .ok (.aload_n 0, 1) := by decide +kernel
theorem dX2_init_18 : decode cX2_init 18 = .ok (.iconst 0, 1) := by decide +kernel
theorem dX2_init_19 : decode cX2_init 19 = .ok (.putfield 19, 3) := by decide +kernel
theorem dX2_init_22 : decode cX2_init 22 = .ok (.aload_n 0, 1) := by decide +kernel
theorem dX2_init_23 : decode cX2_init 23 = .ok (.iconst 0, 1) := by decide +kernel
theorem dX2_init_24 : decode cX2_init 24 = .ok (.putfield 22, 3) := by decide +kernel
theorem dX2_init_27 : decode cX2_init 27 = .ok (.aload_n 0, 1) := by decide +kernel
theorem dX2_init_28 : decode cX2_init 28 = .ok (.bipush 30, 2) := by decide +kernel
theorem dX2_init_30 : decode cX2_init 30 = .ok (.newarray .char, 2) := by decide +kernel
theorem dX2_init_32 : decode cX2_init 32 = .ok (.putfield 25, 3) := by decide +kernel
theorem dX2_init_35 : decode cX2_init 35 = .ok (.aload_n 0, 1) := by decide +kernel
theorem dX2_init_36 : decode cX2_init 36 = .ok (.bipush 30, 2) := by decide +kernel
theorem dX2_init_38 : decode cX2_init 38 = .ok (.newarray .int, 2) := by decide +kernel
theorem dX2_init_40 : decode cX2_init 40 = .ok (.putfield 28, 3) := by decide +kernel
theorem dX2_init_43 : decode cX2_init 43 = .ok (.aload_n 0, 1) := by decide +kernel
theorem dX2_init_44 : decode cX2_init 44 = .ok (.bipush 30, 2) := by decide +kernel
theorem dX2_init_46 : decode cX2_init 46 = .ok (.newarray .int, 2) := by decide +kernel
theorem dX2_init_48 : decode cX2_init 48 = .ok (.putfield 32, 3) := by decide +kernel
theorem dX2_init_51 : decode cX2_init 51 = .ok (.aload_n 0, 1) := by decide +kernel
theorem dX2_init_52 : decode cX2_init 52 = .ok (.bipush 30, 2) := by decide +kernel
theorem dX2_init_54 : decode cX2_init 54 = .ok (.newarray .int, 2) := by decide +kernel
theorem dX2_init_56 : decode cX2_init 56 = .ok (.putfield 35, 3) := by decide +kernel
theorem dX2_init_59 : decode cX2_init 59 = .ok (.aload_n 0, 1) := by decide +kernel
theorem dX2_init_60 : decode cX2_init 60 = .ok (.bipush 30, 2) := by decide +kernel
theorem dX2_init_62 : decode cX2_init 62 = .ok (.newarray .int, 2) := by decide +kernel
theorem dX2_init_64 : decode cX2_init 64 = .ok (.putfield 38, 3) := by decide +kernel
theorem dX2_init_67 : decode cX2_init 67 = .ok (.return_, 1) := by decide +kernel
theorem dX2_hasRoom_0 : decode cX2_hasRoom 0 = .ok (.aload_n 0, 1) := by decide +kernel
theorem dX2_hasRoom_1 : decode cX2_hasRoom 1 = .ok (.getfield 15, 3) := by decide +kernel
theorem dX2_hasRoom_4 : decode cX2_hasRoom 4 = .ok (.bipush 60, 2) := by decide +kernel
theorem dX2_hasRoom_6 : decode cX2_hasRoom 6 = .ok (.if_icmp .ge 7, 3) := by decide +kernel
theorem dX2_hasRoom_9 : decode cX2_hasRoom 9 = .ok (.iconst 1, 1) := by decide +kernel
theorem dX2_hasRoom_10 : decode cX2_hasRoom 10 = .ok (.goto 4, 3) := by decide +kernel
theorem dX2_hasRoom_13 : decode cX2_hasRoom 13 = .ok (.iconst 0, 1) := by decide +kernel
theorem dX2_hasRoom_14 : decode cX2_hasRoom 14 = .ok (.ireturn, 1) := by decide +kernel
theorem dX2_add_0 : decode cX2_add 0 = .ok (.aload_n 0, 1) := by decide +kernel
theorem dX2_add_1 : decode cX2_add 1 = .ok (.invokevirtual 41, 3) := by decide +kernel
theorem dX2_add_4 : decode cX2_add 4 = .ok (.ifCond .eq 23, 3) := by decide +kernel
theorem dX2_add_7 : decode cX2_add 7 = .ok (.aload_n 0, 1) := by decide +kernel
theorem dX2_add_8 : decode cX2_add 8 = .ok (.getfield 11, 3) := by decide +kernel
theorem dX2_add_11 : decode cX2_add 11 = .ok (.aload_n 0, 1) := by decide +kernel
theorem dX2_add_12 : decode cX2_add 12 = .ok (.getfield 15, 3) := by decide +kernel
theorem dX2_add_15 : decode cX2_add 15 = .ok (.iload_n 1, 1) := by decide +kernel
theorem dX2_add_16 : decode cX2_add 16 = .ok (.castore, 1) := by decide +kernel
theorem dX2_add_17 : decode cX2_add 17 = .ok (.aload_n 0, 1) := by decide +kernel
theorem dX2_add_18 : decode cX2_add 18 = .ok (.dup, 1) := by decide +kernel
theorem dX2_add_19 : decode cX2_add 19 = .ok (.getfield 15, 3) := by decide +kernel
theorem dX2_add_22 : decode cX2_add 22 = .ok (.iconst 1, 1) := by decide +kernel
theorem dX2_add_23 : decode cX2_add 23 = .ok (.iadd, 1) := by decide +kernel
theorem dX2_add_24 : decode cX2_add 24 = .ok (.putfield 15, 3) := by decide +kernel
theorem dX2_add_27 : decode cX2_add 27 = .ok (.return_, 1) := by decide +kernel
theorem dX2_wipe_0 : decode cX2_wipe 0 = .ok (.aload_n 0, 1) := by decide +kernel
theorem dX2_wipe_1 : decode cX2_wipe 1 = .ok (.iconst 0, 1) := by decide +kernel
theorem dX2_wipe_2 : decode cX2_wipe 2 = .ok (.putfield 15, 3) := by decide +kernel
theorem dX2_wipe_5 : decode cX2_wipe 5 = .ok (.return_, 1) := by decide +kernel
theorem dX2_findFault_0 : decode cX2_findFault 0 = .ok (.aload_n 0, 1) := by decide +kernel
theorem dX2_findFault_1 : decode cX2_findFault 1 = .ok (.iconst 0, 1) := by decide +kernel
theorem dX2_findFault_2 : decode cX2_findFault 2 = .ok (.putfield 19, 3) := by decide +kernel
theorem dX2_findFault_5 : decode cX2_findFault 5 = .ok (.aload_n 0, 1) := by decide +kernel
theorem dX2_findFault_6 : decode cX2_findFault 6 = .ok (.iconst 0, 1) := by decide +kernel
theorem dX2_findFault_7 : decode cX2_findFault 7 = .ok (.putfield 22, 3) := by decide +kernel
theorem dX2_findFault_10 : decode cX2_findFault 10 = .ok (.aload_n 0, 1) := by decide +kernel
theorem dX2_findFault_11 : decode cX2_findFault 11 = .ok (.invokevirtual 45, 3) := by decide +kernel
theorem dX2_findFault_14 : decode cX2_findFault 14 = .ok (.istore_n 1, 1) := by decide +kernel
theorem dX2_findFault_15 : decode cX2_findFault 15 = .ok (.iconst 1, 1) := by decide +kernel
theorem dX2_findFault_16 : decode cX2_findFault 16 = .ok (.istore_n 2, 1) := by decide +kernel
theorem dX2_findFault_17 : decode cX2_findFault 17 = .ok (.iload_n 2, 1) := by decide +kernel
theorem dX2_findFault_18 : decode cX2_findFault 18 = .ok (.bipush 30, 2) := by decide +kernel
theorem dX2_findFault_20 : decode cX2_findFault 20 = .ok (.if_icmp .ge 27, 3) := by decide +kernel
theorem dX2_findFault_23 : decode cX2_findFault 23 = .ok (.iload_n 1, 1) := by decide +kernel
theorem dX2_findFault_24 : decode cX2_findFault 24 = .ok (.ifCond .eq 23, 3) := by decide +kernel
theorem dX2_findFault_27 : decode cX2_findFault 27 = .ok (.aload_n 0, 1) := by decide +kernel
theorem dX2_findFault_28 : decode cX2_findFault 28 = .ok (.bipush 59, 2) := by decide +kernel
theorem dX2_findFault_30 : decode cX2_findFault 30 = .ok (.invokevirtual 48, 3) := by decide +kernel
theorem dX2_findFault_33 : decode cX2_findFault 33 = .ok (.ifCond .eq 14, 3) := by decide +kernel
theorem dX2_findFault_36 : decode cX2_findFault 36 = .ok (.aload_n 0, 1) := by decide +kernel
theorem dX2_findFault_37 : decode cX2_findFault 37 = .ok (.invokevirtual 45, 3) := by decide +kernel
theorem dX2_findFault_40 : decode cX2_findFault 40 = .ok (.istore_n 1, 1) := by decide +kernel
theorem dX2_findFault_41 : decode cX2_findFault 41 = .ok (.iinc 2 1, 3) := by decide +kernel
theorem dX2_findFault_44 : decode cX2_findFault 44 = .ok (.goto (-27), 3) := by decide +kernel
theorem dX2_findFault_47 : decode cX2_findFault 47 = .ok (.iload_n 1, 1) := by decide +kernel
theorem dX2_findFault_48 : decode cX2_findFault 48 = .ok (.ifCond .eq 19, 3) := by decide +kernel
theorem dX2_findFault_51 : decode cX2_findFault 51 = .ok (.aload_n 0, 1) := by decide +kernel
theorem dX2_findFault_52 : decode cX2_findFault 52 = .ok (.getfield 19, 3) := by decide +kernel
theorem dX2_findFault_55 : decode cX2_findFault 55 = .ok (.aload_n 0, 1) := by decide +kernel
theorem dX2_findFault_56 : decode cX2_findFault 56 = .ok (.getfield 15, 3) := by decide +kernel
theorem dX2_findFault_59 : decode cX2_findFault 59 = .ok (.if_icmp .ne 8, 3) := by decide +kernel
theorem dX2_findFault_62 : decode cX2_findFault 62 = .ok (.bipush (-4), 2) := by decide +kernel
theorem dX2_findFault_64 : decode cX2_findFault 64 = .ok (.goto 7, 3) := by decide +kernel
theorem dX2_findFault_67 : decode cX2_findFault 67 = .ok (.aload_n 0, 1) := by decide +kernel
theorem dX2_findFault_68 : decode cX2_findFault 68 = .ok (.getfield 19, 3) := by decide +kernel
theorem dX2_findFault_71 : decode cX2_findFault 71 = .ok (.ireturn, 1) := by decide +kernel
theorem dX2_readDeed_0 : decode cX2_readDeed 0 = .ok (.aload_n 0, 1) := by decide +kernel
theorem dX2_readDeed_1 : decode cX2_readDeed 1 = .ok (.getfield 22, 3) := by decide +kernel
theorem dX2_readDeed_4 : decode cX2_readDeed 4 = .ok (.bipush 30, 2) := by decide +kernel
theorem dX2_readDeed_6 : decode cX2_readDeed 6 = .ok (.if_icmp .lt 5, 3) := by decide +kernel
theorem dX2_readDeed_9 : decode cX2_readDeed 9 = .ok (.iconst 0, 1) := by decide +kernel
theorem dX2_readDeed_10 : decode cX2_readDeed 10 = .ok (.ireturn, 1) := by decide +kernel
theorem dX2_readDeed_11 : decode cX2_readDeed 11 = .ok (.aload_n 0, 1) := by decide +kernel
theorem dX2_readDeed_12 : decode cX2_readDeed 12 = .ok (.getfield 28, 3) := by decide +kernel
theorem dX2_readDeed_15 : decode cX2_readDeed 15 = .ok (.aload_n 0, 1) := by decide +kernel
theorem dX2_readDeed_16 : decode cX2_readDeed 16 = .ok (.getfield 22, 3) := by decide +kernel
theorem dX2_readDeed_19 : decode cX2_readDeed 19 = .ok (.aload_n 0, 1) := by decide +kernel
theorem dX2_readDeed_20 : decode cX2_readDeed 20 = .ok (.getfield 19, 3) := by decide +kernel
theorem dX2_readDeed_23 : decode cX2_readDeed 23 = .ok (.iastore, 1) := by decide +kernel
theorem dX2_readDeed_24 : decode cX2_readDeed 24 = .ok (.aload_n 0, 1) := by decide +kernel
theorem dX2_readDeed_25 : decode cX2_readDeed 25 = .ok (.bipush 112, 2) := by decide +kernel
theorem dX2_readDeed_27 : decode cX2_readDeed 27 = .ok (.invokevirtual 48, 3) := by decide +kernel
theorem dX2_readDeed_30 : decode cX2_readDeed 30 = .ok (.ifCond .eq 22, 3) := by decide +kernel
theorem dX2_readDeed_33 : decode cX2_readDeed 33 = .ok (.aload_n 0, 1) := by decide +kernel
theorem dX2_readDeed_34 : decode cX2_readDeed 34 = .ok (.getfield 25, 3) := by decide +kernel
theorem dX2_readDeed_37 : decode cX2_readDeed 37 = .ok (.aload_n 0, 1) := by decide +kernel
theorem dX2_readDeed_38 : decode cX2_readDeed 38 = .ok (.getfield 22, 3) := by decide +kernel
theorem dX2_readDeed_41 : decode cX2_readDeed 41 = .ok (.bipush 112, 2) := by decide +kernel
theorem dX2_readDeed_43 : decode cX2_readDeed 43 = .ok (.castore, 1) := by decide +kernel
theorem dX2_readDeed_44 : decode cX2_readDeed 44 = .ok (.aload_n 0, 1) := by decide +kernel
theorem dX2_readDeed_45 : decode cX2_readDeed 45 = .ok (.invokevirtual 52, 3) := by decide +kernel
theorem dX2_readDeed_48 : decode cX2_readDeed 48 = .ok (.istore_n 1, 1) := by decide +kernel
theorem dX2_readDeed_49 : decode cX2_readDeed 49 = .ok (.goto 64, 3) := by decide +kernel
theorem dX2_readDeed_52 : decode cX2_readDeed 52 = .ok (.aload_n 0, 1) := by decide +kernel
theorem dX2_readDeed_53 : decode cX2_readDeed 53 = .ok (.bipush 115, 2) := by decide +kernel
theorem dX2_readDeed_55 : decode cX2_readDeed 55 = .ok (.invokevirtual 48, 3) := by decide +kernel
theorem dX2_readDeed_58 : decode cX2_readDeed 58 = .ok (.ifCond .eq 22, 3) := by decide +kernel
theorem dX2_readDeed_61 : decode cX2_readDeed 61 = .ok (.aload_n 0, 1) := by decide +kernel
theorem dX2_readDeed_62 : decode cX2_readDeed 62 = .ok (.getfield 25, 3) := by decide +kernel
theorem dX2_readDeed_65 : decode cX2_readDeed 65 = .ok (.aload_n 0, 1) := by decide +kernel
theorem dX2_readDeed_66 : decode cX2_readDeed 66 = .ok (.getfield 22, 3) := by decide +kernel
theorem dX2_readDeed_69 : decode cX2_readDeed 69 = .ok (.bipush 115, 2) := by decide +kernel
theorem dX2_readDeed_71 : decode cX2_readDeed 71 = .ok (.castore, 1) := by decide +kernel
theorem dX2_readDeed_72 : decode cX2_readDeed 72 = .ok (.aload_n 0, 1) := by decide +kernel
theorem dX2_readDeed_73 : decode cX2_readDeed 73 = .ok (.invokevirtual 55, 3) := by decide +kernel
theorem dX2_readDeed_76 : decode cX2_readDeed 76 = .ok (.istore_n 1, 1) := by decide +kernel
theorem dX2_readDeed_77 : decode cX2_readDeed 77 = .ok (.goto 36, 3) := by decide +kernel
theorem dX2_readDeed_80 : decode cX2_readDeed 80 = .ok (.aload_n 0, 1) := by decide +kernel
theorem dX2_readDeed_81 : decode cX2_readDeed 81 = .ok (.getfield 25, 3) := by decide +kernel
theorem dX2_readDeed_84 : decode cX2_readDeed 84 = .ok (.aload_n 0, 1) := by decide +kernel
theorem dX2_readDeed_85 : decode cX2_readDeed 85 = .ok (.getfield 22, 3) := by decide +kernel
theorem dX2_readDeed_88 : decode cX2_readDeed 88 = .ok (.bipush 109, 2) := by decide +kernel
theorem dX2_readDeed_90 : decode cX2_readDeed 90 = .ok (.castore, 1) := by decide +kernel
theorem dX2_readDeed_91 : decode cX2_readDeed 91 = .ok (.aload_n 0, 1) := by decide +kernel
theorem dX2_readDeed_92 : decode cX2_readDeed 92 = .ok (.bipush 109, 2) := by decide +kernel
theorem dX2_readDeed_94 : decode cX2_readDeed 94 = .ok (.invokevirtual 48, 3) := by decide +kernel
theorem dX2_readDeed_97 : decode cX2_readDeed 97 = .ok (.ifCond .eq 14, 3) := by decide +kernel
theorem dX2_readDeed_100 : decode cX2_readDeed 100 = .ok (.aload_n 0, 1) := by decide +kernel
theorem dX2_readDeed_101 : decode cX2_readDeed 101 = .ok (.invokevirtual 58, 3) := by decide +kernel
theorem dX2_readDeed_104 : decode cX2_readDeed 104 = .ok (.ifCond .eq 7, 3) := by decide +kernel
theorem dX2_readDeed_107 : decode cX2_readDeed 107 = .ok (.iconst 1, 1) := by decide +kernel
theorem dX2_readDeed_108 : decode cX2_readDeed 108 = .ok (.goto 4, 3) := by decide +kernel
theorem dX2_readDeed_111 : decode cX2_readDeed 111 = .ok (.iconst 0, 1) := by decide +kernel
theorem dX2_readDeed_112 : decode cX2_readDeed 112 = .ok (.istore_n 1, 1) := by decide +kernel
theorem dX2_readDeed_113 : decode cX2_readDeed 113 = .ok (.aload_n 0, 1) := by decide +kernel
theorem dX2_readDeed_114 : decode cX2_readDeed 114 = .ok (.dup, 1) := by decide +kernel
theorem dX2_readDeed_115 : decode cX2_readDeed 115 = .ok (.getfield 22, 3) := by decide +kernel
theorem dX2_readDeed_118 : decode cX2_readDeed 118 = .ok (.iconst 1, 1) := by decide +kernel
theorem dX2_readDeed_119 : decode cX2_readDeed 119 = .ok (.iadd, 1) := by decide +kernel
theorem dX2_readDeed_120 : decode cX2_readDeed 120 = .ok (.putfield 22, 3) := by decide +kernel
theorem dX2_readDeed_123 : decode cX2_readDeed 123 = .ok (.iload_n 1, 1) := by decide +kernel
theorem dX2_readDeed_124 : decode cX2_readDeed 124 = .ok (.ireturn, 1) := by decide +kernel
theorem dX2_readPrinting_0 : decode cX2_readPrinting 0 = .ok (.aload_n 0, 1) := by decide +kernel
theorem dX2_readPrinting_1 : decode cX2_readPrinting 1 = .ok (.iconst 2, 1) := by decide +kernel
theorem dX2_readPrinting_2 : decode cX2_readPrinting 2 = .ok (.invokevirtual 61, 3) := by decide +kernel
theorem dX2_readPrinting_5 : decode cX2_readPrinting 5 = .ok (.istore_n 1, 1) := by decide +kernel
theorem dX2_readPrinting_6 : decode cX2_readPrinting 6 = .ok (.iload_n 1, 1) := by decide +kernel
theorem dX2_readPrinting_7 : decode cX2_readPrinting 7 = .ok (.bipush (-4), 2) := by decide +kernel
theorem dX2_readPrinting_9 : decode cX2_readPrinting 9 = .ok (.if_icmp .eq 12, 3) := by decide +kernel
theorem dX2_readPrinting_12 : decode cX2_readPrinting 12 = .ok (.aload_n 0, 1) := by decide +kernel
theorem dX2_readPrinting_13 : decode cX2_readPrinting 13 = .ok (.bipush 58, 2) := by decide +kernel
theorem dX2_readPrinting_15 : decode cX2_readPrinting 15 = .ok (.invokevirtual 48, 3) := by decide +kernel
theorem dX2_readPrinting_18 : decode cX2_readPrinting 18 = .ok (.ifCond .ne 5, 3) := by decide +kernel
theorem dX2_readPrinting_21 : decode cX2_readPrinting 21 = .ok (.iconst 0, 1) := by decide +kernel
theorem dX2_readPrinting_22 : decode cX2_readPrinting 22 = .ok (.ireturn, 1) := by decide +kernel
theorem dX2_readPrinting_23 : decode cX2_readPrinting 23 = .ok (.aload_n 0, 1) := by decide +kernel
theorem dX2_readPrinting_24 : decode cX2_readPrinting 24 = .ok (.iconst 1, 1) := by decide +kernel
theorem dX2_readPrinting_25 : decode cX2_readPrinting 25 = .ok (.sipush 999, 3) := by decide +kernel
theorem dX2_readPrinting_28 : decode cX2_readPrinting 28 = .ok (.invokevirtual 65, 3) := by decide +kernel
theorem dX2_readPrinting_31 : decode cX2_readPrinting 31 = .ok (.istore_n 2, 1) := by decide +kernel
theorem dX2_readPrinting_32 : decode cX2_readPrinting 32 = .ok (.iload_n 2, 1) := by decide +kernel
theorem dX2_readPrinting_33 : decode cX2_readPrinting 33 = .ok (.bipush (-4), 2) := by decide +kernel
theorem dX2_readPrinting_35 : decode cX2_readPrinting 35 = .ok (.if_icmp .ne 5, 3) := by decide +kernel
theorem dX2_readPrinting_38 : decode cX2_readPrinting 38 = .ok (.iconst 0, 1) := by decide +kernel
theorem dX2_readPrinting_39 : decode cX2_readPrinting 39 = .ok (.ireturn, 1) := by decide +kernel
theorem dX2_readPrinting_40 : decode cX2_readPrinting 40 = .ok (.aload_n 0, 1) := by decide +kernel
theorem dX2_readPrinting_41 : decode cX2_readPrinting 41 = .ok (.bipush 120, 2) := by decide +kernel
theorem dX2_readPrinting_43 : decode cX2_readPrinting 43 = .ok (.invokevirtual 48, 3) := by decide +kernel
theorem dX2_readPrinting_46 : decode cX2_readPrinting 46 = .ok (.ifCond .eq 13, 3) := by decide +kernel
theorem dX2_readPrinting_49 : decode cX2_readPrinting 49 = .ok (.aload_n 0, 1) := by decide +kernel
theorem dX2_readPrinting_50 : decode cX2_readPrinting 50 = .ok (.iconst 2, 1) := by decide +kernel
theorem dX2_readPrinting_51 : decode cX2_readPrinting 51 = .ok (.bipush 50, 2) := by decide +kernel
theorem dX2_readPrinting_53 : decode cX2_readPrinting 53 = .ok (.invokevirtual 65, 3) := by decide +kernel
theorem dX2_readPrinting_56 : decode cX2_readPrinting 56 = .ok (.goto 4, 3) := by decide +kernel
theorem dX2_readPrinting_59 : decode cX2_readPrinting 59 = .ok (.iconst 1, 1) := by decide +kernel
theorem dX2_readPrinting_60 : decode cX2_readPrinting 60 = .ok (.istore_n 3, 1) := by decide +kernel
theorem dX2_readPrinting_61 : decode cX2_readPrinting 61 = .ok (.aload_n 0, 1) := by decide +kernel
theorem dX2_readPrinting_62 : decode cX2_readPrinting 62 = .ok (.getfield 32, 3) := by decide +kernel
theorem dX2_readPrinting_65 : decode cX2_readPrinting 65 = .ok (.aload_n 0, 1) := by decide +kernel
theorem dX2_readPrinting_66 : decode cX2_readPrinting 66 = .ok (.getfield 22, 3) := by decide +kernel
theorem dX2_readPrinting_69 : decode cX2_readPrinting 69 = .ok (.iload_n 1, 1) := by decide +kernel
theorem dX2_readPrinting_70 : decode cX2_readPrinting 70 = .ok (.iastore, 1) := by decide +kernel
theorem dX2_readPrinting_71 : decode cX2_readPrinting 71 = .ok (.aload_n 0, 1) := by decide +kernel
theorem dX2_readPrinting_72 : decode cX2_readPrinting 72 = .ok (.getfield 35, 3) := by decide +kernel
theorem dX2_readPrinting_75 : decode cX2_readPrinting 75 = .ok (.aload_n 0, 1) := by decide +kernel
theorem dX2_readPrinting_76 : decode cX2_readPrinting 76 = .ok (.getfield 22, 3) := by decide +kernel
theorem dX2_readPrinting_79 : decode cX2_readPrinting 79 = .ok (.iload_n 2, 1) := by decide +kernel
theorem dX2_readPrinting_80 : decode cX2_readPrinting 80 = .ok (.iastore, 1) := by decide +kernel
theorem dX2_readPrinting_81 : decode cX2_readPrinting 81 = .ok (.aload_n 0, 1) := by decide +kernel
theorem dX2_readPrinting_82 : decode cX2_readPrinting 82 = .ok (.getfield 38, 3) := by decide +kernel
theorem dX2_readPrinting_85 : decode cX2_readPrinting 85 = .ok (.aload_n 0, 1) := by decide +kernel
theorem dX2_readPrinting_86 : decode cX2_readPrinting 86 = .ok (.getfield 22, 3) := by decide +kernel
theorem dX2_readPrinting_89 : decode cX2_readPrinting 89 = .ok (.iload_n 3, 1) := by decide +kernel
theorem dX2_readPrinting_90 : decode cX2_readPrinting 90 = .ok (.iastore, 1) := by decide +kernel
theorem dX2_readPrinting_91 : decode cX2_readPrinting 91 = .ok (.iload_n 3, 1) := by decide +kernel
theorem dX2_readPrinting_92 : decode cX2_readPrinting 92 = .ok (.bipush (-4), 2) := by decide +kernel
theorem dX2_readPrinting_94 : decode cX2_readPrinting 94 = .ok (.if_icmp .eq 7, 3) := by decide +kernel
theorem dX2_readPrinting_97 : decode cX2_readPrinting 97 = .ok (.iconst 1, 1) := by decide +kernel
theorem dX2_readPrinting_98 : decode cX2_readPrinting 98 = .ok (.goto 4, 3) := by decide +kernel
theorem dX2_readPrinting_101 : decode cX2_readPrinting 101 = .ok (.iconst 0, 1) := by decide +kernel
theorem dX2_readPrinting_102 : decode cX2_readPrinting 102 = .ok (.ireturn, 1) := by decide +kernel
theorem dX2_readShaking_0 : decode cX2_readShaking 0 = .ok (.aload_n 0, 1) := by decide +kernel
theorem dX2_readShaking_1 : decode cX2_readShaking 1 = .ok (.iconst 4, 1) := by decide +kernel
theorem dX2_readShaking_2 : decode cX2_readShaking 2 = .ok (.invokevirtual 61, 3) := by decide +kernel
theorem dX2_readShaking_5 : decode cX2_readShaking 5 = .ok (.istore_n 1, 1) := by decide +kernel
theorem dX2_readShaking_6 : decode cX2_readShaking 6 = .ok (.aload_n 0, 1) := by decide +kernel
theorem dX2_readShaking_7 : decode cX2_readShaking 7 = .ok (.getfield 32, 3) := by decide +kernel
theorem dX2_readShaking_10 : decode cX2_readShaking 10 = .ok (.aload_n 0, 1) := by decide +kernel
theorem dX2_readShaking_11 : decode cX2_readShaking 11 = .ok (.getfield 22, 3) := by decide +kernel
theorem dX2_readShaking_14 : decode cX2_readShaking 14 = .ok (.iload_n 1, 1) := by decide +kernel
theorem dX2_readShaking_15 : decode cX2_readShaking 15 = .ok (.iastore, 1) := by decide +kernel
theorem dX2_readShaking_16 : decode cX2_readShaking 16 = .ok (.iload_n 1, 1) := by decide +kernel
theorem dX2_readShaking_17 : decode cX2_readShaking 17 = .ok (.bipush (-4), 2) := by decide +kernel
theorem dX2_readShaking_19 : decode cX2_readShaking 19 = .ok (.if_icmp .eq 7, 3) := by decide +kernel
theorem dX2_readShaking_22 : decode cX2_readShaking 22 = .ok (.iconst 1, 1) := by decide +kernel
theorem dX2_readShaking_23 : decode cX2_readShaking 23 = .ok (.goto 4, 3) := by decide +kernel
theorem dX2_readShaking_26 : decode cX2_readShaking 26 = .ok (.iconst 0, 1) := by decide +kernel
theorem dX2_readShaking_27 : decode cX2_readShaking 27 = .ok (.ireturn, 1) := by decide +kernel
theorem dX2_readMoving_0 : decode cX2_readMoving 0 = .ok (.aload_n 0, 1) := by decide +kernel
theorem dX2_readMoving_1 : decode cX2_readMoving 1 = .ok (.iconst 4, 1) := by decide +kernel
theorem dX2_readMoving_2 : decode cX2_readMoving 2 = .ok (.invokevirtual 61, 3) := by decide +kernel
theorem dX2_readMoving_5 : decode cX2_readMoving 5 = .ok (.istore_n 1, 1) := by decide +kernel
theorem dX2_readMoving_6 : decode cX2_readMoving 6 = .ok (.iload_n 1, 1) := by decide +kernel
theorem dX2_readMoving_7 : decode cX2_readMoving 7 = .ok (.bipush (-4), 2) := by decide +kernel
theorem dX2_readMoving_9 : decode cX2_readMoving 9 = .ok (.if_icmp .eq 12, 3) := by decide +kernel
theorem dX2_readMoving_12 : decode cX2_readMoving 12 = .ok (.aload_n 0, 1) := by decide +kernel
theorem dX2_readMoving_13 : decode cX2_readMoving 13 = .ok (.bipush 62, 2) := by decide +kernel
theorem dX2_readMoving_15 : decode cX2_readMoving 15 = .ok (.invokevirtual 48, 3) := by decide +kernel
theorem dX2_readMoving_18 : decode cX2_readMoving 18 = .ok (.ifCond .ne 5, 3) := by decide +kernel
theorem dX2_readMoving_21 : decode cX2_readMoving 21 = .ok (.iconst 0, 1) := by decide +kernel
theorem dX2_readMoving_22 : decode cX2_readMoving 22 = .ok (.ireturn, 1) := by decide +kernel
theorem dX2_readMoving_23 : decode cX2_readMoving 23 = .ok (.aload_n 0, 1) := by decide +kernel
theorem dX2_readMoving_24 : decode cX2_readMoving 24 = .ok (.iconst 2, 1) := by decide +kernel
theorem dX2_readMoving_25 : decode cX2_readMoving 25 = .ok (.invokevirtual 61, 3) := by decide +kernel
theorem dX2_readMoving_28 : decode cX2_readMoving 28 = .ok (.istore_n 2, 1) := by decide +kernel
theorem dX2_readMoving_29 : decode cX2_readMoving 29 = .ok (.aload_n 0, 1) := by decide +kernel
theorem dX2_readMoving_30 : decode cX2_readMoving 30 = .ok (.getfield 32, 3) := by decide +kernel
theorem dX2_readMoving_33 : decode cX2_readMoving 33 = .ok (.aload_n 0, 1) := by decide +kernel
theorem dX2_readMoving_34 : decode cX2_readMoving 34 = .ok (.getfield 22, 3) := by decide +kernel

theorem dX5_count_106 : decode cX5_count 106 = .ok (.aload_n 0, 1) := by decide +kernel
theorem dX5_count_107 : decode cX5_count 107 = .ok (.getfield 7, 3) := by decide +kernel
theorem dX5_count_110 : decode cX5_count 110 = .ok (.bipush 16, 2) := by decide +kernel
theorem dX5_count_112 : decode cX5_count 112 = .ok (.iaload, 1) := by decide +kernel
theorem dX5_count_113 : decode cX5_count 113 = .ok (.iconst (-1), 1) := by decide +kernel
theorem dX5_count_114 : decode cX5_count 114 = .ok (.if_icmp .ne 7, 3) := by decide +kernel
theorem dX5_count_117 : decode cX5_count 117 = .ok (.iconst 0, 1) := by decide +kernel
theorem dX5_count_118 : decode cX5_count 118 = .ok (.goto 4, 3) := by decide +kernel
theorem dX5_count_121 : decode cX5_count 121 = .ok (.iconst 1, 1) := by decide +kernel
theorem dX5_count_122 : decode cX5_count 122 = .ok (.aload_n 0, 1) := by decide +kernel
theorem dX5_count_123 : decode cX5_count 123 = .ok (.getfield 7, 3) := by decide +kernel
theorem dX5_count_126 : decode cX5_count 126 = .ok (.bipush 17, 2) := by decide +kernel
theorem dX5_count_128 : decode cX5_count 128 = .ok (.iaload, 1) := by decide +kernel
theorem dX5_count_129 : decode cX5_count 129 = .ok (.iconst (-1), 1) := by decide +kernel
theorem dX5_count_130 : decode cX5_count 130 = .ok (.if_icmp .ne 7, 3) := by decide +kernel
theorem dX5_count_133 : decode cX5_count 133 = .ok (.iconst 0, 1) := by decide +kernel
theorem dX5_count_134 : decode cX5_count 134 = .ok (.goto 4, 3) := by decide +kernel
theorem dX5_count_137 : decode cX5_count 137 = .ok (.iconst 1, 1) := by decide +kernel
theorem dX5_count_138 : decode cX5_count 138 = .ok (.iadd, 1) := by decide +kernel
theorem dX5_count_139 : decode cX5_count 139 = .ok (.ireturn, 1) := by decide +kernel
theorem dX5_count_140 : decode cX5_count 140 = .ok (.aload_n 0, 1) := by decide +kernel
theorem dX5_count_141 : decode cX5_count 141 = .ok (.invokevirtual 144, 3) := by decide +kernel
theorem dX5_count_144 : decode cX5_count 144 = .ok (.ireturn, 1) := by decide +kernel
theorem dX5_count_145 : decode cX5_count 145 = .ok (.aload_n 0, 1) := by decide +kernel
theorem dX5_count_146 : decode cX5_count 146 = .ok (.invokevirtual 147, 3) := by decide +kernel
theorem dX5_count_149 : decode cX5_count 149 = .ok (.ireturn, 1) := by decide +kernel
theorem dX5_count_150 : decode cX5_count 150 = .ok (.aload_n 0, 1) := by decide +kernel
theorem dX5_count_151 : decode cX5_count 151 = .ok (.getfield 7, 3) := by decide +kernel
theorem dX5_count_154 : decode cX5_count 154 = .ok (.bipush 31, 2) := by decide +kernel
theorem dX5_count_156 : decode cX5_count 156 = .ok (.iload_n 1, 1) := by decide +kernel
theorem dX5_count_157 : decode cX5_count 157 = .ok (.iadd, 1) := by decide +kernel
theorem dX5_count_158 : decode cX5_count 158 = .ok (.bipush 8, 2) := by decide +kernel
theorem dX5_count_160 : decode cX5_count 160 = .ok (.isub, 1) := by decide +kernel
theorem dX5_count_161 : decode cX5_count 161 = .ok (.iaload, 1) := by decide +kernel
theorem dX5_count_162 : decode cX5_count 162 = .ok (.ireturn, 1) := by decide +kernel
theorem dX5_count_163 : decode cX5_count 163 = .ok (.aload_n 0, 1) := by decide +kernel
theorem dX5_count_164 : decode cX5_count 164 = .ok (.getfield 82, 3) := by decide +kernel
theorem dX5_count_167 : decode cX5_count 167 = .ok (.ireturn, 1) := by decide +kernel
theorem dX5_count_168 : decode cX5_count 168 = .ok (.aload_n 0, 1) := by decide +kernel
theorem dX5_count_169 : decode cX5_count 169 = .ok (.getfield 29, 3) := by decide +kernel
theorem dX5_count_172 : decode cX5_count 172 = .ok (.ireturn, 1) := by decide +kernel
theorem dX5_count_173 : decode cX5_count 173 = .ok (.iconst (-1), 1) := by decide +kernel
theorem dX5_count_174 : decode cX5_count 174 = .ok (.ireturn, 1) := by decide +kernel
theorem dX5_darkness_0 : decode cX5_darkness 0 = .ok (.aload_n 0, 1) := by decide +kernel
theorem dX5_darkness_1 : decode cX5_darkness 1 = .ok (.invokevirtual 141, 3) := by decide +kernel
theorem dX5_darkness_4 : decode cX5_darkness 4 = .ok (.ifCond .ne 7, 3) := by decide +kernel
theorem dX5_darkness_7 : decode cX5_darkness 7 = .ok (.dconst 1, 1) := by decide +kernel
theorem dX5_darkness_8 : decode cX5_darkness 8 = .ok (.goto 14, 3) := by decide +kernel
theorem dX5_darkness_11 : decode cX5_darkness 11 = .ok (.aload_n 0, 1) := by decide +kernel
theorem dX5_darkness_12 : decode cX5_darkness 12 = .ok (.invokevirtual 135, 3) := by decide +kernel
theorem dX5_darkness_15 : decode cX5_darkness 15 = .ok (.i2d, 1) := by decide +kernel
theorem dX5_darkness_16 : decode cX5_darkness 16 = .ok (.aload_n 0, 1) := by decide +kernel
theorem dX5_darkness_17 : decode cX5_darkness 17 = .ok (.invokevirtual 141, 3) := by decide +kernel
theorem dX5_darkness_20 : decode cX5_darkness 20 = .ok (.i2d, 1) := by decide +kernel
theorem dX5_darkness_21 : decode cX5_darkness 21 = .ok (.ddiv, 1) := by decide +kernel
theorem dX5_darkness_22 : decode cX5_darkness 22 = .ok (.dreturn, 1) := by decide +kernel
theorem dX5_isDark_0 : decode cX5_isDark 0 = .ok (.aload_n 0, 1) := by decide +kernel
theorem dX5_isDark_1 : decode cX5_isDark 1 = .ok (.getfield 150, 3) := by decide +kernel
theorem dX5_isDark_4 : decode cX5_isDark 4 = .ok (.ifCond .le 15, 3) := by decide +kernel
theorem dX5_isDark_7 : decode cX5_isDark 7 = .ok (.aload_n 0, 1) := by decide +kernel
theorem dX5_isDark_8 : decode cX5_isDark 8 = .ok (.getfield 150, 3) := by decide +kernel
theorem dX5_isDark_11 : decode cX5_isDark 11 = .ok (.iload_n 1, 1) := by decide +kernel
theorem dX5_isDark_12 : decode cX5_isDark 12 = .ok (.if_icmp .lt 7, 3) := by decide +kernel
theorem dX5_isDark_15 : decode cX5_isDark 15 = .ok (.iconst 1, 1) := by decide +kernel
theorem dX5_isDark_16 : decode cX5_isDark 16 = .ok (.goto 4, 3) := by decide +kernel
theorem dX5_isDark_19 : decode cX5_isDark 19 = .ok (.iconst 0, 1) := by decide +kernel
theorem dX5_isDark_20 : decode cX5_isDark 20 = .ok (.ireturn, 1) := by decide +kernel
theorem dX5_lastsFor_0 : decode cX5_lastsFor 0 = .ok (.aload_n 0, 1) := by decide +kernel
theorem dX5_lastsFor_1 : decode cX5_lastsFor 1 = .ok (.iload_n 1, 1) := by decide +kernel
theorem dX5_lastsFor_2 : decode cX5_lastsFor 2 = .ok (.iload_n 2, 1) := by decide +kernel
theorem dX5_lastsFor_3 : decode cX5_lastsFor 3 = .ok (.iload_n 3, 1) := by decide +kernel
theorem dX5_lastsFor_4 : decode cX5_lastsFor 4 = .ok (.invokevirtual 33, 3) := by decide +kernel
theorem dX5_lastsFor_7 : decode cX5_lastsFor 7 = .ok (.istore 6, 2) := by decide +kernel
theorem dX5_lastsFor_9 : decode cX5_lastsFor 9 = .ok (.aload_n 0, 1) := by decide +kernel
theorem dX5_lastsFor_10 : decode cX5_lastsFor 10 = .ok (.aload_n 0, 1) := by decide +kernel
theorem dX5_lastsFor_11 : decode cX5_lastsFor 11 = .ok (.getfield 7, 3) := by decide +kernel
theorem dX5_lastsFor_14 : decode cX5_lastsFor 14 = .ok (.iconst 4, 1) := by decide +kernel
theorem dX5_lastsFor_15 : decode cX5_lastsFor 15 = .ok (.iload_n 1, 1) := by decide +kernel
theorem dX5_lastsFor_16 : decode cX5_lastsFor 16 = .ok (.iadd, 1) := by decide +kernel
theorem dX5_lastsFor_17 : decode cX5_lastsFor 17 = .ok (.iaload, 1) := by decide +kernel
theorem dX5_lastsFor_18 : decode cX5_lastsFor 18 = .ok (.putfield 150, 3) := by decide +kernel
theorem dX5_lastsFor_21 : decode cX5_lastsFor 21 = .ok (.aload_n 0, 1) := by decide +kernel
theorem dX5_lastsFor_22 : decode cX5_lastsFor 22 = .ok (.aload_n 0, 1) := by decide +kernel
theorem dX5_lastsFor_23 : decode cX5_lastsFor 23 = .ok (.getfield 7, 3) := by decide +kernel
theorem dX5_lastsFor_26 : decode cX5_lastsFor 26 = .ok (.bipush 8, 2) := by decide +kernel
theorem dX5_lastsFor_28 : decode cX5_lastsFor 28 = .ok (.iload_n 1, 1) := by decide +kernel
theorem dX5_lastsFor_29 : decode cX5_lastsFor 29 = .ok (.iadd, 1) := by decide +kernel
theorem dX5_lastsFor_30 : decode cX5_lastsFor 30 = .ok (.iaload, 1) := by decide +kernel
theorem dX5_lastsFor_31 : decode cX5_lastsFor 31 = .ok (.putfield 153, 3) := by decide +kernel
theorem dX5_lastsFor_34 : decode cX5_lastsFor 34 = .ok (.iconst 0, 1) := by decide +kernel
theorem dX5_lastsFor_35 : decode cX5_lastsFor 35 = .ok (.istore 7, 2) := by decide +kernel
theorem dX5_lastsFor_37 : decode cX5_lastsFor 37 = .ok (.iconst 1, 1) := by decide +kernel
theorem dX5_lastsFor_38 : decode cX5_lastsFor 38 = .ok (.istore 8, 2) := by decide +kernel
theorem dX5_lastsFor_40 : decode cX5_lastsFor 40 = .ok (.iload 8, 2) := by decide +kernel
theorem dX5_lastsFor_42 : decode cX5_lastsFor 42 = .ok (.ifCond .eq 120, 3) := by decide +kernel
theorem dX5_lastsFor_45 : decode cX5_lastsFor 45 = .ok (.iload 7, 2) := by decide +kernel
theorem dX5_lastsFor_47 : decode cX5_lastsFor 47 = .ok (.iload 5, 2) := by decide +kernel
theorem dX5_lastsFor_49 : decode cX5_lastsFor 49 = .ok (.if_icmp .ge 113, 3) := by decide +kernel
theorem dX5_lastsFor_52 : decode cX5_lastsFor 52 = .ok (.aload_n 0, 1) := by decide +kernel
theorem dX5_lastsFor_53 : decode cX5_lastsFor 53 = .ok (.iload 6, 2) := by decide +kernel
theorem dX5_lastsFor_55 : decode cX5_lastsFor 55 = .ok (.invokevirtual 156, 3) := by decide +kernel
theorem dX5_lastsFor_58 : decode cX5_lastsFor 58 = .ok (.ifCond .ne 38, 3) := by decide +kernel
theorem dX5_lastsFor_61 : decode cX5_lastsFor 61 = .ok (.iload 4, 2) := by decide +kernel
theorem dX5_lastsFor_63 : decode cX5_lastsFor 63 = .ok (.ifCond .eq 33, 3) := by decide +kernel
theorem dX5_lastsFor_66 : decode cX5_lastsFor 66 = .ok (.aload_n 0, 1) := by decide +kernel
theorem dX5_lastsFor_67 : decode cX5_lastsFor 67 = .ok (.dup, 1) := by decide +kernel
theorem dX5_lastsFor_68 : decode cX5_lastsFor 68 = .ok (.getfield 150, 3) := by decide +kernel
theorem dX5_lastsFor_71 : decode cX5_lastsFor 71 = .ok (.aload_n 0, 1) := by decide +kernel
theorem dX5_lastsFor_72 : decode cX5_lastsFor 72 = .ok (.getfield 153, 3) := by decide +kernel
theorem dX5_lastsFor_75 : decode cX5_lastsFor 75 = .ok (.iconst 2, 1) := by decide +kernel
theorem dX5_lastsFor_76 : decode cX5_lastsFor 76 = .ok (.idiv, 1) := by decide +kernel
theorem dX5_lastsFor_77 : decode cX5_lastsFor 77 = .ok (.iadd, 1) := by decide +kernel
theorem dX5_lastsFor_78 : decode cX5_lastsFor 78 = .ok (.putfield 150, 3) := by decide +kernel
theorem dX5_lastsFor_81 : decode cX5_lastsFor 81 = .ok (.aload_n 0, 1) := by decide +kernel
theorem dX5_lastsFor_82 : decode cX5_lastsFor 82 = .ok (.dup, 1) := by decide +kernel
theorem dX5_lastsFor_83 : decode cX5_lastsFor 83 = .ok (.getfield 153, 3) := by decide +kernel
theorem dX5_lastsFor_86 : decode cX5_lastsFor 86 = .ok (.aload_n 0, 1) := by decide +kernel
theorem dX5_lastsFor_87 : decode cX5_lastsFor 87 = .ok (.getfield 153, 3) := by decide +kernel
theorem dX5_lastsFor_90 : decode cX5_lastsFor 90 = .ok (.iconst 2, 1) := by decide +kernel
theorem dX5_lastsFor_91 : decode cX5_lastsFor 91 = .ok (.idiv, 1) := by decide +kernel
theorem dX5_lastsFor_92 : decode cX5_lastsFor 92 = .ok (.isub, 1) := by decide +kernel
theorem dX5_lastsFor_93 : decode cX5_lastsFor 93 = .ok (.putfield 153, 3) := by decide +kernel
theorem dX5_lastsFor_96 : decode cX5_lastsFor 96 = .ok (.aload_n 0, 1) := by decide +kernel
theorem dX5_lastsFor_97 : decode cX5_lastsFor 97 = .ok (.iload 6, 2) := by decide +kernel
theorem dX5_lastsFor_99 : decode cX5_lastsFor 99 = .ok (.invokevirtual 156, 3) := by decide +kernel
theorem dX5_lastsFor_102 : decode cX5_lastsFor 102 = .ok (.istore 8, 2) := by decide +kernel
theorem dX5_lastsFor_104 : decode cX5_lastsFor 104 = .ok (.iload 8, 2) := by decide +kernel
theorem dX5_lastsFor_106 : decode cX5_lastsFor 106 = .ok (.ifCond .eq (-66), 3) := by decide +kernel
theorem dX5_lastsFor_109 : decode cX5_lastsFor 109 = .ok (.aload_n 0, 1) := by decide +kernel
theorem dX5_lastsFor_110 : decode cX5_lastsFor 110 = .ok (.dup, 1) := by decide +kernel
theorem dX5_lastsFor_111 : decode cX5_lastsFor 111 = .ok (.getfield 150, 3) := by decide +kernel
theorem dX5_lastsFor_114 : decode cX5_lastsFor 114 = .ok (.iload 6, 2) := by decide +kernel
theorem dX5_lastsFor_116 : decode cX5_lastsFor 116 = .ok (.isub, 1) := by decide +kernel
theorem dX5_lastsFor_117 : decode cX5_lastsFor 117 = .ok (.putfield 150, 3) := by decide +kernel
theorem dX5_lastsFor_120 : decode cX5_lastsFor 120 = .ok (.aload_n 0, 1) := by decide +kernel
theorem dX5_lastsFor_121 : decode cX5_lastsFor 121 = .ok (.getfield 150, 3) := by decide +kernel
theorem dX5_lastsFor_124 : decode cX5_lastsFor 124 = .ok (.aload_n 0, 1) := by decide +kernel
theorem dX5_lastsFor_125 : decode cX5_lastsFor 125 = .ok (.getfield 7, 3) := by decide +kernel
theorem dX5_lastsFor_128 : decode cX5_lastsFor 128 = .ok (.bipush 32, 2) := by decide +kernel
theorem dX5_lastsFor_130 : decode cX5_lastsFor 130 = .ok (.iaload, 1) := by decide +kernel
theorem dX5_lastsFor_131 : decode cX5_lastsFor 131 = .ok (.idiv, 1) := by decide +kernel
theorem dX5_lastsFor_132 : decode cX5_lastsFor 132 = .ok (.istore 9, 2) := by decide +kernel
theorem dX5_lastsFor_134 : decode cX5_lastsFor 134 = .ok (.aload_n 0, 1) := by decide +kernel
theorem dX5_lastsFor_135 : decode cX5_lastsFor 135 = .ok (.dup, 1) := by decide +kernel
theorem dX5_lastsFor_136 : decode cX5_lastsFor 136 = .ok (.getfield 150, 3) := by decide +kernel
theorem dX5_lastsFor_139 : decode cX5_lastsFor 139 = .ok (.iload 9, 2) := by decide +kernel
theorem dX5_lastsFor_141 : decode cX5_lastsFor 141 = .ok (.isub, 1) := by decide +kernel
theorem dX5_lastsFor_142 : decode cX5_lastsFor 142 = .ok (.putfield 150, 3) := by decide +kernel
theorem dX5_lastsFor_145 : decode cX5_lastsFor 145 = .ok (.aload_n 0, 1) := by decide +kernel
theorem dX5_lastsFor_146 : decode cX5_lastsFor 146 = .ok (.dup, 1) := by decide +kernel
theorem dX5_lastsFor_147 : decode cX5_lastsFor 147 = .ok (.getfield 153, 3) := by decide +kernel
theorem dX5_lastsFor_150 : decode cX5_lastsFor 150 = .ok (.iload 9, 2) := by decide +kernel
theorem dX5_lastsFor_152 : decode cX5_lastsFor 152 = .ok (.iadd, 1) := by decide +kernel
theorem dX5_lastsFor_153 : decode cX5_lastsFor 153 = .ok (.putfield 153, 3) := by decide +kernel
theorem dX5_lastsFor_156 : decode cX5_lastsFor 156 = .ok (.iinc 7 1, 3) := by decide +kernel
theorem dX5_lastsFor_159 : decode cX5_lastsFor 159 = .ok (.goto (-119), 3) := by decide +kernel
theorem dX5_lastsFor_162 : decode cX5_lastsFor 162 = .ok (.iload 7, 2) := by decide +kernel
theorem dX5_lastsFor_164 : decode cX5_lastsFor 164 = .ok (.ireturn, 1) := by decide +kernel
theorem dX5_lasts_0 : decode cX5_lasts 0 = .ok (.iload_n 1, 1) := by decide +kernel
theorem dX5_lasts_1 : decode cX5_lasts 1 = .ok (.invokestatic 61, 3) := by decide +kernel
theorem dX5_lasts_4 : decode cX5_lasts 4 = .ok (.ifCond .eq 30, 3) := by decide +kernel
theorem dX5_lasts_7 : decode cX5_lasts 7 = .ok (.iload_n 2, 1) := by decide +kernel
theorem dX5_lasts_8 : decode cX5_lasts 8 = .ok (.invokestatic 52, 3) := by decide +kernel
theorem dX5_lasts_11 : decode cX5_lasts 11 = .ok (.ifCond .eq 23, 3) := by decide +kernel
theorem dX5_lasts_14 : decode cX5_lasts 14 = .ok (.aload_n 0, 1) := by decide +kernel
theorem dX5_lasts_15 : decode cX5_lasts 15 = .ok (.iload_n 1, 1) := by decide +kernel
theorem dX5_lasts_16 : decode cX5_lasts 16 = .ok (.iload_n 2, 1) := by decide +kernel
theorem dX5_lasts_17 : decode cX5_lasts 17 = .ok (.aload_n 0, 1) := by decide +kernel
theorem dX5_lasts_18 : decode cX5_lasts 18 = .ok (.getfield 7, 3) := by decide +kernel
theorem dX5_lasts_21 : decode cX5_lasts 21 = .ok (.bipush 31, 2) := by decide +kernel
theorem dX5_lasts_23 : decode cX5_lasts 23 = .ok (.iaload, 1) := by decide +kernel
theorem dX5_lasts_24 : decode cX5_lasts 24 = .ok (.iload_n 3, 1) := by decide +kernel
theorem dX5_lasts_25 : decode cX5_lasts 25 = .ok (.sipush 999, 3) := by decide +kernel
theorem dX5_lasts_28 : decode cX5_lasts 28 = .ok (.invokevirtual 159, 3) := by decide +kernel
theorem dX5_lasts_31 : decode cX5_lasts 31 = .ok (.goto 4, 3) := by decide +kernel
theorem dX5_lasts_34 : decode cX5_lasts 34 = .ok (.iconst (-1), 1) := by decide +kernel
theorem dX5_lasts_35 : decode cX5_lasts 35 = .ok (.ireturn, 1) := by decide +kernel
theorem dX5_atHand_0 : decode cX5_atHand 0 = .ok (.iload_n 1, 1) := by decide +kernel
theorem dX5_atHand_1 : decode cX5_atHand 1 = .ok (.invokestatic 61, 3) := by decide +kernel
theorem dX5_atHand_4 : decode cX5_atHand 4 = .ok (.ifCond .eq 30, 3) := by decide +kernel
theorem dX5_atHand_7 : decode cX5_atHand 7 = .ok (.iload_n 2, 1) := by decide +kernel
theorem dX5_atHand_8 : decode cX5_atHand 8 = .ok (.invokestatic 52, 3) := by decide +kernel
theorem dX5_atHand_11 : decode cX5_atHand 11 = .ok (.ifCond .eq 23, 3) := by decide +kernel
theorem dX5_atHand_14 : decode cX5_atHand 14 = .ok (.iload_n 3, 1) := by decide +kernel
theorem dX5_atHand_15 : decode cX5_atHand 15 = .ok (.iconst 0, 1) := by decide +kernel
theorem dX5_atHand_16 : decode cX5_atHand 16 = .ok (.bipush 50, 2) := by decide +kernel
theorem dX5_atHand_18 : decode cX5_atHand 18 = .ok (.invokestatic 25, 3) := by decide +kernel
theorem dX5_atHand_21 : decode cX5_atHand 21 = .ok (.ifCond .eq 13, 3) := by decide +kernel
theorem dX5_atHand_24 : decode cX5_atHand 24 = .ok (.iload 4, 2) := by decide +kernel
theorem dX5_atHand_26 : decode cX5_atHand 26 = .ok (.iconst 0, 1) := by decide +kernel
theorem dX5_atHand_27 : decode cX5_atHand 27 = .ok (.iconst 1, 1) := by decide +kernel
theorem dX5_atHand_28 : decode cX5_atHand 28 = .ok (.invokestatic 25, 3) := by decide +kernel
theorem dX5_atHand_31 : decode cX5_atHand 31 = .ok (.ifCond .ne 5, 3) := by decide +kernel
theorem dX5_atHand_34 : decode cX5_atHand 34 = .ok (.iconst (-1), 1) := by decide +kernel
theorem dX5_atHand_35 : decode cX5_atHand 35 = .ok (.ireturn, 1) := by decide +kernel
theorem dX5_atHand_36 : decode cX5_atHand 36 = .ok (.aload_n 0, 1) := by decide +kernel
theorem dX5_atHand_37 : decode cX5_atHand 37 = .ok (.iload_n 1, 1) := by decide +kernel
theorem dX5_atHand_38 : decode cX5_atHand 38 = .ok (.iload_n 2, 1) := by decide +kernel
theorem dX5_atHand_39 : decode cX5_atHand 39 = .ok (.aload_n 0, 1) := by decide +kernel
theorem dX5_atHand_40 : decode cX5_atHand 40 = .ok (.getfield 7, 3) := by decide +kernel
theorem dX5_atHand_43 : decode cX5_atHand 43 = .ok (.bipush 31, 2) := by decide +kernel
theorem dX5_atHand_45 : decode cX5_atHand 45 = .ok (.iaload, 1) := by decide +kernel
theorem dX5_atHand_46 : decode cX5_atHand 46 = .ok (.iconst 0, 1) := by decide +kernel
theorem dX5_atHand_47 : decode cX5_atHand 47 = .ok (.iload_n 3, 1) := by decide +kernel
theorem dX5_atHand_48 : decode cX5_atHand 48 = .ok (.invokevirtual 159, 3) := by decide +kernel
theorem dX5_atHand_51 : decode cX5_atHand 51 = .ok (.iload_n 3, 1) := by decide +kernel
theorem dX5_atHand_52 : decode cX5_atHand 52 = .ok (.if_icmp .ne 10, 3) := by decide +kernel
theorem dX5_atHand_55 : decode cX5_atHand 55 = .ok (.aload_n 0, 1) := by decide +kernel
theorem dX5_atHand_56 : decode cX5_atHand 56 = .ok (.getfield 150, 3) := by decide +kernel
theorem dX5_atHand_59 : decode cX5_atHand 59 = .ok (.goto 5, 3) := by decide +kernel
theorem dX5_atHand_62 : decode cX5_atHand 62 = .ok (.bipush (-4), 2) := by decide +kernel
theorem dX5_atHand_64 : decode cX5_atHand 64 = .ok (.ireturn, 1) := by decide +kernel
theorem dX5_bestFor_0 : decode cX5_bestFor 0 = .ok (.iload_n 1, 1) := by decide +kernel
theorem dX5_bestFor_1 : decode cX5_bestFor 1 = .ok (.invokestatic 52, 3) := by decide +kernel
theorem dX5_bestFor_4 : decode cX5_bestFor 4 = .ok (.ifCond .eq 13, 3) := by decide +kernel
theorem dX5_bestFor_7 : decode cX5_bestFor 7 = .ok (.iload_n 2, 1) := by decide +kernel
theorem dX5_bestFor_8 : decode cX5_bestFor 8 = .ok (.iconst 1, 1) := by decide +kernel
theorem dX5_bestFor_9 : decode cX5_bestFor 9 = .ok (.bipush 50, 2) := by decide +kernel
theorem dX5_bestFor_11 : decode cX5_bestFor 11 = .ok (.invokestatic 25, 3) := by decide +kernel
theorem dX5_bestFor_14 : decode cX5_bestFor 14 = .ok (.ifCond .ne 5, 3) := by decide +kernel
theorem dX5_bestFor_17 : decode cX5_bestFor 17 = .ok (.iconst (-1), 1) := by decide +kernel
theorem dX5_bestFor_18 : decode cX5_bestFor 18 = .ok (.ireturn, 1) := by decide +kernel
theorem dX5_bestFor_19 : decode cX5_bestFor 19 = .ok (.bipush (-4), 2) := by decide +kernel
theorem dX5_bestFor_21 : decode cX5_bestFor 21 = .ok (.istore_n 3, 1) := by decide +kernel
theorem dX5_bestFor_22 : decode cX5_bestFor 22 = .ok (.iconst 0, 1) := by decide +kernel
theorem dX5_bestFor_23 : decode cX5_bestFor 23 = .ok (.istore 4, 2) := by decide +kernel
theorem dX5_bestFor_25 : decode cX5_bestFor 25 = .ok (.iload 4, 2) := by decide +kernel
theorem dX5_bestFor_27 : decode cX5_bestFor 27 = .ok (.iconst 4, 1) := by decide +kernel
theorem dX5_bestFor_28 : decode cX5_bestFor 28 = .ok (.if_icmp .ge 68, 3) := by decide +kernel
theorem dX5_bestFor_31 : decode cX5_bestFor 31 = .ok (.aload_n 0, 1) := by decide +kernel
theorem dX5_bestFor_32 : decode cX5_bestFor 32 = .ok (.iload 4, 2) := by decide +kernel
theorem dX5_bestFor_34 : decode cX5_bestFor 34 = .ok (.iload_n 1, 1) := by decide +kernel
theorem dX5_bestFor_35 : decode cX5_bestFor 35 = .ok (.aload_n 0, 1) := by decide +kernel
theorem dX5_bestFor_36 : decode cX5_bestFor 36 = .ok (.getfield 7, 3) := by decide +kernel
theorem dX5_bestFor_39 : decode cX5_bestFor 39 = .ok (.bipush 31, 2) := by decide +kernel
theorem dX5_bestFor_41 : decode cX5_bestFor 41 = .ok (.iaload, 1) := by decide +kernel
theorem dX5_bestFor_42 : decode cX5_bestFor 42 = .ok (.iconst 1, 1) := by decide +kernel
theorem dX5_bestFor_43 : decode cX5_bestFor 43 = .ok (.iload_n 2, 1) := by decide +kernel
theorem dX5_bestFor_44 : decode cX5_bestFor 44 = .ok (.invokevirtual 159, 3) := by decide +kernel
theorem dX5_bestFor_47 : decode cX5_bestFor 47 = .ok (.iload_n 2, 1) := by decide +kernel
theorem dX5_bestFor_48 : decode cX5_bestFor 48 = .ok (.if_icmp .ne 7, 3) := by decide +kernel
theorem dX5_bestFor_51 : decode cX5_bestFor 51 = .ok (.iconst 1, 1) := by decide +kernel
theorem dX5_bestFor_52 : decode cX5_bestFor 52 = .ok (.goto 4, 3) := by decide +kernel
theorem dX5_bestFor_55 : decode cX5_bestFor 55 = .ok (.iconst 0, 1) := by decide +kernel
theorem dX5_bestFor_56 : decode cX5_bestFor 56 = .ok (.istore 5, 2) := by decide +kernel
theorem dX5_bestFor_58 : decode cX5_bestFor 58 = .ok (.iload 5, 2) := by decide +kernel
theorem dX5_bestFor_60 : decode cX5_bestFor 60 = .ok (.ifCond .eq 28, 3) := by decide +kernel
theorem dX5_bestFor_63 : decode cX5_bestFor 63 = .ok (.iload_n 3, 1) := by decide +kernel
theorem dX5_bestFor_64 : decode cX5_bestFor 64 = .ok (.bipush (-4), 2) := by decide +kernel
theorem dX5_bestFor_66 : decode cX5_bestFor 66 = .ok (.if_icmp .eq 17, 3) := by decide +kernel
theorem dX5_bestFor_69 : decode cX5_bestFor 69 = .ok (.aload_n 0, 1) := by decide +kernel
theorem dX5_bestFor_70 : decode cX5_bestFor 70 = .ok (.iload 4, 2) := by decide +kernel
theorem dX5_bestFor_72 : decode cX5_bestFor 72 = .ok (.invokevirtual 37, 3) := by decide +kernel
theorem dX5_bestFor_75 : decode cX5_bestFor 75 = .ok (.aload_n 0, 1) := by decide +kernel
theorem dX5_bestFor_76 : decode cX5_bestFor 76 = .ok (.iload_n 3, 1) := by decide +kernel
theorem dX5_bestFor_77 : decode cX5_bestFor 77 = .ok (.invokevirtual 37, 3) := by decide +kernel
theorem dX5_bestFor_80 : decode cX5_bestFor 80 = .ok (.if_icmp .ge 8, 3) := by decide +kernel
theorem dX5_bestFor_83 : decode cX5_bestFor 83 = .ok (.iload 4, 2) := by decide +kernel
theorem dX5_bestFor_85 : decode cX5_bestFor 85 = .ok (.goto 4, 3) := by decide +kernel
theorem dX5_bestFor_88 : decode cX5_bestFor 88 = .ok (.iload_n 3, 1) := by decide +kernel
theorem dX5_bestFor_89 : decode cX5_bestFor 89 = .ok (.istore_n 3, 1) := by decide +kernel
theorem dX5_bestFor_90 : decode cX5_bestFor 90 = .ok (.iinc 4 1, 3) := by decide +kernel
theorem dX5_bestFor_93 : decode cX5_bestFor 93 = .ok (.goto (-68), 3) := by decide +kernel
theorem dX5_bestFor_96 : decode cX5_bestFor 96 = .ok (.iload_n 3, 1) := by decide +kernel
theorem dX5_bestFor_97 : decode cX5_bestFor 97 = .ok (.ireturn, 1) := by decide +kernel
theorem dX5_darkest_0 : decode cX5_darkest 0 = .ok (.iload_n 1, 1) := by decide +kernel
theorem dX5_darkest_1 : decode cX5_darkest 1 = .ok (.invokestatic 61, 3) := by decide +kernel
theorem dX5_darkest_4 : decode cX5_darkest 4 = .ok (.ifCond .eq 20, 3) := by decide +kernel
theorem dX5_darkest_7 : decode cX5_darkest 7 = .ok (.iload_n 2, 1) := by decide +kernel
theorem dX5_darkest_8 : decode cX5_darkest 8 = .ok (.invokestatic 52, 3) := by decide +kernel
theorem dX5_darkest_11 : decode cX5_darkest 11 = .ok (.ifCond .eq 13, 3) := by decide +kernel
theorem dX5_darkest_14 : decode cX5_darkest 14 = .ok (.iload_n 3, 1) := by decide +kernel
theorem dX5_darkest_15 : decode cX5_darkest 15 = .ok (.iconst 1, 1) := by decide +kernel
theorem dX5_darkest_16 : decode cX5_darkest 16 = .ok (.bipush 50, 2) := by decide +kernel
theorem dX5_darkest_18 : decode cX5_darkest 18 = .ok (.invokestatic 25, 3) := by decide +kernel
theorem dX5_darkest_21 : decode cX5_darkest 21 = .ok (.ifCond .ne 5, 3) := by decide +kernel
theorem dX5_darkest_24 : decode cX5_darkest 24 = .ok (.iconst (-1), 1) := by decide +kernel
theorem dX5_darkest_25 : decode cX5_darkest 25 = .ok (.ireturn, 1) := by decide +kernel
theorem dX5_darkest_26 : decode cX5_darkest 26 = .ok (.bipush (-4), 2) := by decide +kernel
theorem dX5_darkest_28 : decode cX5_darkest 28 = .ok (.istore 4, 2) := by decide +kernel
theorem dX5_darkest_30 : decode cX5_darkest 30 = .ok (.iconst 1, 1) := by decide +kernel
theorem dX5_darkest_31 : decode cX5_darkest 31 = .ok (.istore 5, 2) := by decide +kernel
theorem dX5_darkest_33 : decode cX5_darkest 33 = .ok (.iload 5, 2) := by decide +kernel
theorem dX5_darkest_35 : decode cX5_darkest 35 = .ok (.bipush 6, 2) := by decide +kernel
theorem dX5_darkest_37 : decode cX5_darkest 37 = .ok (.if_icmp .ge 32, 3) := by decide +kernel
theorem dX5_darkest_40 : decode cX5_darkest 40 = .ok (.aload_n 0, 1) := by decide +kernel
theorem dX5_darkest_41 : decode cX5_darkest 41 = .ok (.iload_n 1, 1) := by decide +kernel
theorem dX5_darkest_42 : decode cX5_darkest 42 = .ok (.iload_n 2, 1) := by decide +kernel
theorem dX5_darkest_43 : decode cX5_darkest 43 = .ok (.iload 5, 2) := by decide +kernel
theorem dX5_darkest_45 : decode cX5_darkest 45 = .ok (.iconst 1, 1) := by decide +kernel
theorem dX5_darkest_46 : decode cX5_darkest 46 = .ok (.iload_n 3, 1) := by decide +kernel
theorem dX5_darkest_47 : decode cX5_darkest 47 = .ok (.invokevirtual 159, 3) := by decide +kernel
theorem dX5_darkest_50 : decode cX5_darkest 50 = .ok (.iload_n 3, 1) := by decide +kernel
theorem dX5_darkest_51 : decode cX5_darkest 51 = .ok (.if_icmp .ne 8, 3) := by decide +kernel
theorem dX5_darkest_54 : decode cX5_darkest 54 = .ok (.iload 5, 2) := by decide +kernel
theorem dX5_darkest_56 : decode cX5_darkest 56 = .ok (.goto 5, 3) := by decide +kernel
theorem dX5_darkest_59 : decode cX5_darkest 59 = .ok (.iload 4, 2) := by decide +kernel
theorem dX5_darkest_61 : decode cX5_darkest 61 = .ok (.istore 4, 2) := by decide +kernel
theorem dX5_darkest_63 : decode cX5_darkest 63 = .ok (.iinc 5 1, 3) := by decide +kernel
theorem dX5_darkest_66 : decode cX5_darkest 66 = .ok (.goto (-33), 3) := by decide +kernel
theorem dX5_darkest_69 : decode cX5_darkest 69 = .ok (.iload 4, 2) := by decide +kernel
theorem dX5_darkest_71 : decode cX5_darkest 71 = .ok (.ireturn, 1) := by decide +kernel
theorem dX5_undo_0 : decode cX5_undo 0 = .ok (.aload_n 0, 1) := by decide +kernel
theorem dX5_undo_1 : decode cX5_undo 1 = .ok (.getfield 29, 3) := by decide +kernel
theorem dX5_undo_4 : decode cX5_undo 4 = .ok (.ifCond .ne 6, 3) := by decide +kernel
theorem dX5_undo_7 : decode cX5_undo 7 = .ok (.bipush (-2), 2) := by decide +kernel
theorem dX5_undo_9 : decode cX5_undo 9 = .ok (.ireturn, 1) := by decide +kernel
theorem dX5_undo_10 : decode cX5_undo 10 = .ok (.aload_n 0, 1) := by decide +kernel
theorem dX5_undo_11 : decode cX5_undo 11 = .ok (.dup, 1) := by decide +kernel
theorem dX5_undo_12 : decode cX5_undo 12 = .ok (.getfield 29, 3) := by decide +kernel
theorem dX5_undo_15 : decode cX5_undo 15 = .ok (.iconst 1, 1) := by decide +kernel
theorem dX5_undo_16 : decode cX5_undo 16 = .ok (.isub, 1) := by decide +kernel
theorem dX5_undo_17 : decode cX5_undo 17 = .ok (.putfield 29, 3) := by decide +kernel
theorem dX5_undo_20 : decode cX5_undo 20 = .ok (.iconst 0, 1) := by decide +kernel
theorem dX5_undo_21 : decode cX5_undo 21 = .ok (.istore_n 1, 1) := by decide +kernel
theorem dX5_undo_22 : decode cX5_undo 22 = .ok (.iload_n 1, 1) := by decide +kernel
theorem dX5_undo_23 : decode cX5_undo 23 = .ok (.bipush 35, 2) := by decide +kernel
theorem dX5_undo_25 : decode cX5_undo 25 = .ok (.if_icmp .ge 29, 3) := by decide +kernel
theorem dX5_undo_28 : decode cX5_undo 28 = .ok (.aload_n 0, 1) := by decide +kernel
theorem dX5_undo_29 : decode cX5_undo 29 = .ok (.getfield 7, 3) := by decide +kernel
theorem dX5_undo_32 : decode cX5_undo 32 = .ok (.iload_n 1, 1) := by decide +kernel
theorem dX5_undo_33 : decode cX5_undo 33 = .ok (.aload_n 0, 1) := by decide +kernel
theorem dX5_undo_34 : decode cX5_undo 34 = .ok (.getfield 13, 3) := by decide +kernel
theorem dX5_undo_37 : decode cX5_undo 37 = .ok (.bipush 35, 2) := by decide +kernel
theorem dX5_undo_39 : decode cX5_undo 39 = .ok (.aload_n 0, 1) := by decide +kernel
theorem dX5_undo_40 : decode cX5_undo 40 = .ok (.getfield 29, 3) := by decide +kernel
theorem dX5_undo_43 : decode cX5_undo 43 = .ok (.imul, 1) := by decide +kernel
theorem dX5_undo_44 : decode cX5_undo 44 = .ok (.iload_n 1, 1) := by decide +kernel
theorem dX5_undo_45 : decode cX5_undo 45 = .ok (.iadd, 1) := by decide +kernel
theorem dX5_undo_46 : decode cX5_undo 46 = .ok (.iaload, 1) := by decide +kernel
theorem dX5_undo_47 : decode cX5_undo 47 = .ok (.iastore, 1) := by decide +kernel
theorem dX5_undo_48 : decode cX5_undo 48 = .ok (.iinc 1 1, 3) := by decide +kernel
theorem dX5_undo_51 : decode cX5_undo 51 = .ok (.goto (-29), 3) := by decide +kernel
theorem dX5_undo_54 : decode cX5_undo 54 = .ok (.aload_n 0, 1) := by decide +kernel
theorem dX5_undo_55 : decode cX5_undo 55 = .ok (.getfield 29, 3) := by decide +kernel
theorem dX5_undo_58 : decode cX5_undo 58 = .ok (.ireturn, 1) := by decide +kernel
theorem dX5_save_0 : decode cX5_save 0 = .ok (.iconst 0, 1) := by decide +kernel
theorem dX5_save_1 : decode cX5_save 1 = .ok (.istore_n 1, 1) := by decide +kernel
theorem dX5_save_2 : decode cX5_save 2 = .ok (.iload_n 1, 1) := by decide +kernel
theorem dX5_save_3 : decode cX5_save 3 = .ok (.bipush 35, 2) := by decide +kernel
theorem dX5_save_5 : decode cX5_save 5 = .ok (.if_icmp .ge 21, 3) := by decide +kernel
theorem dX5_save_8 : decode cX5_save 8 = .ok (.aload_n 0, 1) := by decide +kernel
theorem dX5_save_9 : decode cX5_save 9 = .ok (.getfield 16, 3) := by decide +kernel
theorem dX5_save_12 : decode cX5_save 12 = .ok (.iload_n 1, 1) := by decide +kernel
theorem dX5_save_13 : decode cX5_save 13 = .ok (.aload_n 0, 1) := by decide +kernel
theorem dX5_save_14 : decode cX5_save 14 = .ok (.getfield 7, 3) := by decide +kernel
theorem dX5_save_17 : decode cX5_save 17 = .ok (.iload_n 1, 1) := by decide +kernel
theorem dX5_save_18 : decode cX5_save 18 = .ok (.iaload, 1) := by decide +kernel
theorem dX5_save_19 : decode cX5_save 19 = .ok (.iastore, 1) := by decide +kernel
theorem dX5_save_20 : decode cX5_save 20 = .ok (.iinc 1 1, 3) := by decide +kernel
theorem dX5_save_23 : decode cX5_save 23 = .ok (.goto (-21), 3) := by decide +kernel
theorem dX5_save_26 : decode cX5_save 26 = .ok (.aload_n 0, 1) := by decide +kernel
theorem dX5_save_27 : decode cX5_save 27 = .ok (.iconst 1, 1) := by decide +kernel
theorem dX5_save_28 : decode cX5_save 28 = .ok (.putfield 163, 3) := by decide +kernel
theorem dX5_save_31 : decode cX5_save 31 = .ok (.aload_n 0, 1) := by decide +kernel
theorem dX5_save_32 : decode cX5_save 32 = .ok (.invokevirtual 138, 3) := by decide +kernel
theorem dX5_save_35 : decode cX5_save 35 = .ok (.ireturn, 1) := by decide +kernel
theorem dX5_restore_0 : decode cX5_restore 0 = .ok (.aload_n 0, 1) := by decide +kernel
theorem dX5_restore_1 : decode cX5_restore 1 = .ok (.getfield 163, 3) := by decide +kernel
theorem dX5_restore_4 : decode cX5_restore 4 = .ok (.ifCond .ne 6, 3) := by decide +kernel
theorem dX5_restore_7 : decode cX5_restore 7 = .ok (.bipush (-2), 2) := by decide +kernel
theorem dX5_restore_9 : decode cX5_restore 9 = .ok (.ireturn, 1) := by decide +kernel
theorem dX5_restore_10 : decode cX5_restore 10 = .ok (.aload_n 0, 1) := by decide +kernel
theorem dX5_restore_11 : decode cX5_restore 11 = .ok (.invokevirtual 55, 3) := by decide +kernel
theorem dX5_restore_14 : decode cX5_restore 14 = .ok (.iconst 0, 1) := by decide +kernel
theorem dX5_restore_15 : decode cX5_restore 15 = .ok (.istore_n 1, 1) := by decide +kernel
theorem dX5_restore_16 : decode cX5_restore 16 = .ok (.iload_n 1, 1) := by decide +kernel
theorem dX5_restore_17 : decode cX5_restore 17 = .ok (.bipush 35, 2) := by decide +kernel
theorem dX5_restore_19 : decode cX5_restore 19 = .ok (.if_icmp .ge 21, 3) := by decide +kernel
theorem dX5_restore_22 : decode cX5_restore 22 = .ok (.aload_n 0, 1) := by decide +kernel
theorem dX5_restore_23 : decode cX5_restore 23 = .ok (.getfield 7, 3) := by decide +kernel
theorem dX5_restore_26 : decode cX5_restore 26 = .ok (.iload_n 1, 1) := by decide +kernel
theorem dX5_restore_27 : decode cX5_restore 27 = .ok (.aload_n 0, 1) := by decide +kernel
theorem dX5_restore_28 : decode cX5_restore 28 = .ok (.getfield 16, 3) := by decide +kernel
theorem dX5_restore_31 : decode cX5_restore 31 = .ok (.iload_n 1, 1) := by decide +kernel
theorem dX5_restore_32 : decode cX5_restore 32 = .ok (.iaload, 1) := by decide +kernel
theorem dX5_restore_33 : decode cX5_restore 33 = .ok (.iastore, 1) := by decide +kernel
theorem dX5_restore_34 : decode cX5_restore 34 = .ok (.iinc 1 1, 3) := by decide +kernel
theorem dX5_restore_37 : decode cX5_restore 37 = .ok (.goto (-21), 3) := by decide +kernel
theorem dX5_restore_40 : decode cX5_restore 40 = .ok (.aload_n 0, 1) := by decide +kernel
theorem dX5_restore_41 : decode cX5_restore 41 = .ok (.invokevirtual 138, 3) := by decide +kernel
theorem dX5_restore_44 : decode cX5_restore 44 = .ok (.ireturn, 1) := by decide +kernel
theorem dL_law_0 : decode cL_law 0 = .ok (.new 7, 3) := by decide +kernel
theorem dL_law_3 : decode cL_law 3 = .ok (.dup, 1) := by decide +kernel
theorem dL_law_4 : decode cL_law 4 = .ok (.invokespecial 9, 3) := by decide +kernel
theorem dL_law_7 : decode cL_law 7 = .ok (.astore_n 1, 1) := by decide +kernel
theorem dL_law_8 : decode cL_law 8 = .ok (.new 10, 3) := by decide +kernel
theorem dL_law_11 : decode cL_law 11 = .ok (.dup, 1) := by decide +kernel
theorem dL_law_12 : decode cL_law 12 = .ok (.invokespecial 12, 3) := by decide +kernel
theorem dL_law_15 : decode cL_law 15 = .ok (.astore_n 2, 1) := by decide +kernel
theorem dL_law_16 : decode cL_law 16 = .ok (.iconst 0, 1) := by decide +kernel
theorem dL_law_17 : decode cL_law 17 = .ok (.istore_n 3, 1) := by decide +kernel
theorem dL_law_18 : decode cL_law 18 = .ok (.iload_n 3, 1) := by decide +kernel
theorem dL_law_19 : decode cL_law 19 = .ok (.aload_n 0, 1) := by decide +kernel
theorem dL_law_20 : decode cL_law 20 = .ok (.arraylength, 1) := by decide +kernel
theorem dL_law_21 : decode cL_law 21 = .ok (.iconst 5, 1) := by decide +kernel
theorem dL_law_22 : decode cL_law 22 = .ok (.isub, 1) := by decide +kernel
theorem dL_law_23 : decode cL_law 23 = .ok (.if_icmp .gt 813, 3) := by decide +kernel
theorem dL_law_26 : decode cL_law 26 = .ok (.aload_n 0, 1) := by decide +kernel
theorem dL_law_27 : decode cL_law 27 = .ok (.iload_n 3, 1) := by decide +kernel
theorem dL_law_28 : decode cL_law 28 = .ok (.iaload, 1) := by decide +kernel
theorem dL_law_29 : decode cL_law 29 = .ok (.bipush 31, 2) := by decide +kernel
theorem dL_law_31 : decode cL_law 31 = .ok (.iand, 1) := by decide +kernel
theorem dL_law_32 : decode cL_law 32 = .ok (.tableswitch 798 0 23 #[112, 145, 168, 201, 224, 257, 290, 313, 326, 339, 352, 375, 408, 441, 484, 507, 530, 571, 630, 683, 716, 759, 772, 785], 112) := by decide +kernel
theorem dL_law_144 : decode cL_law 144 = .ok (.aload_n 1, 1) := by decide +kernel
theorem dL_law_145 : decode cL_law 145 = .ok (.aload_n 0, 1) := by decide +kernel
theorem dL_law_146 : decode cL_law 146 = .ok (.iload_n 3, 1) := by decide +kernel
theorem dL_law_147 : decode cL_law 147 = .ok (.iconst 1, 1) := by decide +kernel
theorem dL_law_148 : decode cL_law 148 = .ok (.iadd, 1) := by decide +kernel
theorem dL_law_149 : decode cL_law 149 = .ok (.iaload, 1) := by decide +kernel
theorem dL_law_150 : decode cL_law 150 = .ok (.aload_n 0, 1) := by decide +kernel
theorem dL_law_151 : decode cL_law 151 = .ok (.iload_n 3, 1) := by decide +kernel
theorem dL_law_152 : decode cL_law 152 = .ok (.iconst 2, 1) := by decide +kernel
theorem dL_law_153 : decode cL_law 153 = .ok (.iadd, 1) := by decide +kernel
theorem dL_law_154 : decode cL_law 154 = .ok (.iaload, 1) := by decide +kernel
theorem dL_law_155 : decode cL_law 155 = .ok (.invokevirtual 13, 3) := by decide +kernel
theorem dL_law_158 : decode cL_law 158 = .ok (.aload_n 2, 1) := by decide +kernel
theorem dL_law_159 : decode cL_law 159 = .ok (.aload_n 0, 1) := by decide +kernel
theorem dL_law_160 : decode cL_law 160 = .ok (.iload_n 3, 1) := by decide +kernel
theorem dL_law_161 : decode cL_law 161 = .ok (.iconst 1, 1) := by decide +kernel
theorem dL_law_162 : decode cL_law 162 = .ok (.iadd, 1) := by decide +kernel
theorem dL_law_163 : decode cL_law 163 = .ok (.iaload, 1) := by decide +kernel
theorem dL_law_164 : decode cL_law 164 = .ok (.aload_n 0, 1) := by decide +kernel
theorem dL_law_165 : decode cL_law 165 = .ok (.iload_n 3, 1) := by decide +kernel
theorem dL_law_166 : decode cL_law 166 = .ok (.iconst 2, 1) := by decide +kernel
theorem dL_law_167 : decode cL_law 167 = .ok (.iadd, 1) := by decide +kernel
theorem dL_law_168 : decode cL_law 168 = .ok (.iaload, 1) := by decide +kernel
theorem dL_law_169 : decode cL_law 169 = .ok (.invokevirtual 17, 3) := by decide +kernel
theorem dL_law_172 : decode cL_law 172 = .ok (.if_icmp .eq 658, 3) := by decide +kernel
theorem dL_law_175 : decode cL_law 175 = .ok (.iconst 0, 1) := by decide +kernel
theorem dL_law_176 : decode cL_law 176 = .ok (.ireturn, 1) := by decide +kernel
theorem dL_law_177 : decode cL_law 177 = .ok (.aload_n 1, 1) := by decide +kernel
theorem dL_law_178 : decode cL_law 178 = .ok (.aload_n 0, 1) := by decide +kernel
theorem dL_law_179 : decode cL_law 179 = .ok (.iload_n 3, 1) := by decide +kernel
theorem dL_law_180 : decode cL_law 180 = .ok (.iconst 1, 1) := by decide +kernel
theorem dL_law_181 : decode cL_law 181 = .ok (.iadd, 1) := by decide +kernel
theorem dL_law_182 : decode cL_law 182 = .ok (.iaload, 1) := by decide +kernel
theorem dL_law_183 : decode cL_law 183 = .ok (.invokevirtual 18, 3) := by decide +kernel
theorem dL_law_186 : decode cL_law 186 = .ok (.aload_n 2, 1) := by decide +kernel
theorem dL_law_187 : decode cL_law 187 = .ok (.aload_n 0, 1) := by decide +kernel
theorem dL_law_188 : decode cL_law 188 = .ok (.iload_n 3, 1) := by decide +kernel
theorem dL_law_189 : decode cL_law 189 = .ok (.iconst 1, 1) := by decide +kernel
theorem dL_law_190 : decode cL_law 190 = .ok (.iadd, 1) := by decide +kernel
theorem dL_law_191 : decode cL_law 191 = .ok (.iaload, 1) := by decide +kernel
theorem dL_law_192 : decode cL_law 192 = .ok (.invokevirtual 22, 3) := by decide +kernel
theorem dL_law_195 : decode cL_law 195 = .ok (.if_icmp .eq 635, 3) := by decide +kernel
theorem dL_law_198 : decode cL_law 198 = .ok (.iconst 0, 1) := by decide +kernel
theorem dL_law_199 : decode cL_law 199 = .ok (.ireturn, 1) := by decide +kernel
theorem dL_law_200 : decode cL_law 200 = .ok (.aload_n 1, 1) := by decide +kernel
theorem dL_law_201 : decode cL_law 201 = .ok (.aload_n 0, 1) := by decide +kernel
theorem dL_law_202 : decode cL_law 202 = .ok (.iload_n 3, 1) := by decide +kernel
theorem dL_law_203 : decode cL_law 203 = .ok (.iconst 1, 1) := by decide +kernel
theorem dL_law_204 : decode cL_law 204 = .ok (.iadd, 1) := by decide +kernel
theorem dL_law_205 : decode cL_law 205 = .ok (.iaload, 1) := by decide +kernel
theorem dL_law_206 : decode cL_law 206 = .ok (.aload_n 0, 1) := by decide +kernel
theorem dL_law_207 : decode cL_law 207 = .ok (.iload_n 3, 1) := by decide +kernel
theorem dL_law_208 : decode cL_law 208 = .ok (.iconst 2, 1) := by decide +kernel
theorem dL_law_209 : decode cL_law 209 = .ok (.iadd, 1) := by decide +kernel
theorem dL_law_210 : decode cL_law 210 = .ok (.iaload, 1) := by decide +kernel
theorem dL_law_211 : decode cL_law 211 = .ok (.invokevirtual 23, 3) := by decide +kernel
theorem dL_law_214 : decode cL_law 214 = .ok (.aload_n 2, 1) := by decide +kernel
theorem dL_law_215 : decode cL_law 215 = .ok (.aload_n 0, 1) := by decide +kernel
theorem dL_law_216 : decode cL_law 216 = .ok (.iload_n 3, 1) := by decide +kernel
theorem dL_law_217 : decode cL_law 217 = .ok (.iconst 1, 1) := by decide +kernel
theorem dL_law_218 : decode cL_law 218 = .ok (.iadd, 1) := by decide +kernel
theorem dL_law_219 : decode cL_law 219 = .ok (.iaload, 1) := by decide +kernel
theorem dL_law_220 : decode cL_law 220 = .ok (.aload_n 0, 1) := by decide +kernel
theorem dL_law_221 : decode cL_law 221 = .ok (.iload_n 3, 1) := by decide +kernel
theorem dL_law_222 : decode cL_law 222 = .ok (.iconst 2, 1) := by decide +kernel
theorem dL_law_223 : decode cL_law 223 = .ok (.iadd, 1) := by decide +kernel
theorem dL_law_224 : decode cL_law 224 = .ok (.iaload, 1) := by decide +kernel
theorem dL_law_225 : decode cL_law 225 = .ok (.invokevirtual 26, 3) := by decide +kernel
theorem dL_law_228 : decode cL_law 228 = .ok (.if_icmp .eq 602, 3) := by decide +kernel
theorem dL_law_231 : decode cL_law 231 = .ok (.iconst 0, 1) := by decide +kernel
theorem dL_law_232 : decode cL_law 232 = .ok (.ireturn, 1) := by decide +kernel
theorem dL_law_233 : decode cL_law 233 = .ok (.aload_n 1, 1) := by decide +kernel
theorem dL_law_234 : decode cL_law 234 = .ok (.aload_n 0, 1) := by decide +kernel
theorem dL_law_235 : decode cL_law 235 = .ok (.iload_n 3, 1) := by decide +kernel
theorem dL_law_236 : decode cL_law 236 = .ok (.iconst 1, 1) := by decide +kernel
theorem dL_law_237 : decode cL_law 237 = .ok (.iadd, 1) := by decide +kernel
theorem dL_law_238 : decode cL_law 238 = .ok (.iaload, 1) := by decide +kernel
theorem dL_law_239 : decode cL_law 239 = .ok (.invokevirtual 27, 3) := by decide +kernel
theorem dL_law_242 : decode cL_law 242 = .ok (.aload_n 2, 1) := by decide +kernel
theorem dL_law_243 : decode cL_law 243 = .ok (.aload_n 0, 1) := by decide +kernel
theorem dL_law_244 : decode cL_law 244 = .ok (.iload_n 3, 1) := by decide +kernel
theorem dL_law_245 : decode cL_law 245 = .ok (.iconst 1, 1) := by decide +kernel
theorem dL_law_246 : decode cL_law 246 = .ok (.iadd, 1) := by decide +kernel
theorem dL_law_247 : decode cL_law 247 = .ok (.iaload, 1) := by decide +kernel
theorem dL_law_248 : decode cL_law 248 = .ok (.invokevirtual 30, 3) := by decide +kernel
theorem dL_law_251 : decode cL_law 251 = .ok (.if_icmp .eq 579, 3) := by decide +kernel
theorem dL_law_254 : decode cL_law 254 = .ok (.iconst 0, 1) := by decide +kernel
theorem dL_law_255 : decode cL_law 255 = .ok (.ireturn, 1) := by decide +kernel
theorem dL_law_256 : decode cL_law 256 = .ok (.aload_n 1, 1) := by decide +kernel
theorem dL_law_257 : decode cL_law 257 = .ok (.aload_n 0, 1) := by decide +kernel
theorem dL_law_258 : decode cL_law 258 = .ok (.iload_n 3, 1) := by decide +kernel
theorem dL_law_259 : decode cL_law 259 = .ok (.iconst 1, 1) := by decide +kernel
theorem dL_law_260 : decode cL_law 260 = .ok (.iadd, 1) := by decide +kernel
theorem dL_law_261 : decode cL_law 261 = .ok (.iaload, 1) := by decide +kernel
theorem dL_law_262 : decode cL_law 262 = .ok (.aload_n 0, 1) := by decide +kernel
theorem dL_law_263 : decode cL_law 263 = .ok (.iload_n 3, 1) := by decide +kernel
theorem dL_law_264 : decode cL_law 264 = .ok (.iconst 2, 1) := by decide +kernel
theorem dL_law_265 : decode cL_law 265 = .ok (.iadd, 1) := by decide +kernel
theorem dL_law_266 : decode cL_law 266 = .ok (.iaload, 1) := by decide +kernel
theorem dL_law_267 : decode cL_law 267 = .ok (.invokevirtual 31, 3) := by decide +kernel
theorem dL_law_270 : decode cL_law 270 = .ok (.aload_n 2, 1) := by decide +kernel
theorem dL_law_271 : decode cL_law 271 = .ok (.aload_n 0, 1) := by decide +kernel
theorem dL_law_272 : decode cL_law 272 = .ok (.iload_n 3, 1) := by decide +kernel
theorem dL_law_273 : decode cL_law 273 = .ok (.iconst 1, 1) := by decide +kernel
theorem dL_law_274 : decode cL_law 274 = .ok (.iadd, 1) := by decide +kernel
theorem dL_law_275 : decode cL_law 275 = .ok (.iaload, 1) := by decide +kernel
theorem dL_law_276 : decode cL_law 276 = .ok (.aload_n 0, 1) := by decide +kernel
theorem dL_law_277 : decode cL_law 277 = .ok (.iload_n 3, 1) := by decide +kernel
theorem dL_law_278 : decode cL_law 278 = .ok (.iconst 2, 1) := by decide +kernel
theorem dL_law_279 : decode cL_law 279 = .ok (.iadd, 1) := by decide +kernel
theorem dL_law_280 : decode cL_law 280 = .ok (.iaload, 1) := by decide +kernel
theorem dL_law_281 : decode cL_law 281 = .ok (.invokevirtual 34, 3) := by decide +kernel
theorem dL_law_284 : decode cL_law 284 = .ok (.if_icmp .eq 546, 3) := by decide +kernel
theorem dL_law_287 : decode cL_law 287 = .ok (.iconst 0, 1) := by decide +kernel
theorem dL_law_288 : decode cL_law 288 = .ok (.ireturn, 1) := by decide +kernel
theorem dL_law_289 : decode cL_law 289 = .ok (.aload_n 1, 1) := by decide +kernel
theorem dL_law_290 : decode cL_law 290 = .ok (.aload_n 0, 1) := by decide +kernel
theorem dL_law_291 : decode cL_law 291 = .ok (.iload_n 3, 1) := by decide +kernel
theorem dL_law_292 : decode cL_law 292 = .ok (.iconst 1, 1) := by decide +kernel
theorem dL_law_293 : decode cL_law 293 = .ok (.iadd, 1) := by decide +kernel
theorem dL_law_294 : decode cL_law 294 = .ok (.iaload, 1) := by decide +kernel
theorem dL_law_295 : decode cL_law 295 = .ok (.aload_n 0, 1) := by decide +kernel
theorem dL_law_296 : decode cL_law 296 = .ok (.iload_n 3, 1) := by decide +kernel
theorem dL_law_297 : decode cL_law 297 = .ok (.iconst 2, 1) := by decide +kernel
theorem dL_law_298 : decode cL_law 298 = .ok (.iadd, 1) := by decide +kernel
theorem dL_law_299 : decode cL_law 299 = .ok (.iaload, 1) := by decide +kernel
theorem dL_law_300 : decode cL_law 300 = .ok (.invokevirtual 35, 3) := by decide +kernel
theorem dL_law_303 : decode cL_law 303 = .ok (.aload_n 2, 1) := by decide +kernel
theorem dL_law_304 : decode cL_law 304 = .ok (.aload_n 0, 1) := by decide +kernel
theorem dL_law_305 : decode cL_law 305 = .ok (.iload_n 3, 1) := by decide +kernel
theorem dL_law_306 : decode cL_law 306 = .ok (.iconst 1, 1) := by decide +kernel
theorem dL_law_307 : decode cL_law 307 = .ok (.iadd, 1) := by decide +kernel
theorem dL_law_308 : decode cL_law 308 = .ok (.iaload, 1) := by decide +kernel
theorem dL_law_309 : decode cL_law 309 = .ok (.aload_n 0, 1) := by decide +kernel
theorem dL_law_310 : decode cL_law 310 = .ok (.iload_n 3, 1) := by decide +kernel
theorem dL_law_311 : decode cL_law 311 = .ok (.iconst 2, 1) := by decide +kernel
theorem dL_law_312 : decode cL_law 312 = .ok (.iadd, 1) := by decide +kernel
theorem dL_law_313 : decode cL_law 313 = .ok (.iaload, 1) := by decide +kernel
theorem dL_law_314 : decode cL_law 314 = .ok (.invokevirtual 38, 3) := by decide +kernel
theorem dL_law_317 : decode cL_law 317 = .ok (.if_icmp .eq 513, 3) := by decide +kernel
theorem dL_law_320 : decode cL_law 320 = .ok (.iconst 0, 1) := by decide +kernel
theorem dL_law_321 : decode cL_law 321 = .ok (.ireturn, 1) := by decide +kernel
theorem dL_law_322 : decode cL_law 322 = .ok (.aload_n 1, 1) := by decide +kernel
theorem dL_law_323 : decode cL_law 323 = .ok (.aload_n 0, 1) := by decide +kernel
theorem dL_law_324 : decode cL_law 324 = .ok (.iload_n 3, 1) := by decide +kernel
theorem dL_law_325 : decode cL_law 325 = .ok (.iconst 1, 1) := by decide +kernel
theorem dL_law_326 : decode cL_law 326 = .ok (.iadd, 1) := by decide +kernel
theorem dL_law_327 : decode cL_law 327 = .ok (.iaload, 1) := by decide +kernel
theorem dL_law_328 : decode cL_law 328 = .ok (.invokevirtual 39, 3) := by decide +kernel
theorem dL_law_331 : decode cL_law 331 = .ok (.aload_n 2, 1) := by decide +kernel
theorem dL_law_332 : decode cL_law 332 = .ok (.aload_n 0, 1) := by decide +kernel
theorem dL_law_333 : decode cL_law 333 = .ok (.iload_n 3, 1) := by decide +kernel
theorem dL_law_334 : decode cL_law 334 = .ok (.iconst 1, 1) := by decide +kernel
theorem dL_law_335 : decode cL_law 335 = .ok (.iadd, 1) := by decide +kernel
theorem dL_law_336 : decode cL_law 336 = .ok (.iaload, 1) := by decide +kernel
theorem dL_law_337 : decode cL_law 337 = .ok (.invokevirtual 42, 3) := by decide +kernel
theorem dL_law_340 : decode cL_law 340 = .ok (.if_icmp .eq 490, 3) := by decide +kernel
theorem dL_law_343 : decode cL_law 343 = .ok (.iconst 0, 1) := by decide +kernel
theorem dL_law_344 : decode cL_law 344 = .ok (.ireturn, 1) := by decide +kernel
theorem dL_law_345 : decode cL_law 345 = .ok (.aload_n 1, 1) := by decide +kernel
theorem dL_law_346 : decode cL_law 346 = .ok (.invokevirtual 43, 3) := by decide +kernel
theorem dL_law_349 : decode cL_law 349 = .ok (.aload_n 2, 1) := by decide +kernel
theorem dL_law_350 : decode cL_law 350 = .ok (.invokevirtual 47, 3) := by decide +kernel
theorem dL_law_353 : decode cL_law 353 = .ok (.if_icmp .eq 477, 3) := by decide +kernel
theorem dL_law_356 : decode cL_law 356 = .ok (.iconst 0, 1) := by decide +kernel
theorem dL_law_357 : decode cL_law 357 = .ok (.ireturn, 1) := by decide +kernel
theorem dL_law_358 : decode cL_law 358 = .ok (.aload_n 1, 1) := by decide +kernel
theorem dL_law_359 : decode cL_law 359 = .ok (.invokevirtual 48, 3) := by decide +kernel
theorem dL_law_362 : decode cL_law 362 = .ok (.aload_n 2, 1) := by decide +kernel
theorem dL_law_363 : decode cL_law 363 = .ok (.invokevirtual 51, 3) := by decide +kernel
theorem dL_law_366 : decode cL_law 366 = .ok (.if_icmp .eq 464, 3) := by decide +kernel
theorem dL_law_369 : decode cL_law 369 = .ok (.iconst 0, 1) := by decide +kernel
theorem dL_law_370 : decode cL_law 370 = .ok (.ireturn, 1) := by decide +kernel
theorem dL_law_371 : decode cL_law 371 = .ok (.aload_n 1, 1) := by decide +kernel
theorem dL_law_372 : decode cL_law 372 = .ok (.invokevirtual 52, 3) := by decide +kernel
theorem dL_law_375 : decode cL_law 375 = .ok (.aload_n 2, 1) := by decide +kernel
theorem dL_law_376 : decode cL_law 376 = .ok (.invokevirtual 55, 3) := by decide +kernel
theorem dL_law_379 : decode cL_law 379 = .ok (.if_icmp .eq 451, 3) := by decide +kernel
theorem dL_law_382 : decode cL_law 382 = .ok (.iconst 0, 1) := by decide +kernel
theorem dL_law_383 : decode cL_law 383 = .ok (.ireturn, 1) := by decide +kernel
theorem dL_law_384 : decode cL_law 384 = .ok (.aload_n 1, 1) := by decide +kernel
theorem dL_law_385 : decode cL_law 385 = .ok (.aload_n 0, 1) := by decide +kernel
theorem dL_law_386 : decode cL_law 386 = .ok (.iload_n 3, 1) := by decide +kernel
theorem dL_law_387 : decode cL_law 387 = .ok (.iconst 1, 1) := by decide +kernel
theorem dL_law_388 : decode cL_law 388 = .ok (.iadd, 1) := by decide +kernel
theorem dL_law_389 : decode cL_law 389 = .ok (.iaload, 1) := by decide +kernel
theorem dL_law_390 : decode cL_law 390 = .ok (.invokevirtual 56, 3) := by decide +kernel
theorem dL_law_393 : decode cL_law 393 = .ok (.aload_n 2, 1) := by decide +kernel
theorem dL_law_394 : decode cL_law 394 = .ok (.aload_n 0, 1) := by decide +kernel
theorem dL_law_395 : decode cL_law 395 = .ok (.iload_n 3, 1) := by decide +kernel
theorem dL_law_396 : decode cL_law 396 = .ok (.iconst 1, 1) := by decide +kernel
theorem dL_law_397 : decode cL_law 397 = .ok (.iadd, 1) := by decide +kernel
theorem dL_law_398 : decode cL_law 398 = .ok (.iaload, 1) := by decide +kernel
theorem dL_law_399 : decode cL_law 399 = .ok (.invokevirtual 59, 3) := by decide +kernel
theorem dL_law_402 : decode cL_law 402 = .ok (.if_icmp .eq 428, 3) := by decide +kernel
theorem dL_law_405 : decode cL_law 405 = .ok (.iconst 0, 1) := by decide +kernel
theorem dL_law_406 : decode cL_law 406 = .ok (.ireturn, 1) := by decide +kernel
theorem dL_law_407 : decode cL_law 407 = .ok (.aload_n 1, 1) := by decide +kernel
theorem dL_law_408 : decode cL_law 408 = .ok (.aload_n 0, 1) := by decide +kernel
theorem dL_law_409 : decode cL_law 409 = .ok (.iload_n 3, 1) := by decide +kernel
theorem dL_law_410 : decode cL_law 410 = .ok (.iconst 1, 1) := by decide +kernel
theorem dL_law_411 : decode cL_law 411 = .ok (.iadd, 1) := by decide +kernel
theorem dL_law_412 : decode cL_law 412 = .ok (.iaload, 1) := by decide +kernel
theorem dL_law_413 : decode cL_law 413 = .ok (.aload_n 0, 1) := by decide +kernel
theorem dL_law_414 : decode cL_law 414 = .ok (.iload_n 3, 1) := by decide +kernel
theorem dL_law_415 : decode cL_law 415 = .ok (.iconst 2, 1) := by decide +kernel
theorem dL_law_416 : decode cL_law 416 = .ok (.iadd, 1) := by decide +kernel
theorem dL_law_417 : decode cL_law 417 = .ok (.iaload, 1) := by decide +kernel
theorem dL_law_418 : decode cL_law 418 = .ok (.invokevirtual 60, 3) := by decide +kernel
theorem dL_law_421 : decode cL_law 421 = .ok (.aload_n 2, 1) := by decide +kernel
theorem dL_law_422 : decode cL_law 422 = .ok (.aload_n 0, 1) := by decide +kernel
theorem dL_law_423 : decode cL_law 423 = .ok (.iload_n 3, 1) := by decide +kernel
theorem dL_law_424 : decode cL_law 424 = .ok (.iconst 1, 1) := by decide +kernel
theorem dL_law_425 : decode cL_law 425 = .ok (.iadd, 1) := by decide +kernel
theorem dL_law_426 : decode cL_law 426 = .ok (.iaload, 1) := by decide +kernel
theorem dL_law_427 : decode cL_law 427 = .ok (.aload_n 0, 1) := by decide +kernel
theorem dL_law_428 : decode cL_law 428 = .ok (.iload_n 3, 1) := by decide +kernel
theorem dL_law_429 : decode cL_law 429 = .ok (.iconst 2, 1) := by decide +kernel
theorem dL_law_430 : decode cL_law 430 = .ok (.iadd, 1) := by decide +kernel
theorem dL_law_431 : decode cL_law 431 = .ok (.iaload, 1) := by decide +kernel
theorem dL_law_432 : decode cL_law 432 = .ok (.invokevirtual 63, 3) := by decide +kernel
theorem dL_law_435 : decode cL_law 435 = .ok (.if_icmp .eq 395, 3) := by decide +kernel
theorem dL_law_438 : decode cL_law 438 = .ok (.iconst 0, 1) := by decide +kernel
theorem dL_law_439 : decode cL_law 439 = .ok (.ireturn, 1) := by decide +kernel
theorem dL_law_440 : decode cL_law 440 = .ok (.aload_n 1, 1) := by decide +kernel
theorem dL_law_441 : decode cL_law 441 = .ok (.aload_n 0, 1) := by decide +kernel
theorem dL_law_442 : decode cL_law 442 = .ok (.iload_n 3, 1) := by decide +kernel
theorem dL_law_443 : decode cL_law 443 = .ok (.iconst 1, 1) := by decide +kernel
theorem dL_law_444 : decode cL_law 444 = .ok (.iadd, 1) := by decide +kernel
theorem dL_law_445 : decode cL_law 445 = .ok (.iaload, 1) := by decide +kernel
theorem dL_law_446 : decode cL_law 446 = .ok (.aload_n 0, 1) := by decide +kernel
theorem dL_law_447 : decode cL_law 447 = .ok (.iload_n 3, 1) := by decide +kernel
theorem dL_law_448 : decode cL_law 448 = .ok (.iconst 2, 1) := by decide +kernel
theorem dL_law_449 : decode cL_law 449 = .ok (.iadd, 1) := by decide +kernel
theorem dL_law_450 : decode cL_law 450 = .ok (.iaload, 1) := by decide +kernel
theorem dL_law_451 : decode cL_law 451 = .ok (.invokevirtual 64, 3) := by decide +kernel
theorem dL_law_454 : decode cL_law 454 = .ok (.aload_n 2, 1) := by decide +kernel
theorem dL_law_455 : decode cL_law 455 = .ok (.aload_n 0, 1) := by decide +kernel
theorem dL_law_456 : decode cL_law 456 = .ok (.iload_n 3, 1) := by decide +kernel
theorem dL_law_457 : decode cL_law 457 = .ok (.iconst 1, 1) := by decide +kernel
theorem dL_law_458 : decode cL_law 458 = .ok (.iadd, 1) := by decide +kernel
theorem dL_law_459 : decode cL_law 459 = .ok (.iaload, 1) := by decide +kernel
theorem dL_law_460 : decode cL_law 460 = .ok (.aload_n 0, 1) := by decide +kernel
theorem dL_law_461 : decode cL_law 461 = .ok (.iload_n 3, 1) := by decide +kernel
theorem dL_law_462 : decode cL_law 462 = .ok (.iconst 2, 1) := by decide +kernel
theorem dL_law_463 : decode cL_law 463 = .ok (.iadd, 1) := by decide +kernel
theorem dL_law_464 : decode cL_law 464 = .ok (.iaload, 1) := by decide +kernel
theorem dL_law_465 : decode cL_law 465 = .ok (.invokevirtual 67, 3) := by decide +kernel
theorem dL_law_468 : decode cL_law 468 = .ok (.if_icmp .eq 362, 3) := by decide +kernel
theorem dL_law_471 : decode cL_law 471 = .ok (.iconst 0, 1) := by decide +kernel
theorem dL_law_472 : decode cL_law 472 = .ok (.ireturn, 1) := by decide +kernel
theorem dL_law_473 : decode cL_law 473 = .ok (.aload_n 1, 1) := by decide +kernel
theorem dL_law_474 : decode cL_law 474 = .ok (.aload_n 0, 1) := by decide +kernel
theorem dL_law_475 : decode cL_law 475 = .ok (.iload_n 3, 1) := by decide +kernel
theorem dL_law_476 : decode cL_law 476 = .ok (.iconst 1, 1) := by decide +kernel
theorem dL_law_477 : decode cL_law 477 = .ok (.iadd, 1) := by decide +kernel
theorem dL_law_478 : decode cL_law 478 = .ok (.iaload, 1) := by decide +kernel
theorem dL_law_479 : decode cL_law 479 = .ok (.aload_n 0, 1) := by decide +kernel
theorem dL_law_480 : decode cL_law 480 = .ok (.iload_n 3, 1) := by decide +kernel
theorem dL_law_481 : decode cL_law 481 = .ok (.iconst 2, 1) := by decide +kernel
theorem dL_law_482 : decode cL_law 482 = .ok (.iadd, 1) := by decide +kernel
theorem dL_law_483 : decode cL_law 483 = .ok (.iaload, 1) := by decide +kernel
theorem dL_law_484 : decode cL_law 484 = .ok (.aload_n 0, 1) := by decide +kernel
theorem dL_law_485 : decode cL_law 485 = .ok (.iload_n 3, 1) := by decide +kernel
theorem dL_law_486 : decode cL_law 486 = .ok (.iconst 3, 1) := by decide +kernel
theorem dL_law_487 : decode cL_law 487 = .ok (.iadd, 1) := by decide +kernel
theorem dL_law_488 : decode cL_law 488 = .ok (.iaload, 1) := by decide +kernel
theorem dL_law_489 : decode cL_law 489 = .ok (.invokevirtual 68, 3) := by decide +kernel
theorem dL_law_492 : decode cL_law 492 = .ok (.aload_n 2, 1) := by decide +kernel
theorem dL_law_493 : decode cL_law 493 = .ok (.aload_n 0, 1) := by decide +kernel
theorem dL_law_494 : decode cL_law 494 = .ok (.iload_n 3, 1) := by decide +kernel
theorem dL_law_495 : decode cL_law 495 = .ok (.iconst 1, 1) := by decide +kernel
theorem dL_law_496 : decode cL_law 496 = .ok (.iadd, 1) := by decide +kernel
theorem dL_law_497 : decode cL_law 497 = .ok (.iaload, 1) := by decide +kernel
theorem dL_law_498 : decode cL_law 498 = .ok (.aload_n 0, 1) := by decide +kernel
theorem dL_law_499 : decode cL_law 499 = .ok (.iload_n 3, 1) := by decide +kernel
theorem dL_law_500 : decode cL_law 500 = .ok (.iconst 2, 1) := by decide +kernel
theorem dL_law_501 : decode cL_law 501 = .ok (.iadd, 1) := by decide +kernel
theorem dL_law_502 : decode cL_law 502 = .ok (.iaload, 1) := by decide +kernel
theorem dL_law_503 : decode cL_law 503 = .ok (.aload_n 0, 1) := by decide +kernel
theorem dL_law_504 : decode cL_law 504 = .ok (.iload_n 3, 1) := by decide +kernel
theorem dL_law_505 : decode cL_law 505 = .ok (.iconst 3, 1) := by decide +kernel
theorem dL_law_506 : decode cL_law 506 = .ok (.iadd, 1) := by decide +kernel
theorem dL_law_507 : decode cL_law 507 = .ok (.iaload, 1) := by decide +kernel
theorem dL_law_508 : decode cL_law 508 = .ok (.invokevirtual 72, 3) := by decide +kernel
theorem dL_law_511 : decode cL_law 511 = .ok (.if_icmp .eq 319, 3) := by decide +kernel
theorem dL_law_514 : decode cL_law 514 = .ok (.iconst 0, 1) := by decide +kernel
theorem dL_law_515 : decode cL_law 515 = .ok (.ireturn, 1) := by decide +kernel
theorem dL_law_516 : decode cL_law 516 = .ok (.aload_n 1, 1) := by decide +kernel
theorem dL_law_517 : decode cL_law 517 = .ok (.aload_n 0, 1) := by decide +kernel
theorem dL_law_518 : decode cL_law 518 = .ok (.iload_n 3, 1) := by decide +kernel
theorem dL_law_519 : decode cL_law 519 = .ok (.iconst 1, 1) := by decide +kernel
theorem dL_law_520 : decode cL_law 520 = .ok (.iadd, 1) := by decide +kernel
theorem dL_law_521 : decode cL_law 521 = .ok (.iaload, 1) := by decide +kernel
theorem dL_law_522 : decode cL_law 522 = .ok (.invokevirtual 73, 3) := by decide +kernel
theorem dL_law_525 : decode cL_law 525 = .ok (.aload_n 2, 1) := by decide +kernel
theorem dL_law_526 : decode cL_law 526 = .ok (.aload_n 0, 1) := by decide +kernel
theorem dL_law_527 : decode cL_law 527 = .ok (.iload_n 3, 1) := by decide +kernel
theorem dL_law_528 : decode cL_law 528 = .ok (.iconst 1, 1) := by decide +kernel
theorem dL_law_529 : decode cL_law 529 = .ok (.iadd, 1) := by decide +kernel
theorem dL_law_530 : decode cL_law 530 = .ok (.iaload, 1) := by decide +kernel
theorem dL_law_531 : decode cL_law 531 = .ok (.invokevirtual 76, 3) := by decide +kernel
theorem dL_law_534 : decode cL_law 534 = .ok (.if_icmp .eq 296, 3) := by decide +kernel
theorem dL_law_537 : decode cL_law 537 = .ok (.iconst 0, 1) := by decide +kernel
theorem dL_law_538 : decode cL_law 538 = .ok (.ireturn, 1) := by decide +kernel
theorem dL_law_539 : decode cL_law 539 = .ok (.aload_n 1, 1) := by decide +kernel
theorem dL_law_540 : decode cL_law 540 = .ok (.aload_n 0, 1) := by decide +kernel
theorem dL_law_541 : decode cL_law 541 = .ok (.iload_n 3, 1) := by decide +kernel
theorem dL_law_542 : decode cL_law 542 = .ok (.iconst 1, 1) := by decide +kernel
theorem dL_law_543 : decode cL_law 543 = .ok (.iadd, 1) := by decide +kernel
theorem dL_law_544 : decode cL_law 544 = .ok (.iaload, 1) := by decide +kernel
theorem dL_law_545 : decode cL_law 545 = .ok (.invokevirtual 77, 3) := by decide +kernel
theorem dL_law_548 : decode cL_law 548 = .ok (.aload_n 2, 1) := by decide +kernel
theorem dL_law_549 : decode cL_law 549 = .ok (.aload_n 0, 1) := by decide +kernel
theorem dL_law_550 : decode cL_law 550 = .ok (.iload_n 3, 1) := by decide +kernel
theorem dL_law_551 : decode cL_law 551 = .ok (.iconst 1, 1) := by decide +kernel
theorem dL_law_552 : decode cL_law 552 = .ok (.iadd, 1) := by decide +kernel
theorem dL_law_553 : decode cL_law 553 = .ok (.iaload, 1) := by decide +kernel
theorem dL_law_554 : decode cL_law 554 = .ok (.invokevirtual 80, 3) := by decide +kernel
theorem dL_law_557 : decode cL_law 557 = .ok (.if_icmp .eq 273, 3) := by decide +kernel
theorem dL_law_560 : decode cL_law 560 = .ok (.iconst 0, 1) := by decide +kernel
theorem dL_law_561 : decode cL_law 561 = .ok (.ireturn, 1) := by decide +kernel
theorem dL_law_562 : decode cL_law 562 = .ok (.aload_n 1, 1) := by decide +kernel
theorem dL_law_563 : decode cL_law 563 = .ok (.invokevirtual 81, 3) := by decide +kernel
theorem dL_law_566 : decode cL_law 566 = .ok (.dstore 4, 2) := by decide +kernel
theorem dL_law_568 : decode cL_law 568 = .ok (.aload_n 2, 1) := by decide +kernel
theorem dL_law_569 : decode cL_law 569 = .ok (.invokevirtual 85, 3) := by decide +kernel
theorem dL_law_572 : decode cL_law 572 = .ok (.dstore 6, 2) := by decide +kernel
theorem dL_law_574 : decode cL_law 574 = .ok (.dload 4, 2) := by decide +kernel
theorem dL_law_576 : decode cL_law 576 = .ok (.dload 6, 2) := by decide +kernel
theorem dL_law_578 : decode cL_law 578 = .ok (.dcmp .l, 1) := by decide +kernel
theorem dL_law_579 : decode cL_law 579 = .ok (.ifCond .eq 21, 3) := by decide +kernel
theorem dL_law_582 : decode cL_law 582 = .ok (.dload 4, 2) := by decide +kernel
theorem dL_law_584 : decode cL_law 584 = .ok (.dload 4, 2) := by decide +kernel
theorem dL_law_586 : decode cL_law 586 = .ok (.dcmp .l, 1) := by decide +kernel
theorem dL_law_587 : decode cL_law 587 = .ok (.ifCond .eq 11, 3) := by decide +kernel
theorem dL_law_590 : decode cL_law 590 = .ok (.dload 6, 2) := by decide +kernel
theorem dL_law_592 : decode cL_law 592 = .ok (.dload 6, 2) := by decide +kernel
theorem dL_law_594 : decode cL_law 594 = .ok (.dcmp .l, 1) := by decide +kernel
theorem dL_law_595 : decode cL_law 595 = .ok (.ifCond .ne 5, 3) := by decide +kernel
theorem dL_law_598 : decode cL_law 598 = .ok (.iconst 0, 1) := by decide +kernel
theorem dL_law_599 : decode cL_law 599 = .ok (.ireturn, 1) := by decide +kernel
theorem dL_law_600 : decode cL_law 600 = .ok (.goto 230, 3) := by decide +kernel
theorem dL_law_603 : decode cL_law 603 = .ok (.aload_n 1, 1) := by decide +kernel
theorem dL_law_604 : decode cL_law 604 = .ok (.aload_n 0, 1) := by decide +kernel
theorem dL_law_605 : decode cL_law 605 = .ok (.iload_n 3, 1) := by decide +kernel
theorem dL_law_606 : decode cL_law 606 = .ok (.iconst 1, 1) := by decide +kernel
theorem dL_law_607 : decode cL_law 607 = .ok (.iadd, 1) := by decide +kernel
theorem dL_law_608 : decode cL_law 608 = .ok (.iaload, 1) := by decide +kernel
theorem dL_law_609 : decode cL_law 609 = .ok (.aload_n 0, 1) := by decide +kernel
theorem dL_law_610 : decode cL_law 610 = .ok (.iload_n 3, 1) := by decide +kernel
theorem dL_law_611 : decode cL_law 611 = .ok (.iconst 2, 1) := by decide +kernel
theorem dL_law_612 : decode cL_law 612 = .ok (.iadd, 1) := by decide +kernel
theorem dL_law_613 : decode cL_law 613 = .ok (.iaload, 1) := by decide +kernel
theorem dL_law_614 : decode cL_law 614 = .ok (.aload_n 0, 1) := by decide +kernel
theorem dL_law_615 : decode cL_law 615 = .ok (.iload_n 3, 1) := by decide +kernel
theorem dL_law_616 : decode cL_law 616 = .ok (.iconst 3, 1) := by decide +kernel
theorem dL_law_617 : decode cL_law 617 = .ok (.iadd, 1) := by decide +kernel
theorem dL_law_618 : decode cL_law 618 = .ok (.iaload, 1) := by decide +kernel
theorem dL_law_619 : decode cL_law 619 = .ok (.ifCond .eq 7, 3) := by decide +kernel
theorem dL_law_622 : decode cL_law 622 = .ok (.iconst 1, 1) := by decide +kernel
theorem dL_law_623 : decode cL_law 623 = .ok (.goto 4, 3) := by decide +kernel
theorem dL_law_626 : decode cL_law 626 = .ok (.iconst 0, 1) := by decide +kernel
theorem dL_law_627 : decode cL_law 627 = .ok (.invokevirtual 86, 3) := by decide +kernel
theorem dL_law_630 : decode cL_law 630 = .ok (.aload_n 2, 1) := by decide +kernel
theorem dL_law_631 : decode cL_law 631 = .ok (.aload_n 0, 1) := by decide +kernel
theorem dL_law_632 : decode cL_law 632 = .ok (.iload_n 3, 1) := by decide +kernel
theorem dL_law_633 : decode cL_law 633 = .ok (.iconst 1, 1) := by decide +kernel
theorem dL_law_634 : decode cL_law 634 = .ok (.iadd, 1) := by decide +kernel
theorem dL_law_635 : decode cL_law 635 = .ok (.iaload, 1) := by decide +kernel
theorem dL_law_636 : decode cL_law 636 = .ok (.aload_n 0, 1) := by decide +kernel
theorem dL_law_637 : decode cL_law 637 = .ok (.iload_n 3, 1) := by decide +kernel
theorem dL_law_638 : decode cL_law 638 = .ok (.iconst 2, 1) := by decide +kernel
theorem dL_law_639 : decode cL_law 639 = .ok (.iadd, 1) := by decide +kernel
theorem dL_law_640 : decode cL_law 640 = .ok (.iaload, 1) := by decide +kernel
theorem dL_law_641 : decode cL_law 641 = .ok (.aload_n 0, 1) := by decide +kernel
theorem dL_law_642 : decode cL_law 642 = .ok (.iload_n 3, 1) := by decide +kernel
theorem dL_law_643 : decode cL_law 643 = .ok (.iconst 3, 1) := by decide +kernel
theorem dL_law_644 : decode cL_law 644 = .ok (.iadd, 1) := by decide +kernel
theorem dL_law_645 : decode cL_law 645 = .ok (.iaload, 1) := by decide +kernel
theorem dL_law_646 : decode cL_law 646 = .ok (.ifCond .eq 7, 3) := by decide +kernel
theorem dL_law_649 : decode cL_law 649 = .ok (.iconst 1, 1) := by decide +kernel
theorem dL_law_650 : decode cL_law 650 = .ok (.goto 4, 3) := by decide +kernel
theorem dL_law_653 : decode cL_law 653 = .ok (.iconst 0, 1) := by decide +kernel
theorem dL_law_654 : decode cL_law 654 = .ok (.invokevirtual 90, 3) := by decide +kernel
theorem dL_law_657 : decode cL_law 657 = .ok (.if_icmp .eq 173, 3) := by decide +kernel
theorem dL_law_660 : decode cL_law 660 = .ok (.iconst 0, 1) := by decide +kernel
theorem dL_law_661 : decode cL_law 661 = .ok (.ireturn, 1) := by decide +kernel
theorem dL_law_662 : decode cL_law 662 = .ok (.aload_n 1, 1) := by decide +kernel
theorem dL_law_663 : decode cL_law 663 = .ok (.aload_n 0, 1) := by decide +kernel
theorem dL_law_664 : decode cL_law 664 = .ok (.iload_n 3, 1) := by decide +kernel
theorem dL_law_665 : decode cL_law 665 = .ok (.iconst 1, 1) := by decide +kernel
theorem dL_law_666 : decode cL_law 666 = .ok (.iadd, 1) := by decide +kernel
theorem dL_law_667 : decode cL_law 667 = .ok (.iaload, 1) := by decide +kernel
theorem dL_law_668 : decode cL_law 668 = .ok (.aload_n 0, 1) := by decide +kernel
theorem dL_law_669 : decode cL_law 669 = .ok (.iload_n 3, 1) := by decide +kernel
theorem dL_law_670 : decode cL_law 670 = .ok (.iconst 2, 1) := by decide +kernel
theorem dL_law_671 : decode cL_law 671 = .ok (.iadd, 1) := by decide +kernel
theorem dL_law_672 : decode cL_law 672 = .ok (.iaload, 1) := by decide +kernel
theorem dL_law_673 : decode cL_law 673 = .ok (.aload_n 0, 1) := by decide +kernel
theorem dL_law_674 : decode cL_law 674 = .ok (.iload_n 3, 1) := by decide +kernel
theorem dL_law_675 : decode cL_law 675 = .ok (.iconst 3, 1) := by decide +kernel
theorem dL_law_676 : decode cL_law 676 = .ok (.iadd, 1) := by decide +kernel
theorem dL_law_677 : decode cL_law 677 = .ok (.iaload, 1) := by decide +kernel
theorem dL_law_678 : decode cL_law 678 = .ok (.aload_n 0, 1) := by decide +kernel
theorem dL_law_679 : decode cL_law 679 = .ok (.iload_n 3, 1) := by decide +kernel
theorem dL_law_680 : decode cL_law 680 = .ok (.iconst 4, 1) := by decide +kernel
theorem dL_law_681 : decode cL_law 681 = .ok (.iadd, 1) := by decide +kernel
theorem dL_law_682 : decode cL_law 682 = .ok (.iaload, 1) := by decide +kernel
theorem dL_law_683 : decode cL_law 683 = .ok (.invokevirtual 91, 3) := by decide +kernel
theorem dL_law_686 : decode cL_law 686 = .ok (.aload_n 2, 1) := by decide +kernel
theorem dL_law_687 : decode cL_law 687 = .ok (.aload_n 0, 1) := by decide +kernel
theorem dL_law_688 : decode cL_law 688 = .ok (.iload_n 3, 1) := by decide +kernel
theorem dL_law_689 : decode cL_law 689 = .ok (.iconst 1, 1) := by decide +kernel
theorem dL_law_690 : decode cL_law 690 = .ok (.iadd, 1) := by decide +kernel
theorem dL_law_691 : decode cL_law 691 = .ok (.iaload, 1) := by decide +kernel
theorem dL_law_692 : decode cL_law 692 = .ok (.aload_n 0, 1) := by decide +kernel
theorem dL_law_693 : decode cL_law 693 = .ok (.iload_n 3, 1) := by decide +kernel
theorem dL_law_694 : decode cL_law 694 = .ok (.iconst 2, 1) := by decide +kernel
theorem dL_law_695 : decode cL_law 695 = .ok (.iadd, 1) := by decide +kernel
theorem dL_law_696 : decode cL_law 696 = .ok (.iaload, 1) := by decide +kernel
theorem dL_law_697 : decode cL_law 697 = .ok (.aload_n 0, 1) := by decide +kernel
theorem dL_law_698 : decode cL_law 698 = .ok (.iload_n 3, 1) := by decide +kernel
theorem dL_law_699 : decode cL_law 699 = .ok (.iconst 3, 1) := by decide +kernel
theorem dL_law_700 : decode cL_law 700 = .ok (.iadd, 1) := by decide +kernel
theorem dL_law_701 : decode cL_law 701 = .ok (.iaload, 1) := by decide +kernel
theorem dL_law_702 : decode cL_law 702 = .ok (.aload_n 0, 1) := by decide +kernel
theorem dL_law_703 : decode cL_law 703 = .ok (.iload_n 3, 1) := by decide +kernel
theorem dL_law_704 : decode cL_law 704 = .ok (.iconst 4, 1) := by decide +kernel
theorem dL_law_705 : decode cL_law 705 = .ok (.iadd, 1) := by decide +kernel
theorem dL_law_706 : decode cL_law 706 = .ok (.iaload, 1) := by decide +kernel
theorem dL_law_707 : decode cL_law 707 = .ok (.invokevirtual 95, 3) := by decide +kernel
theorem dL_law_710 : decode cL_law 710 = .ok (.if_icmp .eq 120, 3) := by decide +kernel
theorem dL_law_713 : decode cL_law 713 = .ok (.iconst 0, 1) := by decide +kernel
theorem dL_law_714 : decode cL_law 714 = .ok (.ireturn, 1) := by decide +kernel
theorem dL_law_715 : decode cL_law 715 = .ok (.aload_n 1, 1) := by decide +kernel
theorem dL_law_716 : decode cL_law 716 = .ok (.aload_n 0, 1) := by decide +kernel
theorem dL_law_717 : decode cL_law 717 = .ok (.iload_n 3, 1) := by decide +kernel
theorem dL_law_718 : decode cL_law 718 = .ok (.iconst 1, 1) := by decide +kernel
theorem dL_law_719 : decode cL_law 719 = .ok (.iadd, 1) := by decide +kernel
theorem dL_law_720 : decode cL_law 720 = .ok (.iaload, 1) := by decide +kernel
theorem dL_law_721 : decode cL_law 721 = .ok (.aload_n 0, 1) := by decide +kernel
theorem dL_law_722 : decode cL_law 722 = .ok (.iload_n 3, 1) := by decide +kernel
theorem dL_law_723 : decode cL_law 723 = .ok (.iconst 2, 1) := by decide +kernel
theorem dL_law_724 : decode cL_law 724 = .ok (.iadd, 1) := by decide +kernel
theorem dL_law_725 : decode cL_law 725 = .ok (.iaload, 1) := by decide +kernel
theorem dL_law_726 : decode cL_law 726 = .ok (.invokevirtual 96, 3) := by decide +kernel
theorem dL_law_729 : decode cL_law 729 = .ok (.aload_n 2, 1) := by decide +kernel
theorem dL_law_730 : decode cL_law 730 = .ok (.aload_n 0, 1) := by decide +kernel
theorem dL_law_731 : decode cL_law 731 = .ok (.iload_n 3, 1) := by decide +kernel
theorem dL_law_732 : decode cL_law 732 = .ok (.iconst 1, 1) := by decide +kernel
theorem dL_law_733 : decode cL_law 733 = .ok (.iadd, 1) := by decide +kernel
theorem dL_law_734 : decode cL_law 734 = .ok (.iaload, 1) := by decide +kernel
theorem dL_law_735 : decode cL_law 735 = .ok (.aload_n 0, 1) := by decide +kernel
theorem dL_law_736 : decode cL_law 736 = .ok (.iload_n 3, 1) := by decide +kernel
theorem dL_law_737 : decode cL_law 737 = .ok (.iconst 2, 1) := by decide +kernel
theorem dL_law_738 : decode cL_law 738 = .ok (.iadd, 1) := by decide +kernel
theorem dL_law_739 : decode cL_law 739 = .ok (.iaload, 1) := by decide +kernel
theorem dL_law_740 : decode cL_law 740 = .ok (.invokevirtual 99, 3) := by decide +kernel
theorem dL_law_743 : decode cL_law 743 = .ok (.if_icmp .eq 87, 3) := by decide +kernel
theorem dL_law_746 : decode cL_law 746 = .ok (.iconst 0, 1) := by decide +kernel
theorem dL_law_747 : decode cL_law 747 = .ok (.ireturn, 1) := by decide +kernel
theorem dL_law_748 : decode cL_law 748 = .ok (.aload_n 1, 1) := by decide +kernel
theorem dL_law_749 : decode cL_law 749 = .ok (.aload_n 0, 1) := by decide +kernel
theorem dL_law_750 : decode cL_law 750 = .ok (.iload_n 3, 1) := by decide +kernel
theorem dL_law_751 : decode cL_law 751 = .ok (.iconst 1, 1) := by decide +kernel
theorem dL_law_752 : decode cL_law 752 = .ok (.iadd, 1) := by decide +kernel
theorem dL_law_753 : decode cL_law 753 = .ok (.iaload, 1) := by decide +kernel
theorem dL_law_754 : decode cL_law 754 = .ok (.aload_n 0, 1) := by decide +kernel
theorem dL_law_755 : decode cL_law 755 = .ok (.iload_n 3, 1) := by decide +kernel
theorem dL_law_756 : decode cL_law 756 = .ok (.iconst 2, 1) := by decide +kernel
theorem dL_law_757 : decode cL_law 757 = .ok (.iadd, 1) := by decide +kernel
theorem dL_law_758 : decode cL_law 758 = .ok (.iaload, 1) := by decide +kernel
theorem dL_law_759 : decode cL_law 759 = .ok (.aload_n 0, 1) := by decide +kernel
theorem dL_law_760 : decode cL_law 760 = .ok (.iload_n 3, 1) := by decide +kernel
theorem dL_law_761 : decode cL_law 761 = .ok (.iconst 3, 1) := by decide +kernel
theorem dL_law_762 : decode cL_law 762 = .ok (.iadd, 1) := by decide +kernel
theorem dL_law_763 : decode cL_law 763 = .ok (.iaload, 1) := by decide +kernel
theorem dL_law_764 : decode cL_law 764 = .ok (.invokevirtual 100, 3) := by decide +kernel
theorem dL_law_767 : decode cL_law 767 = .ok (.aload_n 2, 1) := by decide +kernel
theorem dL_law_768 : decode cL_law 768 = .ok (.aload_n 0, 1) := by decide +kernel
theorem dL_law_769 : decode cL_law 769 = .ok (.iload_n 3, 1) := by decide +kernel
theorem dL_law_770 : decode cL_law 770 = .ok (.iconst 1, 1) := by decide +kernel
theorem dL_law_771 : decode cL_law 771 = .ok (.iadd, 1) := by decide +kernel
theorem dL_law_772 : decode cL_law 772 = .ok (.iaload, 1) := by decide +kernel
theorem dL_law_773 : decode cL_law 773 = .ok (.aload_n 0, 1) := by decide +kernel
theorem dL_law_774 : decode cL_law 774 = .ok (.iload_n 3, 1) := by decide +kernel
theorem dL_law_775 : decode cL_law 775 = .ok (.iconst 2, 1) := by decide +kernel
theorem dL_law_776 : decode cL_law 776 = .ok (.iadd, 1) := by decide +kernel
theorem dL_law_777 : decode cL_law 777 = .ok (.iaload, 1) := by decide +kernel
theorem dL_law_778 : decode cL_law 778 = .ok (.aload_n 0, 1) := by decide +kernel
theorem dL_law_779 : decode cL_law 779 = .ok (.iload_n 3, 1) := by decide +kernel
theorem dL_law_780 : decode cL_law 780 = .ok (.iconst 3, 1) := by decide +kernel
theorem dL_law_781 : decode cL_law 781 = .ok (.iadd, 1) := by decide +kernel
theorem dL_law_782 : decode cL_law 782 = .ok (.iaload, 1) := by decide +kernel
theorem dL_law_783 : decode cL_law 783 = .ok (.invokevirtual 103, 3) := by decide +kernel
theorem dL_law_786 : decode cL_law 786 = .ok (.if_icmp .eq 44, 3) := by decide +kernel
theorem dL_law_789 : decode cL_law 789 = .ok (.iconst 0, 1) := by decide +kernel
theorem dL_law_790 : decode cL_law 790 = .ok (.ireturn, 1) := by decide +kernel
theorem dL_law_791 : decode cL_law 791 = .ok (.aload_n 1, 1) := by decide +kernel
theorem dL_law_792 : decode cL_law 792 = .ok (.invokevirtual 104, 3) := by decide +kernel
theorem dL_law_795 : decode cL_law 795 = .ok (.aload_n 2, 1) := by decide +kernel
theorem dL_law_796 : decode cL_law 796 = .ok (.invokevirtual 107, 3) := by decide +kernel
theorem dL_law_799 : decode cL_law 799 = .ok (.if_icmp .eq 31, 3) := by decide +kernel
theorem dL_law_802 : decode cL_law 802 = .ok (.iconst 0, 1) := by decide +kernel
theorem dL_law_803 : decode cL_law 803 = .ok (.ireturn, 1) := by decide +kernel
theorem dL_law_804 : decode cL_law 804 = .ok (.aload_n 1, 1) := by decide +kernel
theorem dL_law_805 : decode cL_law 805 = .ok (.invokevirtual 108, 3) := by decide +kernel
theorem dL_law_808 : decode cL_law 808 = .ok (.aload_n 2, 1) := by decide +kernel
theorem dL_law_809 : decode cL_law 809 = .ok (.invokevirtual 111, 3) := by decide +kernel
theorem dL_law_812 : decode cL_law 812 = .ok (.if_icmp .eq 18, 3) := by decide +kernel
theorem dL_law_815 : decode cL_law 815 = .ok (.iconst 0, 1) := by decide +kernel
theorem dL_law_816 : decode cL_law 816 = .ok (.ireturn, 1) := by decide +kernel
theorem dL_law_817 : decode cL_law 817 = .ok (.aload_n 1, 1) := by decide +kernel
theorem dL_law_818 : decode cL_law 818 = .ok (.invokevirtual 112, 3) := by decide +kernel
theorem dL_law_821 : decode cL_law 821 = .ok (.aload_n 2, 1) := by decide +kernel
theorem dL_law_822 : decode cL_law 822 = .ok (.invokevirtual 115, 3) := by decide +kernel
theorem dL_law_825 : decode cL_law 825 = .ok (.if_icmp .eq 5, 3) := by decide +kernel
theorem dL_law_828 : decode cL_law 828 = .ok (.iconst 0, 1) := by decide +kernel
theorem dL_law_829 : decode cL_law 829 = .ok (.ireturn, 1) := by decide +kernel
theorem dL_law_830 : decode cL_law 830 = .ok (.iinc 3 5, 3) := by decide +kernel
theorem dL_law_833 : decode cL_law 833 = .ok (.goto (-815), 3) := by decide +kernel
theorem dL_law_836 : decode cL_law 836 = .ok (.iconst 1, 1) := by decide +kernel
theorem dL_law_837 : decode cL_law 837 = .ok (.ireturn, 1) := by decide +kernel

theorem dX0_init_0 : decode cX0_init 0 = .ok (.aload_n 0, 1) := by decide +kernel
theorem dX0_init_1 : decode cX0_init 1 = .ok (.invokespecial 1, 3) := by decide +kernel
theorem dX0_init_4 : decode cX0_init 4 = .ok (.return_, 1) := by decide +kernel
theorem dX1_init_0 : decode cX1_init 0 = .ok (.aload_n 0, 1) := by decide +kernel
theorem dX1_init_1 : decode cX1_init 1 = .ok (.invokespecial 3, 3) := by decide +kernel
theorem dX1_init_4 : decode cX1_init 4 = .ok (.return_, 1) := by decide +kernel
theorem dX2_init_0 : decode cX2_init 0 = .ok (.aload_n 0, 1) := by decide +kernel
theorem dX2_init_1 : decode cX2_init 1 = .ok (.invokespecial 3, 3) := by decide +kernel
theorem dX2_init_4 : decode cX2_init 4 = .ok (.aload_n 0, 1) := by decide +kernel
theorem dX2_init_5 : decode cX2_init 5 = .ok (.iload_n 1, 1) := by decide +kernel
theorem dX2_init_6 : decode cX2_init 6 = .ok (.putfield 9, 3) := by decide +kernel
theorem dX2_init_9 : decode cX2_init 9 = .ok (.aload_n 0, 1) := by decide +kernel
theorem dX2_init_10 : decode cX2_init 10 = .ok (.aload_n 2, 1) := by decide +kernel
theorem dX2_init_11 : decode cX2_init 11 = .ok (.putfield 15, 3) := by decide +kernel
theorem dX2_init_14 : decode cX2_init 14 = .ok (.return_, 1) := by decide +kernel
theorem dX3_init_0 : decode cX3_init 0 = .ok (.aload_n 0, 1) := by decide +kernel
theorem dX3_init_1 : decode cX3_init 1 = .ok (.invokespecial 1, 3) := by decide +kernel
theorem dX3_init_4 : decode cX3_init 4 = .ok (.return_, 1) := by decide +kernel
theorem dX5_init_0 : decode cX5_init 0 = .ok (.aload_n 0, 1) := by decide +kernel
theorem dX5_init_1 : decode cX5_init 1 = .ok (.invokespecial 3, 3) := by decide +kernel
theorem dX5_init_4 : decode cX5_init 4 = .ok (.aload_n 0, 1) := by decide +kernel
theorem dX5_init_5 : decode cX5_init 5 = .ok (.iconst (-1), 1) := by decide +kernel
theorem dX5_init_6 : decode cX5_init 6 = .ok (.putfield 9, 3) := by decide +kernel
theorem dX5_init_9 : decode cX5_init 9 = .ok (.return_, 1) := by decide +kernel
theorem dX6_init_0 : decode cX6_init 0 = .ok (.aload_n 0, 1) := by decide +kernel
theorem dX6_init_1 : decode cX6_init 1 = .ok (.invokespecial 3, 3) := by decide +kernel
theorem dX6_init_4 : decode cX6_init 4 = .ok (.return_, 1) := by decide +kernel
theorem dX7_init_0 : decode cX7_init 0 = .ok (.aload_n 0, 1) := by decide +kernel
theorem dX7_init_1 : decode cX7_init 1 = .ok (.invokespecial 3, 3) := by decide +kernel
theorem dX7_init_4 : decode cX7_init 4 = .ok (.return_, 1) := by decide +kernel
theorem dX8_init_0 : decode cX8_init 0 = .ok (.aload_n 0, 1) := by decide +kernel
theorem dX8_init_1 : decode cX8_init 1 = .ok (.invokespecial 1, 3) := by decide +kernel
theorem dX8_init_4 : decode cX8_init 4 = .ok (.aload_n 0, 1) := by decide +kernel
theorem dX8_init_5 : decode cX8_init 5 = .ok (.sipush 10000, 3) := by decide +kernel
theorem dX8_init_8 : decode cX8_init 8 = .ok (.newarray .char, 2) := by decide +kernel
theorem dX8_init_10 : decode cX8_init 10 = .ok (.putfield 7, 3) := by decide +kernel
theorem dX8_init_13 : decode cX8_init 13 = .ok (.return_, 1) := by decide +kernel
theorem dX9_init_0 : decode cX9_init 0 = .ok (.aload_n 0, 1) := by decide +kernel
theorem dX9_init_1 : decode cX9_init 1 = .ok (.invokespecial 1, 3) := by decide +kernel
theorem dX9_init_4 : decode cX9_init 4 = .ok (.return_, 1) := by decide +kernel
theorem dX10_init_0 : decode cX10_init 0 = .ok (.aload_n 0, 1) := by decide +kernel
theorem dX10_init_1 : decode cX10_init 1 = .ok (.invokespecial 3, 3) := by decide +kernel
theorem dX10_init_4 : decode cX10_init 4 = .ok (.aload_n 0, 1) := by decide +kernel
theorem dX10_init_5 : decode cX10_init 5 = .ok (.bipush 16, 2) := by decide +kernel
theorem dX10_init_7 : decode cX10_init 7 = .ok (.newarray .int, 2) := by decide +kernel
theorem dX10_init_9 : decode cX10_init 9 = .ok (.putfield 9, 3) := by decide +kernel
theorem dX10_init_12 : decode cX10_init 12 = .ok (.aload_n 0, 1) := by decide +kernel
theorem dX10_init_13 : decode cX10_init 13 = .ok (.iconst 5, 1) := by decide +kernel
theorem dX10_init_14 : decode cX10_init 14 = .ok (.anewarray 15, 3) := by decide +kernel
theorem dX10_init_17 : decode cX10_init 17 = .ok (.putfield 17, 3) := by decide +kernel
theorem dX10_init_20 : decode cX10_init 20 = .ok (.aload_n 0, 1) := by decide +kernel
theorem dX10_init_21 : decode cX10_init 21 = .ok (.iconst 5, 1) := by decide +kernel
theorem dX10_init_22 : decode cX10_init 22 = .ok (.anewarray 21, 3) := by decide +kernel
theorem dX10_init_25 : decode cX10_init 25 = .ok (.putfield 23, 3) := by decide +kernel
theorem dX10_init_28 : decode cX10_init 28 = .ok (.aload_n 0, 1) := by decide +kernel
theorem dX10_init_29 : decode cX10_init 29 = .ok (.bipush 10, 2) := by decide +kernel
theorem dX10_init_31 : decode cX10_init 31 = .ok (.anewarray 27, 3) := by decide +kernel
theorem dX10_init_34 : decode cX10_init 34 = .ok (.putfield 29, 3) := by decide +kernel
theorem dX10_init_37 : decode cX10_init 37 = .ok (.aload_n 0, 1) := by decide +kernel
theorem dX10_init_38 : decode cX10_init 38 = .ok (.bipush 12, 2) := by decide +kernel
theorem dX10_init_40 : decode cX10_init 40 = .ok (.anewarray 33, 3) := by decide +kernel
theorem dX10_init_43 : decode cX10_init 43 = .ok (.putfield 35, 3) := by decide +kernel
theorem dX10_init_46 : decode cX10_init 46 = .ok (.aload_n 0, 1) := by decide +kernel
theorem dX10_init_47 : decode cX10_init 47 = .ok (.bipush 10, 2) := by decide +kernel
theorem dX10_init_49 : decode cX10_init 49 = .ok (.anewarray 39, 3) := by decide +kernel
theorem dX10_init_52 : decode cX10_init 52 = .ok (.putfield 41, 3) := by decide +kernel
theorem dX10_init_55 : decode cX10_init 55 = .ok (.aload_n 0, 1) := by decide +kernel
theorem dX10_init_56 : decode cX10_init 56 = .ok (.bipush 6, 2) := by decide +kernel
theorem dX10_init_58 : decode cX10_init 58 = .ok (.newarray .int, 2) := by decide +kernel
theorem dX10_init_60 : decode cX10_init 60 = .ok (.putfield 45, 3) := by decide +kernel
theorem dX10_init_63 : decode cX10_init 63 = .ok (.aload_n 0, 1) := by decide +kernel
theorem dX10_init_64 : decode cX10_init 64 = .ok (.bipush 6, 2) := by decide +kernel
theorem dX10_init_66 : decode cX10_init 66 = .ok (.newarray .boolean, 2) := by decide +kernel
theorem dX10_init_68 : decode cX10_init 68 = .ok (.putfield 48, 3) := by decide +kernel
theorem dX10_init_71 : decode cX10_init 71 = .ok (.aload_n 0, 1) := by decide +kernel
theorem dX10_init_72 : decode cX10_init 72 = .ok (.iconst 3, 1) := by decide +kernel
theorem dX10_init_73 : decode cX10_init 73 = .ok (.newarray .int, 2) := by decide +kernel
theorem dX10_init_75 : decode cX10_init 75 = .ok (.putfield 52, 3) := by decide +kernel
theorem dX10_init_78 : decode cX10_init 78 = .ok (.aload_n 0, 1) := by decide +kernel
theorem dX10_init_79 : decode cX10_init 79 = .ok (.iconst 0, 1) := by decide +kernel
theorem dX10_init_80 : decode cX10_init 80 = .ok (.putfield 55, 3) := by decide +kernel
theorem dX10_init_83 : decode cX10_init 83 = .ok (.aload_n 0, 1) := by decide +kernel
theorem dX10_init_84 : decode cX10_init 84 = .ok (.iconst (-1), 1) := by decide +kernel
theorem dX10_init_85 : decode cX10_init 85 = .ok (.putfield 59, 3) := by decide +kernel
theorem dX10_init_88 : decode cX10_init 88 = .ok (.aload_n 0, 1) := by decide +kernel
theorem dX10_init_89 : decode cX10_init 89 = .ok (.iconst 1, 1) := by decide +kernel
theorem dX10_init_90 : decode cX10_init 90 = .ok (.putfield 62, 3) := by decide +kernel
theorem dX10_init_93 : decode cX10_init 93 = .ok (.aload_n 0, 1) := by decide +kernel
theorem dX10_init_94 : decode cX10_init 94 = .ok (.getfield 9, 3) := by decide +kernel
theorem dX10_init_97 : decode cX10_init 97 = .ok (.bipush 60, 2) := by decide +kernel
theorem dX10_init_99 : decode cX10_init 99 = .ok (.invokestatic 65, 3) := by decide +kernel
theorem dX10_init_102 : decode cX10_init 102 = .ok (.iconst 0, 1) := by decide +kernel
theorem dX10_init_103 : decode cX10_init 103 = .ok (.istore_n 1, 1) := by decide +kernel
theorem dX10_init_104 : decode cX10_init 104 = .ok (.iload_n 1, 1) := by decide +kernel
theorem dX10_init_105 : decode cX10_init 105 = .ok (.iconst 5, 1) := by decide +kernel
theorem dX10_init_106 : decode cX10_init 106 = .ok (.if_icmp .ge 22, 3) := by decide +kernel
theorem dX10_init_109 : decode cX10_init 109 = .ok (.aload_n 0, 1) := by decide +kernel
theorem dX10_init_110 : decode cX10_init 110 = .ok (.getfield 17, 3) := by decide +kernel
theorem dX10_init_113 : decode cX10_init 113 = .ok (.iload_n 1, 1) := by decide +kernel
theorem dX10_init_114 : decode cX10_init 114 = .ok (.new 15, 3) := by decide +kernel
theorem dX10_init_117 : decode cX10_init 117 = .ok (.dup, 1) := by decide +kernel
theorem dX10_init_118 : decode cX10_init 118 = .ok (.invokespecial 71, 3) := by decide +kernel
theorem dX10_init_121 : decode cX10_init 121 = .ok (.aastore, 1) := by decide +kernel
theorem dX10_init_122 : decode cX10_init 122 = .ok (.iinc 1 1, 3) := by decide +kernel
theorem dX10_init_125 : decode cX10_init 125 = .ok (.goto (-21), 3) := by decide +kernel
theorem dX10_init_128 : decode cX10_init 128 = .ok (.iconst 0, 1) := by decide +kernel
theorem dX10_init_129 : decode cX10_init 129 = .ok (.istore_n 1, 1) := by decide +kernel
theorem dX10_init_130 : decode cX10_init 130 = .ok (.iload_n 1, 1) := by decide +kernel
theorem dX10_init_131 : decode cX10_init 131 = .ok (.iconst 5, 1) := by decide +kernel
theorem dX10_init_132 : decode cX10_init 132 = .ok (.if_icmp .ge 22, 3) := by decide +kernel
theorem dX10_init_135 : decode cX10_init 135 = .ok (.aload_n 0, 1) := by decide +kernel
theorem dX10_init_136 : decode cX10_init 136 = .ok (.getfield 23, 3) := by decide +kernel
theorem dX10_init_139 : decode cX10_init 139 = .ok (.iload_n 1, 1) := by decide +kernel
theorem dX10_init_140 : decode cX10_init 140 = .ok (.new 21, 3) := by decide +kernel
theorem dX10_init_143 : decode cX10_init 143 = .ok (.dup, 1) := by decide +kernel
theorem dX10_init_144 : decode cX10_init 144 = .ok (.invokespecial 72, 3) := by decide +kernel
theorem dX10_init_147 : decode cX10_init 147 = .ok (.aastore, 1) := by decide +kernel
theorem dX10_init_148 : decode cX10_init 148 = .ok (.iinc 1 1, 3) := by decide +kernel
theorem dX10_init_151 : decode cX10_init 151 = .ok (.goto (-21), 3) := by decide +kernel
theorem dX10_init_154 : decode cX10_init 154 = .ok (.iconst 0, 1) := by decide +kernel
theorem dX10_init_155 : decode cX10_init 155 = .ok (.istore_n 1, 1) := by decide +kernel
theorem dX10_init_156 : decode cX10_init 156 = .ok (.iload_n 1, 1) := by decide +kernel
theorem dX10_init_157 : decode cX10_init 157 = .ok (.bipush 10, 2) := by decide +kernel
theorem dX10_init_159 : decode cX10_init 159 = .ok (.if_icmp .ge 22, 3) := by decide +kernel
theorem dX10_init_162 : decode cX10_init 162 = .ok (.aload_n 0, 1) := by decide +kernel
theorem dX10_init_163 : decode cX10_init 163 = .ok (.getfield 29, 3) := by decide +kernel
theorem dX10_init_166 : decode cX10_init 166 = .ok (.iload_n 1, 1) := by decide +kernel
theorem dX10_init_167 : decode cX10_init 167 = .ok (.new 27, 3) := by decide +kernel
theorem dX10_init_170 : decode cX10_init 170 = .ok (.dup, 1) := by decide +kernel
theorem dX10_init_171 : decode cX10_init 171 = .ok (.invokespecial 73, 3) := by decide +kernel
theorem dX10_init_174 : decode cX10_init 174 = .ok (.aastore, 1) := by decide +kernel
theorem dX10_init_175 : decode cX10_init 175 = .ok (.iinc 1 1, 3) := by decide +kernel
theorem dX10_init_178 : decode cX10_init 178 = .ok (.goto (-22), 3) := by decide +kernel
theorem dX10_init_181 : decode cX10_init 181 = .ok (.iconst 0, 1) := by decide +kernel
theorem dX10_init_182 : decode cX10_init 182 = .ok (.istore_n 1, 1) := by decide +kernel
theorem dX10_init_183 : decode cX10_init 183 = .ok (.iload_n 1, 1) := by decide +kernel
theorem dX10_init_184 : decode cX10_init 184 = .ok (.bipush 12, 2) := by decide +kernel
theorem dX10_init_186 : decode cX10_init 186 = .ok (.if_icmp .ge 22, 3) := by decide +kernel
theorem dX10_init_189 : decode cX10_init 189 = .ok (.aload_n 0, 1) := by decide +kernel
theorem dX10_init_190 : decode cX10_init 190 = .ok (.getfield 35, 3) := by decide +kernel
theorem dX10_init_193 : decode cX10_init 193 = .ok (.iload_n 1, 1) := by decide +kernel
theorem dX10_init_194 : decode cX10_init 194 = .ok (.new 33, 3) := by decide +kernel
theorem dX10_init_197 : decode cX10_init 197 = .ok (.dup, 1) := by decide +kernel
theorem dX10_init_198 : decode cX10_init 198 = .ok (.invokespecial 74, 3) := by decide +kernel
theorem dX10_init_201 : decode cX10_init 201 = .ok (.aastore, 1) := by decide +kernel
theorem dX10_init_202 : decode cX10_init 202 = .ok (.iinc 1 1, 3) := by decide +kernel
theorem dX10_init_205 : decode cX10_init 205 = .ok (.goto (-22), 3) := by decide +kernel
theorem dX10_init_208 : decode cX10_init 208 = .ok (.iconst 0, 1) := by decide +kernel
theorem dX10_init_209 : decode cX10_init 209 = .ok (.istore_n 1, 1) := by decide +kernel
theorem dX10_init_210 : decode cX10_init 210 = .ok (.iload_n 1, 1) := by decide +kernel
theorem dX10_init_211 : decode cX10_init 211 = .ok (.bipush 10, 2) := by decide +kernel
theorem dX10_init_213 : decode cX10_init 213 = .ok (.if_icmp .ge 22, 3) := by decide +kernel
theorem dX10_init_216 : decode cX10_init 216 = .ok (.aload_n 0, 1) := by decide +kernel
theorem dX10_init_217 : decode cX10_init 217 = .ok (.getfield 41, 3) := by decide +kernel
theorem dX10_init_220 : decode cX10_init 220 = .ok (.iload_n 1, 1) := by decide +kernel
theorem dX10_init_221 : decode cX10_init 221 = .ok (.new 39, 3) := by decide +kernel
theorem dX10_init_224 : decode cX10_init 224 = .ok (.dup, 1) := by decide +kernel
theorem dX10_init_225 : decode cX10_init 225 = .ok (.invokespecial 75, 3) := by decide +kernel
theorem dX10_init_228 : decode cX10_init 228 = .ok (.aastore, 1) := by decide +kernel
theorem dX10_init_229 : decode cX10_init 229 = .ok (.iinc 1 1, 3) := by decide +kernel
theorem dX10_init_232 : decode cX10_init 232 = .ok (.goto (-22), 3) := by decide +kernel
theorem dX10_init_235 : decode cX10_init 235 = .ok (.return_, 1) := by decide +kernel
theorem dX4_init_0 : decode cX4_init 0 = .ok (.aload_n 0, 1) := by decide +kernel
theorem dX4_init_1 : decode cX4_init 1 = .ok (.invokespecial 3, 3) := by decide +kernel
theorem dX4_init_4 : decode cX4_init 4 = .ok (.aload_n 0, 1) := by decide +kernel
theorem dX4_init_5 : decode cX4_init 5 = .ok (.bipush 10, 2) := by decide +kernel
theorem dX4_init_7 : decode cX4_init 7 = .ok (.anewarray 9, 3) := by decide +kernel
theorem dX4_init_10 : decode cX4_init 10 = .ok (.putfield 11, 3) := by decide +kernel
theorem dX4_init_13 : decode cX4_init 13 = .ok (.aload_n 0, 1) := by decide +kernel
theorem dX4_init_14 : decode cX4_init 14 = .ok (.bipush 10, 2) := by decide +kernel
theorem dX4_init_16 : decode cX4_init 16 = .ok (.anewarray 9, 3) := by decide +kernel
theorem dX4_init_19 : decode cX4_init 19 = .ok (.putfield 17, 3) := by decide +kernel
theorem dX4_init_22 : decode cX4_init 22 = .ok (.aload_n 0, 1) := by decide +kernel
theorem dX4_init_23 : decode cX4_init 23 = .ok (.iconst 5, 1) := by decide +kernel
theorem dX4_init_24 : decode cX4_init 24 = .ok (.anewarray 20, 3) := by decide +kernel
theorem dX4_init_27 : decode cX4_init 27 = .ok (.putfield 22, 3) := by decide +kernel
theorem dX4_init_30 : decode cX4_init 30 = .ok (.aload_n 0, 1) := by decide +kernel
theorem dX4_init_31 : decode cX4_init 31 = .ok (.iconst 5, 1) := by decide +kernel
theorem dX4_init_32 : decode cX4_init 32 = .ok (.anewarray 20, 3) := by decide +kernel
theorem dX4_init_35 : decode cX4_init 35 = .ok (.putfield 26, 3) := by decide +kernel
theorem dX4_init_38 : decode cX4_init 38 = .ok (.aload_n 0, 1) := by decide +kernel
theorem dX4_init_39 : decode cX4_init 39 = .ok (.bipush 12, 2) := by decide +kernel
theorem dX4_init_41 : decode cX4_init 41 = .ok (.anewarray 29, 3) := by decide +kernel
theorem dX4_init_44 : decode cX4_init 44 = .ok (.putfield 31, 3) := by decide +kernel
theorem dX4_init_47 : decode cX4_init 47 = .ok (.aload_n 0, 1) := by decide +kernel
theorem dX4_init_48 : decode cX4_init 48 = .ok (.bipush 6, 2) := by decide +kernel
theorem dX4_init_50 : decode cX4_init 50 = .ok (.newarray .int, 2) := by decide +kernel
theorem dX4_init_52 : decode cX4_init 52 = .ok (.putfield 35, 3) := by decide +kernel
theorem dX4_init_55 : decode cX4_init 55 = .ok (.aload_n 0, 1) := by decide +kernel
theorem dX4_init_56 : decode cX4_init 56 = .ok (.bipush 10, 2) := by decide +kernel
theorem dX4_init_58 : decode cX4_init 58 = .ok (.newarray .boolean, 2) := by decide +kernel
theorem dX4_init_60 : decode cX4_init 60 = .ok (.putfield 39, 3) := by decide +kernel
theorem dX4_init_63 : decode cX4_init 63 = .ok (.aload_n 0, 1) := by decide +kernel
theorem dX4_init_64 : decode cX4_init 64 = .ok (.new 43, 3) := by decide +kernel
theorem dX4_init_67 : decode cX4_init 67 = .ok (.dup, 1) := by decide +kernel
theorem dX4_init_68 : decode cX4_init 68 = .ok (.invokespecial 45, 3) := by decide +kernel
theorem dX4_init_71 : decode cX4_init 71 = .ok (.putfield 46, 3) := by decide +kernel
theorem dX4_init_74 : decode cX4_init 74 = .ok (.aload_n 0, 1) := by decide +kernel
theorem dX4_init_75 : decode cX4_init 75 = .ok (.aload_n 1, 1) := by decide +kernel
theorem dX4_init_76 : decode cX4_init 76 = .ok (.putfield 50, 3) := by decide +kernel
theorem dX4_init_79 : decode cX4_init 79 = .ok (.iconst 0, 1) := by decide +kernel
theorem dX4_init_80 : decode cX4_init 80 = .ok (.istore_n 2, 1) := by decide +kernel
theorem dX4_init_81 : decode cX4_init 81 = .ok (.iload_n 2, 1) := by decide +kernel
theorem dX4_init_82 : decode cX4_init 82 = .ok (.bipush 10, 2) := by decide +kernel
theorem dX4_init_84 : decode cX4_init 84 = .ok (.if_icmp .ge 41, 3) := by decide +kernel
theorem dX4_init_87 : decode cX4_init 87 = .ok (.aload_n 0, 1) := by decide +kernel
theorem dX4_init_88 : decode cX4_init 88 = .ok (.getfield 11, 3) := by decide +kernel
theorem dX4_init_91 : decode cX4_init 91 = .ok (.iload_n 2, 1) := by decide +kernel
theorem dX4_init_92 : decode cX4_init 92 = .ok (.new 9, 3) := by decide +kernel
theorem dX4_init_95 : decode cX4_init 95 = .ok (.dup, 1) := by decide +kernel
theorem dX4_init_96 : decode cX4_init 96 = .ok (.iload_n 2, 1) := by decide +kernel
theorem dX4_init_97 : decode cX4_init 97 = .ok (.aload_n 1, 1) := by decide +kernel
theorem dX4_init_98 : decode cX4_init 98 = .ok (.getfield 54, 3) := by decide +kernel
theorem dX4_init_101 : decode cX4_init 101 = .ok (.iload_n 2, 1) := by decide +kernel
theorem dX4_init_102 : decode cX4_init 102 = .ok (.aaload, 1) := by decide +kernel
theorem dX4_init_103 : decode cX4_init 103 = .ok (.invokespecial 60, 3) := by decide +kernel
theorem dX4_init_106 : decode cX4_init 106 = .ok (.aastore, 1) := by decide +kernel
theorem dX4_init_107 : decode cX4_init 107 = .ok (.aload_n 0, 1) := by decide +kernel
theorem dX4_init_108 : decode cX4_init 108 = .ok (.getfield 17, 3) := by decide +kernel
theorem dX4_init_111 : decode cX4_init 111 = .ok (.iload_n 2, 1) := by decide +kernel
theorem dX4_init_112 : decode cX4_init 112 = .ok (.aload_n 0, 1) := by decide +kernel
theorem dX4_init_113 : decode cX4_init 113 = .ok (.getfield 11, 3) := by decide +kernel
theorem dX4_init_116 : decode cX4_init 116 = .ok (.iload_n 2, 1) := by decide +kernel
theorem dX4_init_117 : decode cX4_init 117 = .ok (.aaload, 1) := by decide +kernel
theorem dX4_init_118 : decode cX4_init 118 = .ok (.aastore, 1) := by decide +kernel
theorem dX4_init_119 : decode cX4_init 119 = .ok (.iinc 2 1, 3) := by decide +kernel
theorem dX4_init_122 : decode cX4_init 122 = .ok (.goto (-41), 3) := by decide +kernel
theorem dX4_init_125 : decode cX4_init 125 = .ok (.iconst 0, 1) := by decide +kernel
theorem dX4_init_126 : decode cX4_init 126 = .ok (.istore_n 2, 1) := by decide +kernel
theorem dX4_init_127 : decode cX4_init 127 = .ok (.iload_n 2, 1) := by decide +kernel
theorem dX4_init_128 : decode cX4_init 128 = .ok (.iconst 5, 1) := by decide +kernel
theorem dX4_init_129 : decode cX4_init 129 = .ok (.if_icmp .ge 22, 3) := by decide +kernel
theorem dX4_init_132 : decode cX4_init 132 = .ok (.aload_n 0, 1) := by decide +kernel
theorem dX4_init_133 : decode cX4_init 133 = .ok (.getfield 22, 3) := by decide +kernel
theorem dX4_init_136 : decode cX4_init 136 = .ok (.iload_n 2, 1) := by decide +kernel
theorem dX4_init_137 : decode cX4_init 137 = .ok (.new 20, 3) := by decide +kernel
theorem dX4_init_140 : decode cX4_init 140 = .ok (.dup, 1) := by decide +kernel
theorem dX4_init_141 : decode cX4_init 141 = .ok (.invokespecial 63, 3) := by decide +kernel
theorem dX4_init_144 : decode cX4_init 144 = .ok (.aastore, 1) := by decide +kernel
theorem dX4_init_145 : decode cX4_init 145 = .ok (.iinc 2 1, 3) := by decide +kernel
theorem dX4_init_148 : decode cX4_init 148 = .ok (.goto (-21), 3) := by decide +kernel
theorem dX4_init_151 : decode cX4_init 151 = .ok (.iconst 0, 1) := by decide +kernel
theorem dX4_init_152 : decode cX4_init 152 = .ok (.istore_n 2, 1) := by decide +kernel
theorem dX4_init_153 : decode cX4_init 153 = .ok (.iload_n 2, 1) := by decide +kernel
theorem dX4_init_154 : decode cX4_init 154 = .ok (.iconst 5, 1) := by decide +kernel
theorem dX4_init_155 : decode cX4_init 155 = .ok (.if_icmp .ge 22, 3) := by decide +kernel
theorem dX4_init_158 : decode cX4_init 158 = .ok (.aload_n 0, 1) := by decide +kernel
theorem dX4_init_159 : decode cX4_init 159 = .ok (.getfield 26, 3) := by decide +kernel
theorem dX4_init_162 : decode cX4_init 162 = .ok (.iload_n 2, 1) := by decide +kernel
theorem dX4_init_163 : decode cX4_init 163 = .ok (.new 20, 3) := by decide +kernel
theorem dX4_init_166 : decode cX4_init 166 = .ok (.dup, 1) := by decide +kernel
theorem dX4_init_167 : decode cX4_init 167 = .ok (.invokespecial 63, 3) := by decide +kernel
theorem dX4_init_170 : decode cX4_init 170 = .ok (.aastore, 1) := by decide +kernel
theorem dX4_init_171 : decode cX4_init 171 = .ok (.iinc 2 1, 3) := by decide +kernel
theorem dX4_init_174 : decode cX4_init 174 = .ok (.goto (-21), 3) := by decide +kernel
theorem dX4_init_177 : decode cX4_init 177 = .ok (.iconst 0, 1) := by decide +kernel
theorem dX4_init_178 : decode cX4_init 178 = .ok (.istore_n 2, 1) := by decide +kernel
theorem dX4_init_179 : decode cX4_init 179 = .ok (.iload_n 2, 1) := by decide +kernel
theorem dX4_init_180 : decode cX4_init 180 = .ok (.bipush 12, 2) := by decide +kernel
theorem dX4_init_182 : decode cX4_init 182 = .ok (.if_icmp .ge 22, 3) := by decide +kernel
theorem dX4_init_185 : decode cX4_init 185 = .ok (.aload_n 0, 1) := by decide +kernel
theorem dX4_init_186 : decode cX4_init 186 = .ok (.getfield 31, 3) := by decide +kernel
theorem dX4_init_189 : decode cX4_init 189 = .ok (.iload_n 2, 1) := by decide +kernel
theorem dX4_init_190 : decode cX4_init 190 = .ok (.new 29, 3) := by decide +kernel
theorem dX4_init_193 : decode cX4_init 193 = .ok (.dup, 1) := by decide +kernel
theorem dX4_init_194 : decode cX4_init 194 = .ok (.invokespecial 64, 3) := by decide +kernel
theorem dX4_init_197 : decode cX4_init 197 = .ok (.aastore, 1) := by decide +kernel
theorem dX4_init_198 : decode cX4_init 198 = .ok (.iinc 2 1, 3) := by decide +kernel
theorem dX4_init_201 : decode cX4_init 201 = .ok (.goto (-22), 3) := by decide +kernel
theorem dX4_init_204 : decode cX4_init 204 = .ok (.return_, 1) := by decide +kernel
theorem dX11_init_0 : decode cX11_init 0 = .ok (.aload_n 0, 1) := by decide +kernel
theorem dX11_init_1 : decode cX11_init 1 = .ok (.invokespecial 1, 3) := by decide +kernel
theorem dX11_init_4 : decode cX11_init 4 = .ok (.aload_n 0, 1) := by decide +kernel
theorem dX11_init_5 : decode cX11_init 5 = .ok (.iconst 3, 1) := by decide +kernel
theorem dX11_init_6 : decode cX11_init 6 = .ok (.newarray .int, 2) := by decide +kernel
theorem dX11_init_8 : decode cX11_init 8 = .ok (.putfield 9, 3) := by decide +kernel
theorem dX11_init_11 : decode cX11_init 11 = .ok (.aload_n 0, 1) := by decide +kernel
theorem dX11_init_12 : decode cX11_init 12 = .ok (.iconst 3, 1) := by decide +kernel
theorem dX11_init_13 : decode cX11_init 13 = .ok (.newarray .int, 2) := by decide +kernel
theorem dX11_init_15 : decode cX11_init 15 = .ok (.putfield 13, 3) := by decide +kernel
theorem dX11_init_18 : decode cX11_init 18 = .ok (.aload_n 0, 1) := by decide +kernel
theorem dX11_init_19 : decode cX11_init 19 = .ok (.iconst 3, 1) := by decide +kernel
theorem dX11_init_20 : decode cX11_init 20 = .ok (.newarray .boolean, 2) := by decide +kernel
theorem dX11_init_22 : decode cX11_init 22 = .ok (.putfield 16, 3) := by decide +kernel
theorem dX11_init_25 : decode cX11_init 25 = .ok (.new 20, 3) := by decide +kernel
theorem dX11_init_28 : decode cX11_init 28 = .ok (.dup, 1) := by decide +kernel
theorem dX11_init_29 : decode cX11_init 29 = .ok (.invokespecial 22, 3) := by decide +kernel
theorem dX11_init_32 : decode cX11_init 32 = .ok (.astore_n 1, 1) := by decide +kernel
theorem dX11_init_33 : decode cX11_init 33 = .ok (.aload_n 0, 1) := by decide +kernel
theorem dX11_init_34 : decode cX11_init 34 = .ok (.aload_n 1, 1) := by decide +kernel
theorem dX11_init_35 : decode cX11_init 35 = .ok (.putfield 23, 3) := by decide +kernel
theorem dX11_init_38 : decode cX11_init 38 = .ok (.aload_n 0, 1) := by decide +kernel
theorem dX11_init_39 : decode cX11_init 39 = .ok (.new 27, 3) := by decide +kernel
theorem dX11_init_42 : decode cX11_init 42 = .ok (.dup, 1) := by decide +kernel
theorem dX11_init_43 : decode cX11_init 43 = .ok (.aload_n 1, 1) := by decide +kernel
theorem dX11_init_44 : decode cX11_init 44 = .ok (.invokespecial 29, 3) := by decide +kernel
theorem dX11_init_47 : decode cX11_init 47 = .ok (.putfield 32, 3) := by decide +kernel
theorem dX11_init_50 : decode cX11_init 50 = .ok (.aload_n 0, 1) := by decide +kernel
theorem dX11_init_51 : decode cX11_init 51 = .ok (.new 27, 3) := by decide +kernel
theorem dX11_init_54 : decode cX11_init 54 = .ok (.dup, 1) := by decide +kernel
theorem dX11_init_55 : decode cX11_init 55 = .ok (.aload_n 1, 1) := by decide +kernel
theorem dX11_init_56 : decode cX11_init 56 = .ok (.invokespecial 29, 3) := by decide +kernel
theorem dX11_init_59 : decode cX11_init 59 = .ok (.putfield 36, 3) := by decide +kernel
theorem dX11_init_62 : decode cX11_init 62 = .ok (.aload_n 0, 1) := by decide +kernel
theorem dX11_init_63 : decode cX11_init 63 = .ok (.iconst 0, 1) := by decide +kernel
theorem dX11_init_64 : decode cX11_init 64 = .ok (.putfield 39, 3) := by decide +kernel
theorem dX11_init_67 : decode cX11_init 67 = .ok (.aload_n 0, 1) := by decide +kernel
theorem dX11_init_68 : decode cX11_init 68 = .ok (.iconst 0, 1) := by decide +kernel
theorem dX11_init_69 : decode cX11_init 69 = .ok (.putfield 43, 3) := by decide +kernel
theorem dX11_init_72 : decode cX11_init 72 = .ok (.return_, 1) := by decide +kernel
theorem dX11_fly_0 : decode cX11_fly 0 = .ok (.iload_n 1, 1) := by decide +kernel
theorem dX11_fly_1 : decode cX11_fly 1 = .ok (.invokestatic 47, 3) := by decide +kernel
theorem dX11_fly_4 : decode cX11_fly 4 = .ok (.iload_n 2, 1) := by decide +kernel
theorem dX11_fly_5 : decode cX11_fly 5 = .ok (.invokestatic 47, 3) := by decide +kernel
theorem dX11_fly_8 : decode cX11_fly 8 = .ok (.iload_n 1, 1) := by decide +kernel
theorem dX11_fly_9 : decode cX11_fly 9 = .ok (.iload_n 2, 1) := by decide +kernel
theorem dX11_fly_10 : decode cX11_fly 10 = .ok (.if_icmp .eq 19, 3) := by decide +kernel
theorem dX11_fly_13 : decode cX11_fly 13 = .ok (.iload_n 3, 1) := by decide +kernel
theorem dX11_fly_14 : decode cX11_fly 14 = .ok (.bipush 30, 2) := by decide +kernel
theorem dX11_fly_16 : decode cX11_fly 16 = .ok (.sipush 300, 3) := by decide +kernel
theorem dX11_fly_19 : decode cX11_fly 19 = .ok (.invokestatic 51, 3) := by decide +kernel
theorem dX11_fly_22 : decode cX11_fly 22 = .ok (.ifCond .eq 7, 3) := by decide +kernel
theorem dX11_fly_25 : decode cX11_fly 25 = .ok (.iconst 1, 1) := by decide +kernel
theorem dX11_fly_26 : decode cX11_fly 26 = .ok (.goto 4, 3) := by decide +kernel
theorem dX11_fly_29 : decode cX11_fly 29 = .ok (.iconst 0, 1) := by decide +kernel
theorem dX11_fly_30 : decode cX11_fly 30 = .ok (.invokestatic 55, 3) := by decide +kernel
theorem dX11_fly_33 : decode cX11_fly 33 = .ok (.aload_n 0, 1) := by decide +kernel
theorem dX11_fly_34 : decode cX11_fly 34 = .ok (.getfield 23, 3) := by decide +kernel
theorem dX11_fly_37 : decode cX11_fly 37 = .ok (.getfield 59, 3) := by decide +kernel
theorem dX11_fly_40 : decode cX11_fly 40 = .ok (.iload_n 1, 1) := by decide +kernel
theorem dX11_fly_41 : decode cX11_fly 41 = .ok (.iconst 4, 1) := by decide +kernel
theorem dX11_fly_42 : decode cX11_fly 42 = .ok (.imul, 1) := by decide +kernel
theorem dX11_fly_43 : decode cX11_fly 43 = .ok (.iload_n 2, 1) := by decide +kernel
theorem dX11_fly_44 : decode cX11_fly 44 = .ok (.iadd, 1) := by decide +kernel
theorem dX11_fly_45 : decode cX11_fly 45 = .ok (.iaload, 1) := by decide +kernel
theorem dX11_fly_46 : decode cX11_fly 46 = .ok (.istore 4, 2) := by decide +kernel
theorem dX11_fly_48 : decode cX11_fly 48 = .ok (.aload_n 0, 1) := by decide +kernel
theorem dX11_fly_49 : decode cX11_fly 49 = .ok (.getfield 23, 3) := by decide +kernel
theorem dX11_fly_52 : decode cX11_fly 52 = .ok (.getfield 59, 3) := by decide +kernel
theorem dX11_fly_55 : decode cX11_fly 55 = .ok (.iload_n 1, 1) := by decide +kernel
theorem dX11_fly_56 : decode cX11_fly 56 = .ok (.iconst 4, 1) := by decide +kernel
theorem dX11_fly_57 : decode cX11_fly 57 = .ok (.imul, 1) := by decide +kernel
theorem dX11_fly_58 : decode cX11_fly 58 = .ok (.iload_n 2, 1) := by decide +kernel
theorem dX11_fly_59 : decode cX11_fly 59 = .ok (.iadd, 1) := by decide +kernel
theorem dX11_fly_60 : decode cX11_fly 60 = .ok (.iload_n 3, 1) := by decide +kernel
theorem dX11_fly_61 : decode cX11_fly 61 = .ok (.iastore, 1) := by decide +kernel
theorem dX11_fly_62 : decode cX11_fly 62 = .ok (.aload_n 0, 1) := by decide +kernel
theorem dX11_fly_63 : decode cX11_fly 63 = .ok (.getfield 23, 3) := by decide +kernel
theorem dX11_fly_66 : decode cX11_fly 66 = .ok (.getfield 59, 3) := by decide +kernel
theorem dX11_fly_69 : decode cX11_fly 69 = .ok (.iload_n 2, 1) := by decide +kernel
theorem dX11_fly_70 : decode cX11_fly 70 = .ok (.iconst 4, 1) := by decide +kernel
theorem dX11_fly_71 : decode cX11_fly 71 = .ok (.imul, 1) := by decide +kernel
theorem dX11_fly_72 : decode cX11_fly 72 = .ok (.iload_n 1, 1) := by decide +kernel
theorem dX11_fly_73 : decode cX11_fly 73 = .ok (.iadd, 1) := by decide +kernel
theorem dX11_fly_74 : decode cX11_fly 74 = .ok (.iload_n 3, 1) := by decide +kernel
theorem dX11_fly_75 : decode cX11_fly 75 = .ok (.iastore, 1) := by decide +kernel
theorem dX11_fly_76 : decode cX11_fly 76 = .ok (.aload_n 0, 1) := by decide +kernel
theorem dX11_fly_77 : decode cX11_fly 77 = .ok (.iconst 0, 1) := by decide +kernel
theorem dX11_fly_78 : decode cX11_fly 78 = .ok (.putfield 43, 3) := by decide +kernel
theorem dX11_fly_81 : decode cX11_fly 81 = .ok (.iload 4, 2) := by decide +kernel
theorem dX11_fly_83 : decode cX11_fly 83 = .ok (.ireturn, 1) := by decide +kernel
theorem dX11_addAircraft_0 : decode cX11_addAircraft 0 = .ok (.iload_n 2, 1) := by decide +kernel
theorem dX11_addAircraft_1 : decode cX11_addAircraft 1 = .ok (.invokestatic 47, 3) := by decide +kernel
theorem dX11_addAircraft_4 : decode cX11_addAircraft 4 = .ok (.iload_n 1, 1) := by decide +kernel
theorem dX11_addAircraft_5 : decode cX11_addAircraft 5 = .ok (.iconst 0, 1) := by decide +kernel
theorem dX11_addAircraft_6 : decode cX11_addAircraft 6 = .ok (.iconst 2, 1) := by decide +kernel
theorem dX11_addAircraft_7 : decode cX11_addAircraft 7 = .ok (.invokestatic 51, 3) := by decide +kernel
theorem dX11_addAircraft_10 : decode cX11_addAircraft 10 = .ok (.ifCond .eq 30, 3) := by decide +kernel
theorem dX11_addAircraft_13 : decode cX11_addAircraft 13 = .ok (.iload_n 3, 1) := by decide +kernel
theorem dX11_addAircraft_14 : decode cX11_addAircraft 14 = .ok (.bipush 20, 2) := by decide +kernel
theorem dX11_addAircraft_16 : decode cX11_addAircraft 16 = .ok (.bipush 90, 2) := by decide +kernel
theorem dX11_addAircraft_18 : decode cX11_addAircraft 18 = .ok (.invokestatic 51, 3) := by decide +kernel
theorem dX11_addAircraft_21 : decode cX11_addAircraft 21 = .ok (.ifCond .eq 19, 3) := by decide +kernel
theorem dX11_addAircraft_24 : decode cX11_addAircraft 24 = .ok (.iload 4, 2) := by decide +kernel
theorem dX11_addAircraft_26 : decode cX11_addAircraft 26 = .ok (.iconst 1, 1) := by decide +kernel
theorem dX11_addAircraft_27 : decode cX11_addAircraft 27 = .ok (.sipush 300, 3) := by decide +kernel
theorem dX11_addAircraft_30 : decode cX11_addAircraft 30 = .ok (.invokestatic 51, 3) := by decide +kernel
theorem dX11_addAircraft_33 : decode cX11_addAircraft 33 = .ok (.ifCond .eq 7, 3) := by decide +kernel
theorem dX11_addAircraft_36 : decode cX11_addAircraft 36 = .ok (.iconst 1, 1) := by decide +kernel
theorem dX11_addAircraft_37 : decode cX11_addAircraft 37 = .ok (.goto 4, 3) := by decide +kernel
theorem dX11_addAircraft_40 : decode cX11_addAircraft 40 = .ok (.iconst 0, 1) := by decide +kernel
theorem dX11_addAircraft_41 : decode cX11_addAircraft 41 = .ok (.invokestatic 55, 3) := by decide +kernel
theorem dX11_addAircraft_44 : decode cX11_addAircraft 44 = .ok (.iload 5, 2) := by decide +kernel
theorem dX11_addAircraft_46 : decode cX11_addAircraft 46 = .ok (.iconst 0, 1) := by decide +kernel
theorem dX11_addAircraft_47 : decode cX11_addAircraft 47 = .ok (.sipush 2000, 3) := by decide +kernel
theorem dX11_addAircraft_50 : decode cX11_addAircraft 50 = .ok (.invokestatic 51, 3) := by decide +kernel
theorem dX11_addAircraft_53 : decode cX11_addAircraft 53 = .ok (.ifCond .eq 18, 3) := by decide +kernel
theorem dX11_addAircraft_56 : decode cX11_addAircraft 56 = .ok (.iload 6, 2) := by decide +kernel
theorem dX11_addAircraft_58 : decode cX11_addAircraft 58 = .ok (.iconst 0, 1) := by decide +kernel
theorem dX11_addAircraft_59 : decode cX11_addAircraft 59 = .ok (.bipush 20, 2) := by decide +kernel
theorem dX11_addAircraft_61 : decode cX11_addAircraft 61 = .ok (.invokestatic 51, 3) := by decide +kernel
theorem dX11_addAircraft_64 : decode cX11_addAircraft 64 = .ok (.ifCond .eq 7, 3) := by decide +kernel
theorem dX11_addAircraft_67 : decode cX11_addAircraft 67 = .ok (.iconst 1, 1) := by decide +kernel
theorem dX11_addAircraft_68 : decode cX11_addAircraft 68 = .ok (.goto 4, 3) := by decide +kernel
theorem dX11_addAircraft_71 : decode cX11_addAircraft 71 = .ok (.iconst 0, 1) := by decide +kernel
theorem dX11_addAircraft_72 : decode cX11_addAircraft 72 = .ok (.invokestatic 55, 3) := by decide +kernel
theorem dX11_addAircraft_75 : decode cX11_addAircraft 75 = .ok (.aload_n 0, 1) := by decide +kernel
theorem dX11_addAircraft_76 : decode cX11_addAircraft 76 = .ok (.getfield 23, 3) := by decide +kernel
theorem dX11_addAircraft_79 : decode cX11_addAircraft 79 = .ok (.getfield 62, 3) := by decide +kernel
theorem dX11_addAircraft_82 : decode cX11_addAircraft 82 = .ok (.iconst 5, 1) := by decide +kernel
theorem dX11_addAircraft_83 : decode cX11_addAircraft 83 = .ok (.invokestatic 65, 3) := by decide +kernel
theorem dX11_addAircraft_86 : decode cX11_addAircraft 86 = .ok (.aload_n 0, 1) := by decide +kernel
theorem dX11_addAircraft_87 : decode cX11_addAircraft 87 = .ok (.getfield 23, 3) := by decide +kernel
theorem dX11_addAircraft_90 : decode cX11_addAircraft 90 = .ok (.getfield 69, 3) := by decide +kernel
theorem dX11_addAircraft_93 : decode cX11_addAircraft 93 = .ok (.aload_n 0, 1) := by decide +kernel
theorem dX11_addAircraft_94 : decode cX11_addAircraft 94 = .ok (.getfield 23, 3) := by decide +kernel
theorem dX11_addAircraft_97 : decode cX11_addAircraft 97 = .ok (.getfield 62, 3) := by decide +kernel
theorem dX11_addAircraft_100 : decode cX11_addAircraft 100 = .ok (.aaload, 1) := by decide +kernel
theorem dX11_addAircraft_101 : decode cX11_addAircraft 101 = .ok (.astore 7, 2) := by decide +kernel
theorem dX11_addAircraft_103 : decode cX11_addAircraft 103 = .ok (.aload 7, 2) := by decide +kernel
theorem dX11_addAircraft_105 : decode cX11_addAircraft 105 = .ok (.iload_n 1, 1) := by decide +kernel
theorem dX11_addAircraft_106 : decode cX11_addAircraft 106 = .ok (.putfield 73, 3) := by decide +kernel
theorem dX11_addAircraft_109 : decode cX11_addAircraft 109 = .ok (.aload 7, 2) := by decide +kernel
theorem dX11_addAircraft_111 : decode cX11_addAircraft 111 = .ok (.iload_n 2, 1) := by decide +kernel
theorem dX11_addAircraft_112 : decode cX11_addAircraft 112 = .ok (.putfield 78, 3) := by decide +kernel
theorem dX11_addAircraft_115 : decode cX11_addAircraft 115 = .ok (.aload 7, 2) := by decide +kernel
theorem dX11_addAircraft_117 : decode cX11_addAircraft 117 = .ok (.iload_n 3, 1) := by decide +kernel
theorem dX11_addAircraft_118 : decode cX11_addAircraft 118 = .ok (.putfield 81, 3) := by decide +kernel
theorem dX11_addAircraft_121 : decode cX11_addAircraft 121 = .ok (.aload 7, 2) := by decide +kernel
theorem dX11_addAircraft_123 : decode cX11_addAircraft 123 = .ok (.iload 4, 2) := by decide +kernel
theorem dX11_addAircraft_125 : decode cX11_addAircraft 125 = .ok (.putfield 84, 3) := by decide +kernel
theorem dX11_addAircraft_128 : decode cX11_addAircraft 128 = .ok (.aload 7, 2) := by decide +kernel
theorem dX11_addAircraft_130 : decode cX11_addAircraft 130 = .ok (.iload 5, 2) := by decide +kernel
theorem dX11_addAircraft_132 : decode cX11_addAircraft 132 = .ok (.putfield 87, 3) := by decide +kernel
theorem dX11_addAircraft_135 : decode cX11_addAircraft 135 = .ok (.aload 7, 2) := by decide +kernel
theorem dX11_addAircraft_137 : decode cX11_addAircraft 137 = .ok (.iload 6, 2) := by decide +kernel
theorem dX11_addAircraft_139 : decode cX11_addAircraft 139 = .ok (.putfield 90, 3) := by decide +kernel
theorem dX11_addAircraft_142 : decode cX11_addAircraft 142 = .ok (.aload_n 0, 1) := by decide +kernel
theorem dX11_addAircraft_143 : decode cX11_addAircraft 143 = .ok (.iconst 0, 1) := by decide +kernel
theorem dX11_addAircraft_144 : decode cX11_addAircraft 144 = .ok (.putfield 43, 3) := by decide +kernel
theorem dX11_addAircraft_147 : decode cX11_addAircraft 147 = .ok (.aload_n 0, 1) := by decide +kernel
theorem dX11_addAircraft_148 : decode cX11_addAircraft 148 = .ok (.getfield 23, 3) := by decide +kernel
theorem dX11_addAircraft_151 : decode cX11_addAircraft 151 = .ok (.dup, 1) := by decide +kernel
theorem dX11_addAircraft_152 : decode cX11_addAircraft 152 = .ok (.getfield 62, 3) := by decide +kernel
theorem dX11_addAircraft_155 : decode cX11_addAircraft 155 = .ok (.dup_x1, 1) := by decide +kernel
theorem dX11_addAircraft_156 : decode cX11_addAircraft 156 = .ok (.iconst 1, 1) := by decide +kernel
theorem dX11_addAircraft_157 : decode cX11_addAircraft 157 = .ok (.iadd, 1) := by decide +kernel
theorem dX11_addAircraft_158 : decode cX11_addAircraft 158 = .ok (.putfield 62, 3) := by decide +kernel
theorem dX11_addAircraft_161 : decode cX11_addAircraft 161 = .ok (.ireturn, 1) := by decide +kernel
theorem dX11_fault_0 : decode cX11_fault 0 = .ok (.iload_n 1, 1) := by decide +kernel
theorem dX11_fault_1 : decode cX11_fault 1 = .ok (.aload_n 0, 1) := by decide +kernel
theorem dX11_fault_2 : decode cX11_fault 2 = .ok (.getfield 23, 3) := by decide +kernel
theorem dX11_fault_5 : decode cX11_fault 5 = .ok (.getfield 62, 3) := by decide +kernel
theorem dX11_fault_8 : decode cX11_fault 8 = .ok (.invokestatic 93, 3) := by decide +kernel
theorem dX11_fault_11 : decode cX11_fault 11 = .ok (.iload_n 2, 1) := by decide +kernel
theorem dX11_fault_12 : decode cX11_fault 12 = .ok (.invokestatic 47, 3) := by decide +kernel
theorem dX11_fault_15 : decode cX11_fault 15 = .ok (.aload_n 0, 1) := by decide +kernel
theorem dX11_fault_16 : decode cX11_fault 16 = .ok (.getfield 23, 3) := by decide +kernel
theorem dX11_fault_19 : decode cX11_fault 19 = .ok (.getfield 69, 3) := by decide +kernel
theorem dX11_fault_22 : decode cX11_fault 22 = .ok (.iload_n 1, 1) := by decide +kernel
theorem dX11_fault_23 : decode cX11_fault 23 = .ok (.aaload, 1) := by decide +kernel
theorem dX11_fault_24 : decode cX11_fault 24 = .ok (.astore_n 3, 1) := by decide +kernel
theorem dX11_fault_25 : decode cX11_fault 25 = .ok (.aload_n 3, 1) := by decide +kernel
theorem dX11_fault_26 : decode cX11_fault 26 = .ok (.getfield 96, 3) := by decide +kernel
theorem dX11_fault_29 : decode cX11_fault 29 = .ok (.iload_n 2, 1) := by decide +kernel
theorem dX11_fault_30 : decode cX11_fault 30 = .ok (.ishr, 1) := by decide +kernel
theorem dX11_fault_31 : decode cX11_fault 31 = .ok (.iconst 1, 1) := by decide +kernel
theorem dX11_fault_32 : decode cX11_fault 32 = .ok (.iand, 1) := by decide +kernel
theorem dX11_fault_33 : decode cX11_fault 33 = .ok (.ifCond .ne 7, 3) := by decide +kernel
theorem dX11_fault_36 : decode cX11_fault 36 = .ok (.iconst 1, 1) := by decide +kernel
theorem dX11_fault_37 : decode cX11_fault 37 = .ok (.goto 4, 3) := by decide +kernel
theorem dX11_fault_40 : decode cX11_fault 40 = .ok (.iconst 0, 1) := by decide +kernel
theorem dX11_fault_41 : decode cX11_fault 41 = .ok (.istore 4, 2) := by decide +kernel
theorem dX11_fault_43 : decode cX11_fault 43 = .ok (.aload_n 3, 1) := by decide +kernel
theorem dX11_fault_44 : decode cX11_fault 44 = .ok (.dup, 1) := by decide +kernel
theorem dX11_fault_45 : decode cX11_fault 45 = .ok (.getfield 96, 3) := by decide +kernel
theorem dX11_fault_48 : decode cX11_fault 48 = .ok (.iconst 1, 1) := by decide +kernel
theorem dX11_fault_49 : decode cX11_fault 49 = .ok (.iload_n 2, 1) := by decide +kernel
theorem dX11_fault_50 : decode cX11_fault 50 = .ok (.ishl, 1) := by decide +kernel
theorem dX11_fault_51 : decode cX11_fault 51 = .ok (.ior, 1) := by decide +kernel
theorem dX11_fault_52 : decode cX11_fault 52 = .ok (.putfield 96, 3) := by decide +kernel
theorem dX11_fault_55 : decode cX11_fault 55 = .ok (.aload_n 0, 1) := by decide +kernel
theorem dX11_fault_56 : decode cX11_fault 56 = .ok (.iconst 0, 1) := by decide +kernel
theorem dX11_fault_57 : decode cX11_fault 57 = .ok (.putfield 43, 3) := by decide +kernel
theorem dX11_fault_60 : decode cX11_fault 60 = .ok (.iload 4, 2) := by decide +kernel
theorem dX11_fault_62 : decode cX11_fault 62 = .ok (.ireturn, 1) := by decide +kernel
theorem dX11_addCrew_0 : decode cX11_addCrew 0 = .ok (.iload_n 1, 1) := by decide +kernel
theorem dX11_addCrew_1 : decode cX11_addCrew 1 = .ok (.invokestatic 47, 3) := by decide +kernel
theorem dX11_addCrew_4 : decode cX11_addCrew 4 = .ok (.iload_n 2, 1) := by decide +kernel
theorem dX11_addCrew_5 : decode cX11_addCrew 5 = .ok (.iconst 0, 1) := by decide +kernel
theorem dX11_addCrew_6 : decode cX11_addCrew 6 = .ok (.sipush 1439, 3) := by decide +kernel
theorem dX11_addCrew_9 : decode cX11_addCrew 9 = .ok (.invokestatic 51, 3) := by decide +kernel
theorem dX11_addCrew_12 : decode cX11_addCrew 12 = .ok (.ifCond .eq 17, 3) := by decide +kernel
theorem dX11_addCrew_15 : decode cX11_addCrew 15 = .ok (.iload_n 3, 1) := by decide +kernel
theorem dX11_addCrew_16 : decode cX11_addCrew 16 = .ok (.iconst 1, 1) := by decide +kernel
theorem dX11_addCrew_17 : decode cX11_addCrew 17 = .ok (.bipush 7, 2) := by decide +kernel
theorem dX11_addCrew_19 : decode cX11_addCrew 19 = .ok (.invokestatic 51, 3) := by decide +kernel
theorem dX11_addCrew_22 : decode cX11_addCrew 22 = .ok (.ifCond .eq 7, 3) := by decide +kernel
theorem dX11_addCrew_25 : decode cX11_addCrew 25 = .ok (.iconst 1, 1) := by decide +kernel
theorem dX11_addCrew_26 : decode cX11_addCrew 26 = .ok (.goto 4, 3) := by decide +kernel
theorem dX11_addCrew_29 : decode cX11_addCrew 29 = .ok (.iconst 0, 1) := by decide +kernel
theorem dX11_addCrew_30 : decode cX11_addCrew 30 = .ok (.invokestatic 55, 3) := by decide +kernel
theorem dX11_addCrew_33 : decode cX11_addCrew 33 = .ok (.aload_n 0, 1) := by decide +kernel
theorem dX11_addCrew_34 : decode cX11_addCrew 34 = .ok (.getfield 23, 3) := by decide +kernel
theorem dX11_addCrew_37 : decode cX11_addCrew 37 = .ok (.getfield 99, 3) := by decide +kernel
theorem dX11_addCrew_40 : decode cX11_addCrew 40 = .ok (.iconst 5, 1) := by decide +kernel
theorem dX11_addCrew_41 : decode cX11_addCrew 41 = .ok (.invokestatic 65, 3) := by decide +kernel
theorem dX11_addCrew_44 : decode cX11_addCrew 44 = .ok (.aload_n 0, 1) := by decide +kernel
theorem dX11_addCrew_45 : decode cX11_addCrew 45 = .ok (.getfield 23, 3) := by decide +kernel
theorem dX11_addCrew_48 : decode cX11_addCrew 48 = .ok (.getfield 102, 3) := by decide +kernel
theorem dX11_addCrew_51 : decode cX11_addCrew 51 = .ok (.aload_n 0, 1) := by decide +kernel
theorem dX11_addCrew_52 : decode cX11_addCrew 52 = .ok (.getfield 23, 3) := by decide +kernel
theorem dX11_addCrew_55 : decode cX11_addCrew 55 = .ok (.getfield 99, 3) := by decide +kernel
theorem dX11_addCrew_58 : decode cX11_addCrew 58 = .ok (.aaload, 1) := by decide +kernel
theorem dX11_addCrew_59 : decode cX11_addCrew 59 = .ok (.astore 5, 2) := by decide +kernel
theorem dX11_addCrew_61 : decode cX11_addCrew 61 = .ok (.aload 5, 2) := by decide +kernel
theorem dX11_addCrew_63 : decode cX11_addCrew 63 = .ok (.iload_n 1, 1) := by decide +kernel
theorem dX11_addCrew_64 : decode cX11_addCrew 64 = .ok (.putfield 106, 3) := by decide +kernel
theorem dX11_addCrew_67 : decode cX11_addCrew 67 = .ok (.aload 5, 2) := by decide +kernel
theorem dX11_addCrew_69 : decode cX11_addCrew 69 = .ok (.iload_n 2, 1) := by decide +kernel
theorem dX11_addCrew_70 : decode cX11_addCrew 70 = .ok (.putfield 109, 3) := by decide +kernel
theorem dX11_addCrew_73 : decode cX11_addCrew 73 = .ok (.aload 5, 2) := by decide +kernel
theorem dX11_addCrew_75 : decode cX11_addCrew 75 = .ok (.iload_n 3, 1) := by decide +kernel
theorem dX11_addCrew_76 : decode cX11_addCrew 76 = .ok (.putfield 112, 3) := by decide +kernel
theorem dX11_addCrew_79 : decode cX11_addCrew 79 = .ok (.aload 5, 2) := by decide +kernel
theorem dX11_addCrew_81 : decode cX11_addCrew 81 = .ok (.iload 4, 2) := by decide +kernel
theorem dX11_addCrew_83 : decode cX11_addCrew 83 = .ok (.putfield 115, 3) := by decide +kernel
theorem dX11_addCrew_86 : decode cX11_addCrew 86 = .ok (.aload_n 0, 1) := by decide +kernel
theorem dX11_addCrew_87 : decode cX11_addCrew 87 = .ok (.iconst 0, 1) := by decide +kernel
theorem dX11_addCrew_88 : decode cX11_addCrew 88 = .ok (.putfield 43, 3) := by decide +kernel
theorem dX11_addCrew_91 : decode cX11_addCrew 91 = .ok (.aload_n 0, 1) := by decide +kernel
theorem dX11_addCrew_92 : decode cX11_addCrew 92 = .ok (.getfield 23, 3) := by decide +kernel
theorem dX11_addCrew_95 : decode cX11_addCrew 95 = .ok (.dup, 1) := by decide +kernel
theorem dX11_addCrew_96 : decode cX11_addCrew 96 = .ok (.getfield 99, 3) := by decide +kernel
theorem dX11_addCrew_99 : decode cX11_addCrew 99 = .ok (.dup_x1, 1) := by decide +kernel
theorem dX11_addCrew_100 : decode cX11_addCrew 100 = .ok (.iconst 1, 1) := by decide +kernel
theorem dX11_addCrew_101 : decode cX11_addCrew 101 = .ok (.iadd, 1) := by decide +kernel
theorem dX11_addCrew_102 : decode cX11_addCrew 102 = .ok (.putfield 99, 3) := by decide +kernel
theorem dX11_addCrew_105 : decode cX11_addCrew 105 = .ok (.ireturn, 1) := by decide +kernel
theorem dX11_addStand_0 : decode cX11_addStand 0 = .ok (.iload_n 1, 1) := by decide +kernel
theorem dX11_addStand_1 : decode cX11_addStand 1 = .ok (.iconst 0, 1) := by decide +kernel
theorem dX11_addStand_2 : decode cX11_addStand 2 = .ok (.iconst 2, 1) := by decide +kernel
theorem dX11_addStand_3 : decode cX11_addStand 3 = .ok (.invokestatic 51, 3) := by decide +kernel
theorem dX11_addStand_6 : decode cX11_addStand 6 = .ok (.invokestatic 55, 3) := by decide +kernel
theorem dX11_addStand_9 : decode cX11_addStand 9 = .ok (.aload_n 0, 1) := by decide +kernel
theorem dX11_addStand_10 : decode cX11_addStand 10 = .ok (.getfield 23, 3) := by decide +kernel
theorem dX11_addStand_13 : decode cX11_addStand 13 = .ok (.getfield 118, 3) := by decide +kernel
theorem dX11_addStand_16 : decode cX11_addStand 16 = .ok (.bipush 6, 2) := by decide +kernel
theorem dX11_addStand_18 : decode cX11_addStand 18 = .ok (.invokestatic 65, 3) := by decide +kernel
theorem dX11_addStand_21 : decode cX11_addStand 21 = .ok (.aload_n 0, 1) := by decide +kernel
theorem dX11_addStand_22 : decode cX11_addStand 22 = .ok (.getfield 23, 3) := by decide +kernel
theorem dX11_addStand_25 : decode cX11_addStand 25 = .ok (.getfield 121, 3) := by decide +kernel
theorem dX11_addStand_28 : decode cX11_addStand 28 = .ok (.aload_n 0, 1) := by decide +kernel
theorem dX11_addStand_29 : decode cX11_addStand 29 = .ok (.getfield 23, 3) := by decide +kernel
theorem dX11_addStand_32 : decode cX11_addStand 32 = .ok (.getfield 118, 3) := by decide +kernel
theorem dX11_addStand_35 : decode cX11_addStand 35 = .ok (.iload_n 1, 1) := by decide +kernel
theorem dX11_addStand_36 : decode cX11_addStand 36 = .ok (.iastore, 1) := by decide +kernel
theorem dX11_addStand_37 : decode cX11_addStand 37 = .ok (.aload_n 0, 1) := by decide +kernel
theorem dX11_addStand_38 : decode cX11_addStand 38 = .ok (.getfield 23, 3) := by decide +kernel
theorem dX11_addStand_41 : decode cX11_addStand 41 = .ok (.getfield 124, 3) := by decide +kernel
theorem dX11_addStand_44 : decode cX11_addStand 44 = .ok (.aload_n 0, 1) := by decide +kernel
theorem dX11_addStand_45 : decode cX11_addStand 45 = .ok (.getfield 23, 3) := by decide +kernel
theorem dX11_addStand_48 : decode cX11_addStand 48 = .ok (.getfield 118, 3) := by decide +kernel
theorem dX11_addStand_51 : decode cX11_addStand 51 = .ok (.iload_n 2, 1) := by decide +kernel
theorem dX11_addStand_52 : decode cX11_addStand 52 = .ok (.bastore, 1) := by decide +kernel
theorem dX11_addStand_53 : decode cX11_addStand 53 = .ok (.aload_n 0, 1) := by decide +kernel
theorem dX11_addStand_54 : decode cX11_addStand 54 = .ok (.iconst 0, 1) := by decide +kernel
theorem dX11_addStand_55 : decode cX11_addStand 55 = .ok (.putfield 43, 3) := by decide +kernel
theorem dX11_addStand_58 : decode cX11_addStand 58 = .ok (.aload_n 0, 1) := by decide +kernel
theorem dX11_addStand_59 : decode cX11_addStand 59 = .ok (.getfield 23, 3) := by decide +kernel
theorem dX11_addStand_62 : decode cX11_addStand 62 = .ok (.dup, 1) := by decide +kernel
theorem dX11_addStand_63 : decode cX11_addStand 63 = .ok (.getfield 118, 3) := by decide +kernel
theorem dX11_addStand_66 : decode cX11_addStand 66 = .ok (.dup_x1, 1) := by decide +kernel
theorem dX11_addStand_67 : decode cX11_addStand 67 = .ok (.iconst 1, 1) := by decide +kernel
theorem dX11_addStand_68 : decode cX11_addStand 68 = .ok (.iadd, 1) := by decide +kernel
theorem dX11_addStand_69 : decode cX11_addStand 69 = .ok (.putfield 118, 3) := by decide +kernel
theorem dX11_addStand_72 : decode cX11_addStand 72 = .ok (.ireturn, 1) := by decide +kernel
theorem dX11_turnRunway_0 : decode cX11_turnRunway 0 = .ok (.iload_n 1, 1) := by decide +kernel
theorem dX11_turnRunway_1 : decode cX11_turnRunway 1 = .ok (.iconst 0, 1) := by decide +kernel
theorem dX11_turnRunway_2 : decode cX11_turnRunway 2 = .ok (.sipush 1999, 3) := by decide +kernel
theorem dX11_turnRunway_5 : decode cX11_turnRunway 5 = .ok (.invokestatic 51, 3) := by decide +kernel
theorem dX11_turnRunway_8 : decode cX11_turnRunway 8 = .ok (.invokestatic 55, 3) := by decide +kernel
theorem dX11_turnRunway_11 : decode cX11_turnRunway 11 = .ok (.aload_n 0, 1) := by decide +kernel
theorem dX11_turnRunway_12 : decode cX11_turnRunway 12 = .ok (.getfield 23, 3) := by decide +kernel
theorem dX11_turnRunway_15 : decode cX11_turnRunway 15 = .ok (.getfield 127, 3) := by decide +kernel
theorem dX11_turnRunway_18 : decode cX11_turnRunway 18 = .ok (.iconst 3, 1) := by decide +kernel
theorem dX11_turnRunway_19 : decode cX11_turnRunway 19 = .ok (.invokestatic 65, 3) := by decide +kernel
theorem dX11_turnRunway_22 : decode cX11_turnRunway 22 = .ok (.aload_n 0, 1) := by decide +kernel
theorem dX11_turnRunway_23 : decode cX11_turnRunway 23 = .ok (.getfield 23, 3) := by decide +kernel
theorem dX11_turnRunway_26 : decode cX11_turnRunway 26 = .ok (.getfield 130, 3) := by decide +kernel
theorem dX11_turnRunway_29 : decode cX11_turnRunway 29 = .ok (.aload_n 0, 1) := by decide +kernel
theorem dX11_turnRunway_30 : decode cX11_turnRunway 30 = .ok (.getfield 23, 3) := by decide +kernel
theorem dX11_turnRunway_33 : decode cX11_turnRunway 33 = .ok (.getfield 127, 3) := by decide +kernel
theorem dX11_turnRunway_36 : decode cX11_turnRunway 36 = .ok (.iload_n 1, 1) := by decide +kernel
theorem dX11_turnRunway_37 : decode cX11_turnRunway 37 = .ok (.iastore, 1) := by decide +kernel
theorem dX11_turnRunway_38 : decode cX11_turnRunway 38 = .ok (.aload_n 0, 1) := by decide +kernel
theorem dX11_turnRunway_39 : decode cX11_turnRunway 39 = .ok (.getfield 23, 3) := by decide +kernel
theorem dX11_turnRunway_42 : decode cX11_turnRunway 42 = .ok (.dup, 1) := by decide +kernel
theorem dX11_turnRunway_43 : decode cX11_turnRunway 43 = .ok (.getfield 127, 3) := by decide +kernel
theorem dX11_turnRunway_46 : decode cX11_turnRunway 46 = .ok (.iconst 1, 1) := by decide +kernel
theorem dX11_turnRunway_47 : decode cX11_turnRunway 47 = .ok (.iadd, 1) := by decide +kernel
theorem dX11_turnRunway_48 : decode cX11_turnRunway 48 = .ok (.putfield 127, 3) := by decide +kernel
theorem dX11_turnRunway_51 : decode cX11_turnRunway 51 = .ok (.aload_n 0, 1) := by decide +kernel
theorem dX11_turnRunway_52 : decode cX11_turnRunway 52 = .ok (.iconst 0, 1) := by decide +kernel
theorem dX11_turnRunway_53 : decode cX11_turnRunway 53 = .ok (.putfield 43, 3) := by decide +kernel
theorem dX11_turnRunway_56 : decode cX11_turnRunway 56 = .ok (.aload_n 0, 1) := by decide +kernel
theorem dX11_turnRunway_57 : decode cX11_turnRunway 57 = .ok (.getfield 23, 3) := by decide +kernel
theorem dX11_turnRunway_60 : decode cX11_turnRunway 60 = .ok (.getfield 127, 3) := by decide +kernel
theorem dX11_turnRunway_63 : decode cX11_turnRunway 63 = .ok (.ireturn, 1) := by decide +kernel
theorem dX11_ice_0 : decode cX11_ice 0 = .ok (.iload_n 1, 1) := by decide +kernel
theorem dX11_ice_1 : decode cX11_ice 1 = .ok (.iconst 0, 1) := by decide +kernel
theorem dX11_ice_2 : decode cX11_ice 2 = .ok (.sipush 1999, 3) := by decide +kernel
theorem dX11_ice_5 : decode cX11_ice 5 = .ok (.invokestatic 51, 3) := by decide +kernel
theorem dX11_ice_8 : decode cX11_ice 8 = .ok (.ifCond .eq 14, 3) := by decide +kernel
theorem dX11_ice_11 : decode cX11_ice 11 = .ok (.iload_n 2, 1) := by decide +kernel
theorem dX11_ice_12 : decode cX11_ice 12 = .ok (.sipush 2000, 3) := by decide +kernel
theorem dX11_ice_15 : decode cX11_ice 15 = .ok (.if_icmp .ge 7, 3) := by decide +kernel
theorem dX11_ice_18 : decode cX11_ice 18 = .ok (.iconst 1, 1) := by decide +kernel
theorem dX11_ice_19 : decode cX11_ice 19 = .ok (.goto 4, 3) := by decide +kernel
theorem dX11_ice_22 : decode cX11_ice 22 = .ok (.iconst 0, 1) := by decide +kernel
theorem dX11_ice_23 : decode cX11_ice 23 = .ok (.invokestatic 55, 3) := by decide +kernel
theorem dX11_ice_26 : decode cX11_ice 26 = .ok (.aload_n 0, 1) := by decide +kernel
theorem dX11_ice_27 : decode cX11_ice 27 = .ok (.getfield 23, 3) := by decide +kernel
theorem dX11_ice_30 : decode cX11_ice 30 = .ok (.iload_n 1, 1) := by decide +kernel
theorem dX11_ice_31 : decode cX11_ice 31 = .ok (.putfield 133, 3) := by decide +kernel
theorem dX11_ice_34 : decode cX11_ice 34 = .ok (.aload_n 0, 1) := by decide +kernel
theorem dX11_ice_35 : decode cX11_ice 35 = .ok (.getfield 23, 3) := by decide +kernel
theorem dX11_ice_38 : decode cX11_ice 38 = .ok (.iload_n 2, 1) := by decide +kernel
theorem dX11_ice_39 : decode cX11_ice 39 = .ok (.putfield 136, 3) := by decide +kernel
theorem dX11_ice_42 : decode cX11_ice 42 = .ok (.aload_n 0, 1) := by decide +kernel
theorem dX11_ice_43 : decode cX11_ice 43 = .ok (.iconst 0, 1) := by decide +kernel
theorem dX11_ice_44 : decode cX11_ice 44 = .ok (.putfield 43, 3) := by decide +kernel
theorem dX11_ice_47 : decode cX11_ice 47 = .ok (.iload_n 2, 1) := by decide +kernel
theorem dX11_ice_48 : decode cX11_ice 48 = .ok (.iload_n 1, 1) := by decide +kernel
theorem dX11_ice_49 : decode cX11_ice 49 = .ok (.if_icmp .ge 7, 3) := by decide +kernel
theorem dX11_ice_52 : decode cX11_ice 52 = .ok (.iconst 0, 1) := by decide +kernel
theorem dX11_ice_53 : decode cX11_ice 53 = .ok (.goto 8, 3) := by decide +kernel
theorem dX11_ice_56 : decode cX11_ice 56 = .ok (.iload_n 2, 1) := by decide +kernel
theorem dX11_ice_57 : decode cX11_ice 57 = .ok (.iload_n 1, 1) := by decide +kernel
theorem dX11_ice_58 : decode cX11_ice 58 = .ok (.isub, 1) := by decide +kernel
theorem dX11_ice_59 : decode cX11_ice 59 = .ok (.iconst 1, 1) := by decide +kernel
theorem dX11_ice_60 : decode cX11_ice 60 = .ok (.iadd, 1) := by decide +kernel
theorem dX11_ice_61 : decode cX11_ice 61 = .ok (.ireturn, 1) := by decide +kernel
theorem dX11_setPads_0 : decode cX11_setPads 0 = .ok (.iload_n 1, 1) := by decide +kernel
theorem dX11_setPads_1 : decode cX11_setPads 1 = .ok (.iconst 0, 1) := by decide +kernel
theorem dX11_setPads_2 : decode cX11_setPads 2 = .ok (.iconst 3, 1) := by decide +kernel
theorem dX11_setPads_3 : decode cX11_setPads 3 = .ok (.invokestatic 51, 3) := by decide +kernel
theorem dX11_setPads_6 : decode cX11_setPads 6 = .ok (.invokestatic 55, 3) := by decide +kernel
theorem dX11_setPads_9 : decode cX11_setPads 9 = .ok (.aload_n 0, 1) := by decide +kernel
theorem dX11_setPads_10 : decode cX11_setPads 10 = .ok (.getfield 23, 3) := by decide +kernel
theorem dX11_setPads_13 : decode cX11_setPads 13 = .ok (.getfield 139, 3) := by decide +kernel
theorem dX11_setPads_16 : decode cX11_setPads 16 = .ok (.istore_n 2, 1) := by decide +kernel
theorem dX11_setPads_17 : decode cX11_setPads 17 = .ok (.aload_n 0, 1) := by decide +kernel
theorem dX11_setPads_18 : decode cX11_setPads 18 = .ok (.getfield 23, 3) := by decide +kernel
theorem dX11_setPads_21 : decode cX11_setPads 21 = .ok (.iload_n 1, 1) := by decide +kernel
theorem dX11_setPads_22 : decode cX11_setPads 22 = .ok (.putfield 139, 3) := by decide +kernel
theorem dX11_setPads_25 : decode cX11_setPads 25 = .ok (.aload_n 0, 1) := by decide +kernel
theorem dX11_setPads_26 : decode cX11_setPads 26 = .ok (.iconst 0, 1) := by decide +kernel
theorem dX11_setPads_27 : decode cX11_setPads 27 = .ok (.putfield 43, 3) := by decide +kernel
theorem dX11_setPads_30 : decode cX11_setPads 30 = .ok (.iload_n 2, 1) := by decide +kernel
theorem dX11_setPads_31 : decode cX11_setPads 31 = .ok (.ireturn, 1) := by decide +kernel
theorem dX11_addFlight_0 : decode cX11_addFlight 0 = .ok (.iload_n 1, 1) := by decide +kernel
theorem dX11_addFlight_1 : decode cX11_addFlight 1 = .ok (.invokestatic 47, 3) := by decide +kernel
theorem dX11_addFlight_4 : decode cX11_addFlight 4 = .ok (.iload_n 2, 1) := by decide +kernel
theorem dX11_addFlight_5 : decode cX11_addFlight 5 = .ok (.invokestatic 47, 3) := by decide +kernel
theorem dX11_addFlight_8 : decode cX11_addFlight 8 = .ok (.iload 4, 2) := by decide +kernel
theorem dX11_addFlight_10 : decode cX11_addFlight 10 = .ok (.aload_n 0, 1) := by decide +kernel
theorem dX11_addFlight_11 : decode cX11_addFlight 11 = .ok (.getfield 23, 3) := by decide +kernel
theorem dX11_addFlight_14 : decode cX11_addFlight 14 = .ok (.getfield 62, 3) := by decide +kernel
theorem dX11_addFlight_17 : decode cX11_addFlight 17 = .ok (.invokestatic 93, 3) := by decide +kernel
theorem dX11_addFlight_20 : decode cX11_addFlight 20 = .ok (.iload 5, 2) := by decide +kernel
theorem dX11_addFlight_22 : decode cX11_addFlight 22 = .ok (.aload_n 0, 1) := by decide +kernel
theorem dX11_addFlight_23 : decode cX11_addFlight 23 = .ok (.getfield 23, 3) := by decide +kernel
theorem dX11_addFlight_26 : decode cX11_addFlight 26 = .ok (.getfield 99, 3) := by decide +kernel
theorem dX11_addFlight_29 : decode cX11_addFlight 29 = .ok (.invokestatic 93, 3) := by decide +kernel
theorem dX11_addFlight_32 : decode cX11_addFlight 32 = .ok (.iload_n 1, 1) := by decide +kernel
theorem dX11_addFlight_33 : decode cX11_addFlight 33 = .ok (.ifCond .ne 7, 3) := by decide +kernel
theorem dX11_addFlight_36 : decode cX11_addFlight 36 = .ok (.iconst 1, 1) := by decide +kernel
theorem dX11_addFlight_37 : decode cX11_addFlight 37 = .ok (.goto 4, 3) := by decide +kernel
theorem dX11_addFlight_40 : decode cX11_addFlight 40 = .ok (.iconst 0, 1) := by decide +kernel
theorem dX11_addFlight_41 : decode cX11_addFlight 41 = .ok (.iload_n 2, 1) := by decide +kernel
theorem dX11_addFlight_42 : decode cX11_addFlight 42 = .ok (.ifCond .ne 7, 3) := by decide +kernel
theorem dX11_addFlight_45 : decode cX11_addFlight 45 = .ok (.iconst 1, 1) := by decide +kernel
theorem dX11_addFlight_46 : decode cX11_addFlight 46 = .ok (.goto 4, 3) := by decide +kernel
theorem dX11_addFlight_49 : decode cX11_addFlight 49 = .ok (.iconst 0, 1) := by decide +kernel
theorem dX11_addFlight_50 : decode cX11_addFlight 50 = .ok (.if_icmp .eq 18, 3) := by decide +kernel
theorem dX11_addFlight_53 : decode cX11_addFlight 53 = .ok (.iload_n 3, 1) := by decide +kernel
theorem dX11_addFlight_54 : decode cX11_addFlight 54 = .ok (.iconst 0, 1) := by decide +kernel
theorem dX11_addFlight_55 : decode cX11_addFlight 55 = .ok (.sipush 1439, 3) := by decide +kernel
theorem dX11_addFlight_58 : decode cX11_addFlight 58 = .ok (.invokestatic 51, 3) := by decide +kernel
theorem dX11_addFlight_61 : decode cX11_addFlight 61 = .ok (.ifCond .eq 7, 3) := by decide +kernel
theorem dX11_addFlight_64 : decode cX11_addFlight 64 = .ok (.iconst 1, 1) := by decide +kernel
theorem dX11_addFlight_65 : decode cX11_addFlight 65 = .ok (.goto 4, 3) := by decide +kernel
theorem dX11_addFlight_68 : decode cX11_addFlight 68 = .ok (.iconst 0, 1) := by decide +kernel
theorem dX11_addFlight_69 : decode cX11_addFlight 69 = .ok (.invokestatic 55, 3) := by decide +kernel
theorem dX11_addFlight_72 : decode cX11_addFlight 72 = .ok (.aload_n 0, 1) := by decide +kernel
theorem dX11_addFlight_73 : decode cX11_addFlight 73 = .ok (.getfield 23, 3) := by decide +kernel
theorem dX11_addFlight_76 : decode cX11_addFlight 76 = .ok (.getfield 142, 3) := by decide +kernel
theorem dX11_addFlight_79 : decode cX11_addFlight 79 = .ok (.bipush 10, 2) := by decide +kernel
theorem dX11_addFlight_81 : decode cX11_addFlight 81 = .ok (.invokestatic 65, 3) := by decide +kernel
theorem dX11_addFlight_84 : decode cX11_addFlight 84 = .ok (.aload_n 0, 1) := by decide +kernel
theorem dX11_addFlight_85 : decode cX11_addFlight 85 = .ok (.getfield 23, 3) := by decide +kernel
theorem dX11_addFlight_88 : decode cX11_addFlight 88 = .ok (.getfield 145, 3) := by decide +kernel
theorem dX11_addFlight_91 : decode cX11_addFlight 91 = .ok (.aload_n 0, 1) := by decide +kernel
theorem dX11_addFlight_92 : decode cX11_addFlight 92 = .ok (.getfield 23, 3) := by decide +kernel
theorem dX11_addFlight_95 : decode cX11_addFlight 95 = .ok (.getfield 142, 3) := by decide +kernel
theorem dX11_addFlight_98 : decode cX11_addFlight 98 = .ok (.aaload, 1) := by decide +kernel
theorem dX11_addFlight_99 : decode cX11_addFlight 99 = .ok (.astore 6, 2) := by decide +kernel
theorem dX11_addFlight_101 : decode cX11_addFlight 101 = .ok (.aload 6, 2) := by decide +kernel
theorem dX11_addFlight_103 : decode cX11_addFlight 103 = .ok (.iload_n 1, 1) := by decide +kernel
theorem dX11_addFlight_104 : decode cX11_addFlight 104 = .ok (.putfield 149, 3) := by decide +kernel
theorem dX11_addFlight_107 : decode cX11_addFlight 107 = .ok (.aload 6, 2) := by decide +kernel
theorem dX11_addFlight_109 : decode cX11_addFlight 109 = .ok (.iload_n 2, 1) := by decide +kernel
theorem dX11_addFlight_110 : decode cX11_addFlight 110 = .ok (.putfield 154, 3) := by decide +kernel
theorem dX11_addFlight_113 : decode cX11_addFlight 113 = .ok (.aload 6, 2) := by decide +kernel
theorem dX11_addFlight_115 : decode cX11_addFlight 115 = .ok (.iload_n 1, 1) := by decide +kernel
theorem dX11_addFlight_116 : decode cX11_addFlight 116 = .ok (.iconst 1, 1) := by decide +kernel
theorem dX11_addFlight_117 : decode cX11_addFlight 117 = .ok (.if_icmp .gt 8, 3) := by decide +kernel
theorem dX11_addFlight_120 : decode cX11_addFlight 120 = .ok (.iload_n 2, 1) := by decide +kernel
theorem dX11_addFlight_121 : decode cX11_addFlight 121 = .ok (.iconst 1, 1) := by decide +kernel
theorem dX11_addFlight_122 : decode cX11_addFlight 122 = .ok (.if_icmp .le 7, 3) := by decide +kernel
theorem dX11_addFlight_125 : decode cX11_addFlight 125 = .ok (.iconst 1, 1) := by decide +kernel
theorem dX11_addFlight_126 : decode cX11_addFlight 126 = .ok (.goto 4, 3) := by decide +kernel
theorem dX11_addFlight_129 : decode cX11_addFlight 129 = .ok (.iconst 0, 1) := by decide +kernel
theorem dX11_addFlight_130 : decode cX11_addFlight 130 = .ok (.putfield 157, 3) := by decide +kernel
theorem dX11_addFlight_133 : decode cX11_addFlight 133 = .ok (.aload 6, 2) := by decide +kernel
theorem dX11_addFlight_135 : decode cX11_addFlight 135 = .ok (.iload_n 3, 1) := by decide +kernel
theorem dX11_addFlight_136 : decode cX11_addFlight 136 = .ok (.putfield 160, 3) := by decide +kernel
theorem dX11_addFlight_139 : decode cX11_addFlight 139 = .ok (.aload 6, 2) := by decide +kernel
theorem dX11_addFlight_141 : decode cX11_addFlight 141 = .ok (.iload 4, 2) := by decide +kernel
theorem dX11_addFlight_143 : decode cX11_addFlight 143 = .ok (.putfield 163, 3) := by decide +kernel
theorem dX11_addFlight_146 : decode cX11_addFlight 146 = .ok (.aload 6, 2) := by decide +kernel
theorem dX11_addFlight_148 : decode cX11_addFlight 148 = .ok (.iload 5, 2) := by decide +kernel
theorem dX11_addFlight_150 : decode cX11_addFlight 150 = .ok (.putfield 165, 3) := by decide +kernel
theorem dX11_addFlight_153 : decode cX11_addFlight 153 = .ok (.aload_n 0, 1) := by decide +kernel
theorem dX11_addFlight_154 : decode cX11_addFlight 154 = .ok (.iconst 0, 1) := by decide +kernel
theorem dX11_addFlight_155 : decode cX11_addFlight 155 = .ok (.putfield 43, 3) := by decide +kernel
theorem dX11_addFlight_158 : decode cX11_addFlight 158 = .ok (.aload_n 0, 1) := by decide +kernel
theorem dX11_addFlight_159 : decode cX11_addFlight 159 = .ok (.getfield 23, 3) := by decide +kernel
theorem dX11_addFlight_162 : decode cX11_addFlight 162 = .ok (.dup, 1) := by decide +kernel
theorem dX11_addFlight_163 : decode cX11_addFlight 163 = .ok (.getfield 142, 3) := by decide +kernel
theorem dX11_addFlight_166 : decode cX11_addFlight 166 = .ok (.dup_x1, 1) := by decide +kernel
theorem dX11_addFlight_167 : decode cX11_addFlight 167 = .ok (.iconst 1, 1) := by decide +kernel
theorem dX11_addFlight_168 : decode cX11_addFlight 168 = .ok (.iadd, 1) := by decide +kernel
theorem dX11_addFlight_169 : decode cX11_addFlight 169 = .ok (.putfield 142, 3) := by decide +kernel
theorem dX11_addFlight_172 : decode cX11_addFlight 172 = .ok (.ireturn, 1) := by decide +kernel
theorem dX11_slot_0 : decode cX11_slot 0 = .ok (.aload_n 0, 1) := by decide +kernel
theorem dX11_slot_1 : decode cX11_slot 1 = .ok (.iload_n 1, 1) := by decide +kernel
theorem dX11_slot_2 : decode cX11_slot 2 = .ok (.invokevirtual 168, 3) := by decide +kernel
theorem dX11_slot_5 : decode cX11_slot 5 = .ok (.aload_n 0, 1) := by decide +kernel
theorem dX11_slot_6 : decode cX11_slot 6 = .ok (.getfield 23, 3) := by decide +kernel
theorem dX11_slot_9 : decode cX11_slot 9 = .ok (.getfield 145, 3) := by decide +kernel
theorem dX11_slot_12 : decode cX11_slot 12 = .ok (.iload_n 1, 1) := by decide +kernel
theorem dX11_slot_13 : decode cX11_slot 13 = .ok (.aaload, 1) := by decide +kernel
theorem dX11_slot_14 : decode cX11_slot 14 = .ok (.astore_n 3, 1) := by decide +kernel
theorem dX11_slot_15 : decode cX11_slot 15 = .ok (.aload_n 3, 1) := by decide +kernel
theorem dX11_slot_16 : decode cX11_slot 16 = .ok (.getfield 149, 3) := by decide +kernel
theorem dX11_slot_19 : decode cX11_slot 19 = .ok (.ifCond .ne 7, 3) := by decide +kernel
theorem dX11_slot_22 : decode cX11_slot 22 = .ok (.iconst 1, 1) := by decide +kernel
theorem dX11_slot_23 : decode cX11_slot 23 = .ok (.goto 4, 3) := by decide +kernel
theorem dX11_slot_26 : decode cX11_slot 26 = .ok (.iconst 0, 1) := by decide +kernel
theorem dX11_slot_27 : decode cX11_slot 27 = .ok (.invokestatic 171, 3) := by decide +kernel
theorem dX11_slot_30 : decode cX11_slot 30 = .ok (.iload_n 2, 1) := by decide +kernel
theorem dX11_slot_31 : decode cX11_slot 31 = .ok (.iconst 0, 1) := by decide +kernel
theorem dX11_slot_32 : decode cX11_slot 32 = .ok (.sipush 1999, 3) := by decide +kernel
theorem dX11_slot_35 : decode cX11_slot 35 = .ok (.invokestatic 51, 3) := by decide +kernel
theorem dX11_slot_38 : decode cX11_slot 38 = .ok (.invokestatic 55, 3) := by decide +kernel
theorem dX11_slot_41 : decode cX11_slot 41 = .ok (.aload_n 3, 1) := by decide +kernel
theorem dX11_slot_42 : decode cX11_slot 42 = .ok (.getfield 174, 3) := by decide +kernel
theorem dX11_slot_45 : decode cX11_slot 45 = .ok (.istore 4, 2) := by decide +kernel
theorem dX11_slot_47 : decode cX11_slot 47 = .ok (.aload_n 3, 1) := by decide +kernel
theorem dX11_slot_48 : decode cX11_slot 48 = .ok (.iload_n 2, 1) := by decide +kernel
theorem dX11_slot_49 : decode cX11_slot 49 = .ok (.putfield 174, 3) := by decide +kernel
theorem dX11_slot_52 : decode cX11_slot 52 = .ok (.aload_n 0, 1) := by decide +kernel
theorem dX11_slot_53 : decode cX11_slot 53 = .ok (.iconst 0, 1) := by decide +kernel
theorem dX11_slot_54 : decode cX11_slot 54 = .ok (.putfield 43, 3) := by decide +kernel
theorem dX11_slot_57 : decode cX11_slot 57 = .ok (.iload 4, 2) := by decide +kernel
theorem dX11_slot_59 : decode cX11_slot 59 = .ok (.ireturn, 1) := by decide +kernel
theorem dX11_trade_0 : decode cX11_trade 0 = .ok (.aload_n 0, 1) := by decide +kernel
theorem dX11_trade_1 : decode cX11_trade 1 = .ok (.iload_n 1, 1) := by decide +kernel
theorem dX11_trade_2 : decode cX11_trade 2 = .ok (.invokevirtual 168, 3) := by decide +kernel
theorem dX11_trade_5 : decode cX11_trade 5 = .ok (.aload_n 0, 1) := by decide +kernel
theorem dX11_trade_6 : decode cX11_trade 6 = .ok (.iload_n 2, 1) := by decide +kernel
theorem dX11_trade_7 : decode cX11_trade 7 = .ok (.invokevirtual 168, 3) := by decide +kernel
theorem dX11_trade_10 : decode cX11_trade 10 = .ok (.aload_n 0, 1) := by decide +kernel
theorem dX11_trade_11 : decode cX11_trade 11 = .ok (.getfield 23, 3) := by decide +kernel
theorem dX11_trade_14 : decode cX11_trade 14 = .ok (.getfield 145, 3) := by decide +kernel
theorem dX11_trade_17 : decode cX11_trade 17 = .ok (.iload_n 1, 1) := by decide +kernel
theorem dX11_trade_18 : decode cX11_trade 18 = .ok (.aaload, 1) := by decide +kernel
theorem dX11_trade_19 : decode cX11_trade 19 = .ok (.astore_n 3, 1) := by decide +kernel
theorem dX11_trade_20 : decode cX11_trade 20 = .ok (.aload_n 0, 1) := by decide +kernel
theorem dX11_trade_21 : decode cX11_trade 21 = .ok (.getfield 23, 3) := by decide +kernel
theorem dX11_trade_24 : decode cX11_trade 24 = .ok (.getfield 145, 3) := by decide +kernel
theorem dX11_trade_27 : decode cX11_trade 27 = .ok (.iload_n 2, 1) := by decide +kernel
theorem dX11_trade_28 : decode cX11_trade 28 = .ok (.aaload, 1) := by decide +kernel
theorem dX11_trade_29 : decode cX11_trade 29 = .ok (.astore 4, 2) := by decide +kernel
theorem dX11_trade_31 : decode cX11_trade 31 = .ok (.aload_n 3, 1) := by decide +kernel
theorem dX11_trade_32 : decode cX11_trade 32 = .ok (.getfield 174, 3) := by decide +kernel
theorem dX11_trade_35 : decode cX11_trade 35 = .ok (.iconst (-1), 1) := by decide +kernel
theorem dX11_trade_36 : decode cX11_trade 36 = .ok (.if_icmp .eq 16, 3) := by decide +kernel
theorem dX11_trade_39 : decode cX11_trade 39 = .ok (.aload 4, 2) := by decide +kernel
theorem dX11_trade_41 : decode cX11_trade 41 = .ok (.getfield 174, 3) := by decide +kernel
theorem dX11_trade_44 : decode cX11_trade 44 = .ok (.iconst (-1), 1) := by decide +kernel
theorem dX11_trade_45 : decode cX11_trade 45 = .ok (.if_icmp .eq 7, 3) := by decide +kernel
theorem dX11_trade_48 : decode cX11_trade 48 = .ok (.iconst 1, 1) := by decide +kernel
theorem dX11_trade_49 : decode cX11_trade 49 = .ok (.goto 4, 3) := by decide +kernel
theorem dX11_trade_52 : decode cX11_trade 52 = .ok (.iconst 0, 1) := by decide +kernel
theorem dX11_trade_53 : decode cX11_trade 53 = .ok (.invokestatic 171, 3) := by decide +kernel
theorem dX11_trade_56 : decode cX11_trade 56 = .ok (.aload_n 3, 1) := by decide +kernel
theorem dX11_trade_57 : decode cX11_trade 57 = .ok (.getfield 174, 3) := by decide +kernel
theorem dX11_trade_60 : decode cX11_trade 60 = .ok (.istore 5, 2) := by decide +kernel
theorem dX11_trade_62 : decode cX11_trade 62 = .ok (.aload_n 3, 1) := by decide +kernel
theorem dX11_trade_63 : decode cX11_trade 63 = .ok (.aload 4, 2) := by decide +kernel
theorem dX11_trade_65 : decode cX11_trade 65 = .ok (.getfield 174, 3) := by decide +kernel
theorem dX11_trade_68 : decode cX11_trade 68 = .ok (.putfield 174, 3) := by decide +kernel
theorem dX11_trade_71 : decode cX11_trade 71 = .ok (.aload 4, 2) := by decide +kernel
theorem dX11_trade_73 : decode cX11_trade 73 = .ok (.iload 5, 2) := by decide +kernel
theorem dX11_trade_75 : decode cX11_trade 75 = .ok (.putfield 174, 3) := by decide +kernel
theorem dX11_trade_78 : decode cX11_trade 78 = .ok (.aload_n 0, 1) := by decide +kernel
theorem dX11_trade_79 : decode cX11_trade 79 = .ok (.iconst 0, 1) := by decide +kernel
theorem dX11_trade_80 : decode cX11_trade 80 = .ok (.putfield 43, 3) := by decide +kernel
theorem dX11_trade_83 : decode cX11_trade 83 = .ok (.aload_n 3, 1) := by decide +kernel
theorem dX11_trade_84 : decode cX11_trade 84 = .ok (.getfield 174, 3) := by decide +kernel
theorem dX11_trade_87 : decode cX11_trade 87 = .ok (.ireturn, 1) := by decide +kernel
theorem dX11_hold_0 : decode cX11_hold 0 = .ok (.aload_n 0, 1) := by decide +kernel
theorem dX11_hold_1 : decode cX11_hold 1 = .ok (.iload_n 1, 1) := by decide +kernel
theorem dX11_hold_2 : decode cX11_hold 2 = .ok (.invokevirtual 168, 3) := by decide +kernel
theorem dX11_hold_5 : decode cX11_hold 5 = .ok (.iload_n 2, 1) := by decide +kernel
theorem dX11_hold_6 : decode cX11_hold 6 = .ok (.iconst 0, 1) := by decide +kernel
theorem dX11_hold_7 : decode cX11_hold 7 = .ok (.sipush 240, 3) := by decide +kernel
theorem dX11_hold_10 : decode cX11_hold 10 = .ok (.invokestatic 51, 3) := by decide +kernel
theorem dX11_hold_13 : decode cX11_hold 13 = .ok (.invokestatic 55, 3) := by decide +kernel
theorem dX11_hold_16 : decode cX11_hold 16 = .ok (.aload_n 0, 1) := by decide +kernel
theorem dX11_hold_17 : decode cX11_hold 17 = .ok (.getfield 23, 3) := by decide +kernel
theorem dX11_hold_20 : decode cX11_hold 20 = .ok (.getfield 145, 3) := by decide +kernel
theorem dX11_hold_23 : decode cX11_hold 23 = .ok (.iload_n 1, 1) := by decide +kernel
theorem dX11_hold_24 : decode cX11_hold 24 = .ok (.aaload, 1) := by decide +kernel
theorem dX11_hold_25 : decode cX11_hold 25 = .ok (.getfield 177, 3) := by decide +kernel
theorem dX11_hold_28 : decode cX11_hold 28 = .ok (.istore_n 3, 1) := by decide +kernel
theorem dX11_hold_29 : decode cX11_hold 29 = .ok (.aload_n 0, 1) := by decide +kernel
theorem dX11_hold_30 : decode cX11_hold 30 = .ok (.getfield 23, 3) := by decide +kernel
theorem dX11_hold_33 : decode cX11_hold 33 = .ok (.getfield 145, 3) := by decide +kernel
theorem dX11_hold_36 : decode cX11_hold 36 = .ok (.iload_n 1, 1) := by decide +kernel
theorem dX11_hold_37 : decode cX11_hold 37 = .ok (.aaload, 1) := by decide +kernel
theorem dX11_hold_38 : decode cX11_hold 38 = .ok (.iload_n 2, 1) := by decide +kernel
theorem dX11_hold_39 : decode cX11_hold 39 = .ok (.putfield 177, 3) := by decide +kernel
theorem dX11_hold_42 : decode cX11_hold 42 = .ok (.aload_n 0, 1) := by decide +kernel
theorem dX11_hold_43 : decode cX11_hold 43 = .ok (.iconst 0, 1) := by decide +kernel
theorem dX11_hold_44 : decode cX11_hold 44 = .ok (.putfield 43, 3) := by decide +kernel
theorem dX11_hold_47 : decode cX11_hold 47 = .ok (.iload_n 3, 1) := by decide +kernel
theorem dX11_hold_48 : decode cX11_hold 48 = .ok (.ireturn, 1) := by decide +kernel
theorem dX11_waitFor_0 : decode cX11_waitFor 0 = .ok (.aload_n 0, 1) := by decide +kernel
theorem dX11_waitFor_1 : decode cX11_waitFor 1 = .ok (.iload_n 1, 1) := by decide +kernel
theorem dX11_waitFor_2 : decode cX11_waitFor 2 = .ok (.invokevirtual 168, 3) := by decide +kernel
theorem dX11_waitFor_5 : decode cX11_waitFor 5 = .ok (.iload_n 2, 1) := by decide +kernel
theorem dX11_waitFor_6 : decode cX11_waitFor 6 = .ok (.iconst 0, 1) := by decide +kernel
theorem dX11_waitFor_7 : decode cX11_waitFor 7 = .ok (.bipush 60, 2) := by decide +kernel
theorem dX11_waitFor_9 : decode cX11_waitFor 9 = .ok (.invokestatic 51, 3) := by decide +kernel
theorem dX11_waitFor_12 : decode cX11_waitFor 12 = .ok (.invokestatic 55, 3) := by decide +kernel
theorem dX11_waitFor_15 : decode cX11_waitFor 15 = .ok (.aload_n 0, 1) := by decide +kernel
theorem dX11_waitFor_16 : decode cX11_waitFor 16 = .ok (.getfield 23, 3) := by decide +kernel
theorem dX11_waitFor_19 : decode cX11_waitFor 19 = .ok (.getfield 145, 3) := by decide +kernel
theorem dX11_waitFor_22 : decode cX11_waitFor 22 = .ok (.iload_n 1, 1) := by decide +kernel
theorem dX11_waitFor_23 : decode cX11_waitFor 23 = .ok (.aaload, 1) := by decide +kernel
theorem dX11_waitFor_24 : decode cX11_waitFor 24 = .ok (.getfield 180, 3) := by decide +kernel
theorem dX11_waitFor_27 : decode cX11_waitFor 27 = .ok (.istore_n 3, 1) := by decide +kernel
theorem dX11_waitFor_28 : decode cX11_waitFor 28 = .ok (.aload_n 0, 1) := by decide +kernel
theorem dX11_waitFor_29 : decode cX11_waitFor 29 = .ok (.getfield 23, 3) := by decide +kernel
theorem dX11_waitFor_32 : decode cX11_waitFor 32 = .ok (.getfield 145, 3) := by decide +kernel
theorem dX11_waitFor_35 : decode cX11_waitFor 35 = .ok (.iload_n 1, 1) := by decide +kernel
theorem dX11_waitFor_36 : decode cX11_waitFor 36 = .ok (.aaload, 1) := by decide +kernel
theorem dX11_waitFor_37 : decode cX11_waitFor 37 = .ok (.iload_n 2, 1) := by decide +kernel
theorem dX11_waitFor_38 : decode cX11_waitFor 38 = .ok (.putfield 180, 3) := by decide +kernel
theorem dX11_waitFor_41 : decode cX11_waitFor 41 = .ok (.aload_n 0, 1) := by decide +kernel
theorem dX11_waitFor_42 : decode cX11_waitFor 42 = .ok (.iconst 0, 1) := by decide +kernel
theorem dX11_waitFor_43 : decode cX11_waitFor 43 = .ok (.putfield 43, 3) := by decide +kernel
theorem dX11_waitFor_46 : decode cX11_waitFor 46 = .ok (.iload_n 3, 1) := by decide +kernel
theorem dX11_waitFor_47 : decode cX11_waitFor 47 = .ok (.ireturn, 1) := by decide +kernel
theorem dX11_swap_0 : decode cX11_swap 0 = .ok (.aload_n 0, 1) := by decide +kernel
theorem dX11_swap_1 : decode cX11_swap 1 = .ok (.iload_n 1, 1) := by decide +kernel
theorem dX11_swap_2 : decode cX11_swap 2 = .ok (.invokevirtual 168, 3) := by decide +kernel
theorem dX11_swap_5 : decode cX11_swap 5 = .ok (.aload_n 0, 1) := by decide +kernel
theorem dX11_swap_6 : decode cX11_swap 6 = .ok (.iload_n 2, 1) := by decide +kernel
theorem dX11_swap_7 : decode cX11_swap 7 = .ok (.invokevirtual 168, 3) := by decide +kernel
theorem dX11_swap_10 : decode cX11_swap 10 = .ok (.aload_n 0, 1) := by decide +kernel
theorem dX11_swap_11 : decode cX11_swap 11 = .ok (.getfield 23, 3) := by decide +kernel
theorem dX11_swap_14 : decode cX11_swap 14 = .ok (.getfield 145, 3) := by decide +kernel
theorem dX11_swap_17 : decode cX11_swap 17 = .ok (.iload_n 1, 1) := by decide +kernel
theorem dX11_swap_18 : decode cX11_swap 18 = .ok (.aaload, 1) := by decide +kernel
theorem dX11_swap_19 : decode cX11_swap 19 = .ok (.getfield 163, 3) := by decide +kernel
theorem dX11_swap_22 : decode cX11_swap 22 = .ok (.istore_n 3, 1) := by decide +kernel
theorem dX11_swap_23 : decode cX11_swap 23 = .ok (.aload_n 0, 1) := by decide +kernel
theorem dX11_swap_24 : decode cX11_swap 24 = .ok (.getfield 23, 3) := by decide +kernel
theorem dX11_swap_27 : decode cX11_swap 27 = .ok (.getfield 145, 3) := by decide +kernel
theorem dX11_swap_30 : decode cX11_swap 30 = .ok (.iload_n 2, 1) := by decide +kernel
theorem dX11_swap_31 : decode cX11_swap 31 = .ok (.aaload, 1) := by decide +kernel
theorem dX11_swap_32 : decode cX11_swap 32 = .ok (.getfield 163, 3) := by decide +kernel
theorem dX11_swap_35 : decode cX11_swap 35 = .ok (.istore 4, 2) := by decide +kernel
theorem dX11_swap_37 : decode cX11_swap 37 = .ok (.iload_n 3, 1) := by decide +kernel
theorem dX11_swap_38 : decode cX11_swap 38 = .ok (.iload 4, 2) := by decide +kernel
theorem dX11_swap_40 : decode cX11_swap 40 = .ok (.if_icmp .eq 35, 3) := by decide +kernel
theorem dX11_swap_43 : decode cX11_swap 43 = .ok (.aload_n 0, 1) := by decide +kernel
theorem dX11_swap_44 : decode cX11_swap 44 = .ok (.getfield 23, 3) := by decide +kernel
theorem dX11_swap_47 : decode cX11_swap 47 = .ok (.getfield 69, 3) := by decide +kernel
theorem dX11_swap_50 : decode cX11_swap 50 = .ok (.iload_n 3, 1) := by decide +kernel
theorem dX11_swap_51 : decode cX11_swap 51 = .ok (.aaload, 1) := by decide +kernel
theorem dX11_swap_52 : decode cX11_swap 52 = .ok (.getfield 73, 3) := by decide +kernel
theorem dX11_swap_55 : decode cX11_swap 55 = .ok (.aload_n 0, 1) := by decide +kernel
theorem dX11_swap_56 : decode cX11_swap 56 = .ok (.getfield 23, 3) := by decide +kernel
theorem dX11_swap_59 : decode cX11_swap 59 = .ok (.getfield 69, 3) := by decide +kernel
theorem dX11_swap_62 : decode cX11_swap 62 = .ok (.iload 4, 2) := by decide +kernel
theorem dX11_swap_64 : decode cX11_swap 64 = .ok (.aaload, 1) := by decide +kernel
theorem dX11_swap_65 : decode cX11_swap 65 = .ok (.getfield 73, 3) := by decide +kernel
theorem dX11_swap_68 : decode cX11_swap 68 = .ok (.if_icmp .ne 7, 3) := by decide +kernel
theorem dX11_swap_71 : decode cX11_swap 71 = .ok (.iconst 1, 1) := by decide +kernel
theorem dX11_swap_72 : decode cX11_swap 72 = .ok (.goto 4, 3) := by decide +kernel
theorem dX11_swap_75 : decode cX11_swap 75 = .ok (.iconst 0, 1) := by decide +kernel
theorem dX11_swap_76 : decode cX11_swap 76 = .ok (.invokestatic 171, 3) := by decide +kernel
theorem dX11_swap_79 : decode cX11_swap 79 = .ok (.iconst 0, 1) := by decide +kernel
theorem dX11_swap_80 : decode cX11_swap 80 = .ok (.istore 5, 2) := by decide +kernel
theorem dX11_swap_82 : decode cX11_swap 82 = .ok (.iload 5, 2) := by decide +kernel
theorem dX11_swap_84 : decode cX11_swap 84 = .ok (.aload_n 0, 1) := by decide +kernel
theorem dX11_swap_85 : decode cX11_swap 85 = .ok (.getfield 23, 3) := by decide +kernel
theorem dX11_swap_88 : decode cX11_swap 88 = .ok (.getfield 142, 3) := by decide +kernel
theorem dX11_swap_91 : decode cX11_swap 91 = .ok (.if_icmp .ge 82, 3) := by decide +kernel
theorem dX11_swap_94 : decode cX11_swap 94 = .ok (.aload_n 0, 1) := by decide +kernel
theorem dX11_swap_95 : decode cX11_swap 95 = .ok (.getfield 23, 3) := by decide +kernel
theorem dX11_swap_98 : decode cX11_swap 98 = .ok (.getfield 145, 3) := by decide +kernel
theorem dX11_swap_101 : decode cX11_swap 101 = .ok (.iload 5, 2) := by decide +kernel
theorem dX11_swap_103 : decode cX11_swap 103 = .ok (.aaload, 1) := by decide +kernel
theorem dX11_swap_104 : decode cX11_swap 104 = .ok (.astore 6, 2) := by decide +kernel
theorem dX11_swap_106 : decode cX11_swap 106 = .ok (.aload 6, 2) := by decide +kernel
theorem dX11_swap_108 : decode cX11_swap 108 = .ok (.getfield 163, 3) := by decide +kernel
theorem dX11_swap_111 : decode cX11_swap 111 = .ok (.iload_n 3, 1) := by decide +kernel
theorem dX11_swap_112 : decode cX11_swap 112 = .ok (.if_icmp .ne 26, 3) := by decide +kernel
theorem dX11_swap_115 : decode cX11_swap 115 = .ok (.aload_n 0, 1) := by decide +kernel
theorem dX11_swap_116 : decode cX11_swap 116 = .ok (.getfield 23, 3) := by decide +kernel
theorem dX11_swap_119 : decode cX11_swap 119 = .ok (.iload 5, 2) := by decide +kernel
theorem dX11_swap_121 : decode cX11_swap 121 = .ok (.iload_n 1, 1) := by decide +kernel
theorem dX11_swap_122 : decode cX11_swap 122 = .ok (.invokevirtual 183, 3) := by decide +kernel
theorem dX11_swap_125 : decode cX11_swap 125 = .ok (.ifCond .ne 13, 3) := by decide +kernel
theorem dX11_swap_128 : decode cX11_swap 128 = .ok (.aload 6, 2) := by decide +kernel
theorem dX11_swap_130 : decode cX11_swap 130 = .ok (.iload 4, 2) := by decide +kernel
theorem dX11_swap_132 : decode cX11_swap 132 = .ok (.putfield 163, 3) := by decide +kernel
theorem dX11_swap_135 : decode cX11_swap 135 = .ok (.goto 32, 3) := by decide +kernel
theorem dX11_swap_138 : decode cX11_swap 138 = .ok (.aload 6, 2) := by decide +kernel
theorem dX11_swap_140 : decode cX11_swap 140 = .ok (.getfield 163, 3) := by decide +kernel
theorem dX11_swap_143 : decode cX11_swap 143 = .ok (.iload 4, 2) := by decide +kernel
theorem dX11_swap_145 : decode cX11_swap 145 = .ok (.if_icmp .ne 22, 3) := by decide +kernel
theorem dX11_swap_148 : decode cX11_swap 148 = .ok (.aload_n 0, 1) := by decide +kernel
theorem dX11_swap_149 : decode cX11_swap 149 = .ok (.getfield 23, 3) := by decide +kernel
theorem dX11_swap_152 : decode cX11_swap 152 = .ok (.iload 5, 2) := by decide +kernel
theorem dX11_swap_154 : decode cX11_swap 154 = .ok (.iload_n 2, 1) := by decide +kernel
theorem dX11_swap_155 : decode cX11_swap 155 = .ok (.invokevirtual 183, 3) := by decide +kernel
theorem dX11_swap_158 : decode cX11_swap 158 = .ok (.ifCond .ne 9, 3) := by decide +kernel
theorem dX11_swap_161 : decode cX11_swap 161 = .ok (.aload 6, 2) := by decide +kernel
theorem dX11_swap_163 : decode cX11_swap 163 = .ok (.iload_n 3, 1) := by decide +kernel
theorem dX11_swap_164 : decode cX11_swap 164 = .ok (.putfield 163, 3) := by decide +kernel
theorem dX11_swap_167 : decode cX11_swap 167 = .ok (.iinc 5 1, 3) := by decide +kernel
theorem dX11_swap_170 : decode cX11_swap 170 = .ok (.goto (-88), 3) := by decide +kernel
theorem dX11_swap_173 : decode cX11_swap 173 = .ok (.aload_n 0, 1) := by decide +kernel
theorem dX11_swap_174 : decode cX11_swap 174 = .ok (.iconst 0, 1) := by decide +kernel
theorem dX11_swap_175 : decode cX11_swap 175 = .ok (.putfield 43, 3) := by decide +kernel
theorem dX11_swap_178 : decode cX11_swap 178 = .ok (.aload_n 0, 1) := by decide +kernel
theorem dX11_swap_179 : decode cX11_swap 179 = .ok (.getfield 23, 3) := by decide +kernel
theorem dX11_swap_182 : decode cX11_swap 182 = .ok (.getfield 145, 3) := by decide +kernel
theorem dX11_swap_185 : decode cX11_swap 185 = .ok (.iload_n 1, 1) := by decide +kernel
theorem dX11_swap_186 : decode cX11_swap 186 = .ok (.aaload, 1) := by decide +kernel
theorem dX11_swap_187 : decode cX11_swap 187 = .ok (.getfield 163, 3) := by decide +kernel
theorem dX11_swap_190 : decode cX11_swap 190 = .ok (.ireturn, 1) := by decide +kernel
theorem dX11_cancel_0 : decode cX11_cancel 0 = .ok (.aload_n 0, 1) := by decide +kernel
theorem dX11_cancel_1 : decode cX11_cancel 1 = .ok (.iload_n 1, 1) := by decide +kernel
theorem dX11_cancel_2 : decode cX11_cancel 2 = .ok (.invokevirtual 168, 3) := by decide +kernel
theorem dX11_cancel_5 : decode cX11_cancel 5 = .ok (.aload_n 0, 1) := by decide +kernel
theorem dX11_cancel_6 : decode cX11_cancel 6 = .ok (.getfield 23, 3) := by decide +kernel
theorem dX11_cancel_9 : decode cX11_cancel 9 = .ok (.getfield 145, 3) := by decide +kernel
theorem dX11_cancel_12 : decode cX11_cancel 12 = .ok (.iload_n 1, 1) := by decide +kernel
theorem dX11_cancel_13 : decode cX11_cancel 13 = .ok (.aaload, 1) := by decide +kernel
theorem dX11_cancel_14 : decode cX11_cancel 14 = .ok (.getfield 187, 3) := by decide +kernel
theorem dX11_cancel_17 : decode cX11_cancel 17 = .ok (.ifCond .ne 7, 3) := by decide +kernel
theorem dX11_cancel_20 : decode cX11_cancel 20 = .ok (.iconst 1, 1) := by decide +kernel
theorem dX11_cancel_21 : decode cX11_cancel 21 = .ok (.goto 4, 3) := by decide +kernel
theorem dX11_cancel_24 : decode cX11_cancel 24 = .ok (.iconst 0, 1) := by decide +kernel
theorem dX11_cancel_25 : decode cX11_cancel 25 = .ok (.istore_n 2, 1) := by decide +kernel
theorem dX11_cancel_26 : decode cX11_cancel 26 = .ok (.aload_n 0, 1) := by decide +kernel
theorem dX11_cancel_27 : decode cX11_cancel 27 = .ok (.getfield 23, 3) := by decide +kernel
theorem dX11_cancel_30 : decode cX11_cancel 30 = .ok (.getfield 145, 3) := by decide +kernel
theorem dX11_cancel_33 : decode cX11_cancel 33 = .ok (.iload_n 1, 1) := by decide +kernel
theorem dX11_cancel_34 : decode cX11_cancel 34 = .ok (.aaload, 1) := by decide +kernel
theorem dX11_cancel_35 : decode cX11_cancel 35 = .ok (.iconst 1, 1) := by decide +kernel
theorem dX11_cancel_36 : decode cX11_cancel 36 = .ok (.putfield 187, 3) := by decide +kernel
theorem dX11_cancel_39 : decode cX11_cancel 39 = .ok (.aload_n 0, 1) := by decide +kernel
theorem dX11_cancel_40 : decode cX11_cancel 40 = .ok (.iconst 0, 1) := by decide +kernel
theorem dX11_cancel_41 : decode cX11_cancel 41 = .ok (.putfield 43, 3) := by decide +kernel
theorem dX11_cancel_44 : decode cX11_cancel 44 = .ok (.iload_n 2, 1) := by decide +kernel
theorem dX11_cancel_45 : decode cX11_cancel 45 = .ok (.ireturn, 1) := by decide +kernel
theorem dX11_addGroup_0 : decode cX11_addGroup 0 = .ok (.aload_n 0, 1) := by decide +kernel
theorem dX11_addGroup_1 : decode cX11_addGroup 1 = .ok (.iload_n 1, 1) := by decide +kernel
theorem dX11_addGroup_2 : decode cX11_addGroup 2 = .ok (.invokevirtual 168, 3) := by decide +kernel
theorem dX11_addGroup_5 : decode cX11_addGroup 5 = .ok (.iload_n 2, 1) := by decide +kernel
theorem dX11_addGroup_6 : decode cX11_addGroup 6 = .ok (.iconst (-1), 1) := by decide +kernel
theorem dX11_addGroup_7 : decode cX11_addGroup 7 = .ok (.if_icmp .eq 8, 3) := by decide +kernel
theorem dX11_addGroup_10 : decode cX11_addGroup 10 = .ok (.aload_n 0, 1) := by decide +kernel
theorem dX11_addGroup_11 : decode cX11_addGroup 11 = .ok (.iload_n 2, 1) := by decide +kernel
theorem dX11_addGroup_12 : decode cX11_addGroup 12 = .ok (.invokevirtual 168, 3) := by decide +kernel
theorem dX11_addGroup_15 : decode cX11_addGroup 15 = .ok (.iload_n 3, 1) := by decide +kernel
theorem dX11_addGroup_16 : decode cX11_addGroup 16 = .ok (.iconst 1, 1) := by decide +kernel
theorem dX11_addGroup_17 : decode cX11_addGroup 17 = .ok (.bipush 50, 2) := by decide +kernel
theorem dX11_addGroup_19 : decode cX11_addGroup 19 = .ok (.invokestatic 51, 3) := by decide +kernel
theorem dX11_addGroup_22 : decode cX11_addGroup 22 = .ok (.ifCond .eq 17, 3) := by decide +kernel
theorem dX11_addGroup_25 : decode cX11_addGroup 25 = .ok (.iload 4, 2) := by decide +kernel
theorem dX11_addGroup_27 : decode cX11_addGroup 27 = .ok (.iconst 0, 1) := by decide +kernel
theorem dX11_addGroup_28 : decode cX11_addGroup 28 = .ok (.iconst 2, 1) := by decide +kernel
theorem dX11_addGroup_29 : decode cX11_addGroup 29 = .ok (.invokestatic 51, 3) := by decide +kernel
theorem dX11_addGroup_32 : decode cX11_addGroup 32 = .ok (.ifCond .eq 7, 3) := by decide +kernel
theorem dX11_addGroup_35 : decode cX11_addGroup 35 = .ok (.iconst 1, 1) := by decide +kernel
theorem dX11_addGroup_36 : decode cX11_addGroup 36 = .ok (.goto 4, 3) := by decide +kernel
theorem dX11_addGroup_39 : decode cX11_addGroup 39 = .ok (.iconst 0, 1) := by decide +kernel
theorem dX11_addGroup_40 : decode cX11_addGroup 40 = .ok (.invokestatic 55, 3) := by decide +kernel
theorem dX11_addGroup_43 : decode cX11_addGroup 43 = .ok (.iload_n 2, 1) := by decide +kernel
theorem dX11_addGroup_44 : decode cX11_addGroup 44 = .ok (.iconst (-1), 1) := by decide +kernel
theorem dX11_addGroup_45 : decode cX11_addGroup 45 = .ok (.if_icmp .eq 30, 3) := by decide +kernel
theorem dX11_addGroup_48 : decode cX11_addGroup 48 = .ok (.aload_n 0, 1) := by decide +kernel
theorem dX11_addGroup_49 : decode cX11_addGroup 49 = .ok (.getfield 23, 3) := by decide +kernel
theorem dX11_addGroup_52 : decode cX11_addGroup 52 = .ok (.getfield 145, 3) := by decide +kernel
theorem dX11_addGroup_55 : decode cX11_addGroup 55 = .ok (.iload_n 2, 1) := by decide +kernel
theorem dX11_addGroup_56 : decode cX11_addGroup 56 = .ok (.aaload, 1) := by decide +kernel
theorem dX11_addGroup_57 : decode cX11_addGroup 57 = .ok (.getfield 149, 3) := by decide +kernel
theorem dX11_addGroup_60 : decode cX11_addGroup 60 = .ok (.aload_n 0, 1) := by decide +kernel
theorem dX11_addGroup_61 : decode cX11_addGroup 61 = .ok (.getfield 23, 3) := by decide +kernel
theorem dX11_addGroup_64 : decode cX11_addGroup 64 = .ok (.getfield 145, 3) := by decide +kernel
theorem dX11_addGroup_67 : decode cX11_addGroup 67 = .ok (.iload_n 1, 1) := by decide +kernel
theorem dX11_addGroup_68 : decode cX11_addGroup 68 = .ok (.aaload, 1) := by decide +kernel
theorem dX11_addGroup_69 : decode cX11_addGroup 69 = .ok (.getfield 154, 3) := by decide +kernel
theorem dX11_addGroup_72 : decode cX11_addGroup 72 = .ok (.if_icmp .ne 7, 3) := by decide +kernel
theorem dX11_addGroup_75 : decode cX11_addGroup 75 = .ok (.iconst 1, 1) := by decide +kernel
theorem dX11_addGroup_76 : decode cX11_addGroup 76 = .ok (.goto 4, 3) := by decide +kernel
theorem dX11_addGroup_79 : decode cX11_addGroup 79 = .ok (.iconst 0, 1) := by decide +kernel
theorem dX11_addGroup_80 : decode cX11_addGroup 80 = .ok (.invokestatic 171, 3) := by decide +kernel
theorem dX11_addGroup_83 : decode cX11_addGroup 83 = .ok (.aload_n 0, 1) := by decide +kernel
theorem dX11_addGroup_84 : decode cX11_addGroup 84 = .ok (.getfield 23, 3) := by decide +kernel
theorem dX11_addGroup_87 : decode cX11_addGroup 87 = .ok (.getfield 190, 3) := by decide +kernel
theorem dX11_addGroup_90 : decode cX11_addGroup 90 = .ok (.bipush 12, 2) := by decide +kernel
theorem dX11_addGroup_92 : decode cX11_addGroup 92 = .ok (.invokestatic 65, 3) := by decide +kernel
theorem dX11_addGroup_95 : decode cX11_addGroup 95 = .ok (.aload_n 0, 1) := by decide +kernel
theorem dX11_addGroup_96 : decode cX11_addGroup 96 = .ok (.getfield 23, 3) := by decide +kernel
theorem dX11_addGroup_99 : decode cX11_addGroup 99 = .ok (.getfield 193, 3) := by decide +kernel
theorem dX11_addGroup_102 : decode cX11_addGroup 102 = .ok (.aload_n 0, 1) := by decide +kernel
theorem dX11_addGroup_103 : decode cX11_addGroup 103 = .ok (.getfield 23, 3) := by decide +kernel
theorem dX11_addGroup_106 : decode cX11_addGroup 106 = .ok (.getfield 190, 3) := by decide +kernel
theorem dX11_addGroup_109 : decode cX11_addGroup 109 = .ok (.aaload, 1) := by decide +kernel
theorem dX11_addGroup_110 : decode cX11_addGroup 110 = .ok (.astore 6, 2) := by decide +kernel
theorem dX11_addGroup_112 : decode cX11_addGroup 112 = .ok (.aload 6, 2) := by decide +kernel
theorem dX11_addGroup_114 : decode cX11_addGroup 114 = .ok (.iload_n 1, 1) := by decide +kernel
theorem dX11_addGroup_115 : decode cX11_addGroup 115 = .ok (.putfield 197, 3) := by decide +kernel
theorem dX11_addGroup_118 : decode cX11_addGroup 118 = .ok (.aload 6, 2) := by decide +kernel
theorem dX11_addGroup_120 : decode cX11_addGroup 120 = .ok (.iload_n 2, 1) := by decide +kernel
theorem dX11_addGroup_121 : decode cX11_addGroup 121 = .ok (.putfield 202, 3) := by decide +kernel
theorem dX11_addGroup_124 : decode cX11_addGroup 124 = .ok (.aload 6, 2) := by decide +kernel
theorem dX11_addGroup_126 : decode cX11_addGroup 126 = .ok (.iload_n 3, 1) := by decide +kernel
theorem dX11_addGroup_127 : decode cX11_addGroup 127 = .ok (.putfield 205, 3) := by decide +kernel
theorem dX11_addGroup_130 : decode cX11_addGroup 130 = .ok (.aload 6, 2) := by decide +kernel
theorem dX11_addGroup_132 : decode cX11_addGroup 132 = .ok (.iload 4, 2) := by decide +kernel
theorem dX11_addGroup_134 : decode cX11_addGroup 134 = .ok (.putfield 208, 3) := by decide +kernel
theorem dX11_addGroup_137 : decode cX11_addGroup 137 = .ok (.aload 6, 2) := by decide +kernel
theorem dX11_addGroup_139 : decode cX11_addGroup 139 = .ok (.iload 5, 2) := by decide +kernel
theorem dX11_addGroup_141 : decode cX11_addGroup 141 = .ok (.putfield 211, 3) := by decide +kernel
theorem dX11_addGroup_144 : decode cX11_addGroup 144 = .ok (.aload_n 0, 1) := by decide +kernel
theorem dX11_addGroup_145 : decode cX11_addGroup 145 = .ok (.iconst 0, 1) := by decide +kernel
theorem dX11_addGroup_146 : decode cX11_addGroup 146 = .ok (.putfield 43, 3) := by decide +kernel
theorem dX11_addGroup_149 : decode cX11_addGroup 149 = .ok (.aload_n 0, 1) := by decide +kernel
theorem dX11_addGroup_150 : decode cX11_addGroup 150 = .ok (.getfield 23, 3) := by decide +kernel
theorem dX11_addGroup_153 : decode cX11_addGroup 153 = .ok (.dup, 1) := by decide +kernel
theorem dX11_addGroup_154 : decode cX11_addGroup 154 = .ok (.getfield 190, 3) := by decide +kernel
theorem dX11_addGroup_157 : decode cX11_addGroup 157 = .ok (.dup_x1, 1) := by decide +kernel
theorem dX11_addGroup_158 : decode cX11_addGroup 158 = .ok (.iconst 1, 1) := by decide +kernel
theorem dX11_addGroup_159 : decode cX11_addGroup 159 = .ok (.iadd, 1) := by decide +kernel
theorem dX11_addGroup_160 : decode cX11_addGroup 160 = .ok (.putfield 190, 3) := by decide +kernel
theorem dX11_addGroup_163 : decode cX11_addGroup 163 = .ok (.ireturn, 1) := by decide +kernel
theorem dX11_tell_0 : decode cX11_tell 0 = .ok (.aload_n 0, 1) := by decide +kernel
theorem dX11_tell_1 : decode cX11_tell 1 = .ok (.iload_n 2, 1) := by decide +kernel
theorem dX11_tell_2 : decode cX11_tell 2 = .ok (.invokevirtual 168, 3) := by decide +kernel
theorem dX11_tell_5 : decode cX11_tell 5 = .ok (.iload_n 1, 1) := by decide +kernel
theorem dX11_tell_6 : decode cX11_tell 6 = .ok (.bipush 104, 2) := by decide +kernel
theorem dX11_tell_8 : decode cX11_tell 8 = .ok (.if_icmp .eq 15, 3) := by decide +kernel
theorem dX11_tell_11 : decode cX11_tell 11 = .ok (.iload_n 1, 1) := by decide +kernel
theorem dX11_tell_12 : decode cX11_tell 12 = .ok (.bipush 120, 2) := by decide +kernel
theorem dX11_tell_14 : decode cX11_tell 14 = .ok (.if_icmp .eq 9, 3) := by decide +kernel
theorem dX11_tell_17 : decode cX11_tell 17 = .ok (.iload_n 1, 1) := by decide +kernel
theorem dX11_tell_18 : decode cX11_tell 18 = .ok (.bipush 102, 2) := by decide +kernel
theorem dX11_tell_20 : decode cX11_tell 20 = .ok (.if_icmp .ne 7, 3) := by decide +kernel
theorem dX11_tell_23 : decode cX11_tell 23 = .ok (.iconst 1, 1) := by decide +kernel
theorem dX11_tell_24 : decode cX11_tell 24 = .ok (.goto 4, 3) := by decide +kernel
theorem dX11_tell_27 : decode cX11_tell 27 = .ok (.iconst 0, 1) := by decide +kernel
theorem dX11_tell_28 : decode cX11_tell 28 = .ok (.invokestatic 55, 3) := by decide +kernel
theorem dX11_tell_31 : decode cX11_tell 31 = .ok (.iload_n 1, 1) := by decide +kernel
theorem dX11_tell_32 : decode cX11_tell 32 = .ok (.bipush 104, 2) := by decide +kernel
theorem dX11_tell_34 : decode cX11_tell 34 = .ok (.if_icmp .ne 14, 3) := by decide +kernel
theorem dX11_tell_37 : decode cX11_tell 37 = .ok (.iload_n 3, 1) := by decide +kernel
theorem dX11_tell_38 : decode cX11_tell 38 = .ok (.iconst 0, 1) := by decide +kernel
theorem dX11_tell_39 : decode cX11_tell 39 = .ok (.sipush 240, 3) := by decide +kernel
theorem dX11_tell_42 : decode cX11_tell 42 = .ok (.invokestatic 51, 3) := by decide +kernel
theorem dX11_tell_45 : decode cX11_tell 45 = .ok (.ifCond .eq 7, 3) := by decide +kernel
theorem dX11_tell_48 : decode cX11_tell 48 = .ok (.iconst 1, 1) := by decide +kernel
theorem dX11_tell_49 : decode cX11_tell 49 = .ok (.goto 4, 3) := by decide +kernel
theorem dX11_tell_52 : decode cX11_tell 52 = .ok (.iconst 0, 1) := by decide +kernel
theorem dX11_tell_53 : decode cX11_tell 53 = .ok (.invokestatic 55, 3) := by decide +kernel
theorem dX11_tell_56 : decode cX11_tell 56 = .ok (.iload 4, 2) := by decide +kernel
theorem dX11_tell_58 : decode cX11_tell 58 = .ok (.iconst 0, 1) := by decide +kernel
theorem dX11_tell_59 : decode cX11_tell 59 = .ok (.sipush 1999, 3) := by decide +kernel
theorem dX11_tell_62 : decode cX11_tell 62 = .ok (.invokestatic 51, 3) := by decide +kernel
theorem dX11_tell_65 : decode cX11_tell 65 = .ok (.ifCond .eq 20, 3) := by decide +kernel
theorem dX11_tell_68 : decode cX11_tell 68 = .ok (.iload 5, 2) := by decide +kernel
theorem dX11_tell_70 : decode cX11_tell 70 = .ok (.iload 4, 2) := by decide +kernel
theorem dX11_tell_72 : decode cX11_tell 72 = .ok (.sipush 1999, 3) := by decide +kernel
theorem dX11_tell_75 : decode cX11_tell 75 = .ok (.invokestatic 51, 3) := by decide +kernel
theorem dX11_tell_78 : decode cX11_tell 78 = .ok (.ifCond .eq 7, 3) := by decide +kernel
theorem dX11_tell_81 : decode cX11_tell 81 = .ok (.iconst 1, 1) := by decide +kernel
theorem dX11_tell_82 : decode cX11_tell 82 = .ok (.goto 4, 3) := by decide +kernel
theorem dX11_tell_85 : decode cX11_tell 85 = .ok (.iconst 0, 1) := by decide +kernel
theorem dX11_tell_86 : decode cX11_tell 86 = .ok (.invokestatic 55, 3) := by decide +kernel
theorem dX11_tell_89 : decode cX11_tell 89 = .ok (.aload_n 0, 1) := by decide +kernel
theorem dX11_tell_90 : decode cX11_tell 90 = .ok (.getfield 23, 3) := by decide +kernel
theorem dX11_tell_93 : decode cX11_tell 93 = .ok (.getfield 214, 3) := by decide +kernel
theorem dX11_tell_96 : decode cX11_tell 96 = .ok (.bipush 10, 2) := by decide +kernel
theorem dX11_tell_98 : decode cX11_tell 98 = .ok (.invokestatic 65, 3) := by decide +kernel
theorem dX11_tell_101 : decode cX11_tell 101 = .ok (.aload_n 0, 1) := by decide +kernel
theorem dX11_tell_102 : decode cX11_tell 102 = .ok (.getfield 23, 3) := by decide +kernel
theorem dX11_tell_105 : decode cX11_tell 105 = .ok (.getfield 217, 3) := by decide +kernel
theorem dX11_tell_108 : decode cX11_tell 108 = .ok (.aload_n 0, 1) := by decide +kernel
theorem dX11_tell_109 : decode cX11_tell 109 = .ok (.getfield 23, 3) := by decide +kernel
theorem dX11_tell_112 : decode cX11_tell 112 = .ok (.getfield 214, 3) := by decide +kernel
theorem dX11_tell_115 : decode cX11_tell 115 = .ok (.aaload, 1) := by decide +kernel
theorem dX11_tell_116 : decode cX11_tell 116 = .ok (.astore 6, 2) := by decide +kernel
theorem dX11_tell_118 : decode cX11_tell 118 = .ok (.aload 6, 2) := by decide +kernel
theorem dX11_tell_120 : decode cX11_tell 120 = .ok (.iload_n 1, 1) := by decide +kernel
theorem dX11_tell_121 : decode cX11_tell 121 = .ok (.putfield 221, 3) := by decide +kernel
theorem dX11_tell_124 : decode cX11_tell 124 = .ok (.aload 6, 2) := by decide +kernel
theorem dX11_tell_126 : decode cX11_tell 126 = .ok (.iload_n 2, 1) := by decide +kernel
theorem dX11_tell_127 : decode cX11_tell 127 = .ok (.putfield 227, 3) := by decide +kernel
theorem dX11_tell_130 : decode cX11_tell 130 = .ok (.aload 6, 2) := by decide +kernel
theorem dX11_tell_132 : decode cX11_tell 132 = .ok (.iload_n 3, 1) := by decide +kernel
theorem dX11_tell_133 : decode cX11_tell 133 = .ok (.putfield 230, 3) := by decide +kernel
theorem dX11_tell_136 : decode cX11_tell 136 = .ok (.aload 6, 2) := by decide +kernel
theorem dX11_tell_138 : decode cX11_tell 138 = .ok (.iload 4, 2) := by decide +kernel
theorem dX11_tell_140 : decode cX11_tell 140 = .ok (.putfield 233, 3) := by decide +kernel
theorem dX11_tell_143 : decode cX11_tell 143 = .ok (.aload 6, 2) := by decide +kernel
theorem dX11_tell_145 : decode cX11_tell 145 = .ok (.iload 5, 2) := by decide +kernel
theorem dX11_tell_147 : decode cX11_tell 147 = .ok (.putfield 236, 3) := by decide +kernel
theorem dX11_tell_150 : decode cX11_tell 150 = .ok (.aload_n 0, 1) := by decide +kernel
theorem dX11_tell_151 : decode cX11_tell 151 = .ok (.getfield 23, 3) := by decide +kernel
theorem dX11_tell_154 : decode cX11_tell 154 = .ok (.dup, 1) := by decide +kernel
theorem dX11_tell_155 : decode cX11_tell 155 = .ok (.getfield 214, 3) := by decide +kernel
theorem dX11_tell_158 : decode cX11_tell 158 = .ok (.iconst 1, 1) := by decide +kernel
theorem dX11_tell_159 : decode cX11_tell 159 = .ok (.iadd, 1) := by decide +kernel
theorem dX11_tell_160 : decode cX11_tell 160 = .ok (.putfield 214, 3) := by decide +kernel
theorem dX11_tell_163 : decode cX11_tell 163 = .ok (.aload_n 0, 1) := by decide +kernel
theorem dX11_tell_164 : decode cX11_tell 164 = .ok (.iconst 0, 1) := by decide +kernel
theorem dX11_tell_165 : decode cX11_tell 165 = .ok (.putfield 43, 3) := by decide +kernel
theorem dX11_tell_168 : decode cX11_tell 168 = .ok (.aload_n 0, 1) := by decide +kernel
theorem dX11_tell_169 : decode cX11_tell 169 = .ok (.getfield 23, 3) := by decide +kernel
theorem dX11_tell_172 : decode cX11_tell 172 = .ok (.getfield 214, 3) := by decide +kernel
theorem dX11_tell_175 : decode cX11_tell 175 = .ok (.ireturn, 1) := by decide +kernel
theorem dX11_state_0 : decode cX11_state 0 = .ok (.aload_n 0, 1) := by decide +kernel
theorem dX11_state_1 : decode cX11_state 1 = .ok (.iload_n 1, 1) := by decide +kernel
theorem dX11_state_2 : decode cX11_state 2 = .ok (.invokevirtual 168, 3) := by decide +kernel
theorem dX11_state_5 : decode cX11_state 5 = .ok (.aload_n 0, 1) := by decide +kernel
theorem dX11_state_6 : decode cX11_state 6 = .ok (.invokevirtual 239, 3) := by decide +kernel
theorem dX11_state_9 : decode cX11_state 9 = .ok (.getfield 243, 3) := by decide +kernel
theorem dX11_state_12 : decode cX11_state 12 = .ok (.iload_n 1, 1) := by decide +kernel
theorem dX11_state_13 : decode cX11_state 13 = .ok (.aaload, 1) := by decide +kernel
theorem dX11_state_14 : decode cX11_state 14 = .ok (.getfield 247, 3) := by decide +kernel
theorem dX11_state_17 : decode cX11_state 17 = .ok (.ireturn, 1) := by decide +kernel
theorem dX11_minuteOf_0 : decode cX11_minuteOf 0 = .ok (.aload_n 0, 1) := by decide +kernel
theorem dX11_minuteOf_1 : decode cX11_minuteOf 1 = .ok (.iload_n 1, 1) := by decide +kernel
theorem dX11_minuteOf_2 : decode cX11_minuteOf 2 = .ok (.invokevirtual 168, 3) := by decide +kernel
theorem dX11_minuteOf_5 : decode cX11_minuteOf 5 = .ok (.aload_n 0, 1) := by decide +kernel
theorem dX11_minuteOf_6 : decode cX11_minuteOf 6 = .ok (.invokevirtual 239, 3) := by decide +kernel
theorem dX11_minuteOf_9 : decode cX11_minuteOf 9 = .ok (.getfield 243, 3) := by decide +kernel
theorem dX11_minuteOf_12 : decode cX11_minuteOf 12 = .ok (.iload_n 1, 1) := by decide +kernel
theorem dX11_minuteOf_13 : decode cX11_minuteOf 13 = .ok (.aaload, 1) := by decide +kernel
theorem dX11_minuteOf_14 : decode cX11_minuteOf 14 = .ok (.astore_n 3, 1) := by decide +kernel
theorem dX11_minuteOf_15 : decode cX11_minuteOf 15 = .ok (.iload_n 2, 1) := by decide +kernel
theorem dX11_minuteOf_16 : decode cX11_minuteOf 16 = .ok (.lookupswitch 97 #[(68, 52), (69, 88), (76, 79), (80, 61), (84, 70)], 52) := by decide +kernel
theorem dX11_minuteOf_68 : decode cX11_minuteOf 68 = .ok (.aload_n 3, 1) := by decide +kernel
theorem dX11_minuteOf_69 : decode cX11_minuteOf 69 = .ok (.getfield 252, 3) := by decide +kernel
theorem dX11_minuteOf_72 : decode cX11_minuteOf 72 = .ok (.istore 4, 2) := by decide +kernel
theorem dX11_minuteOf_74 : decode cX11_minuteOf 74 = .ok (.goto 50, 3) := by decide +kernel
theorem dX11_minuteOf_77 : decode cX11_minuteOf 77 = .ok (.aload_n 3, 1) := by decide +kernel
theorem dX11_minuteOf_78 : decode cX11_minuteOf 78 = .ok (.getfield 255, 3) := by decide +kernel
theorem dX11_minuteOf_81 : decode cX11_minuteOf 81 = .ok (.istore 4, 2) := by decide +kernel
theorem dX11_minuteOf_83 : decode cX11_minuteOf 83 = .ok (.goto 41, 3) := by decide +kernel
theorem dX11_minuteOf_86 : decode cX11_minuteOf 86 = .ok (.aload_n 3, 1) := by decide +kernel
theorem dX11_minuteOf_87 : decode cX11_minuteOf 87 = .ok (.getfield 258, 3) := by decide +kernel
theorem dX11_minuteOf_90 : decode cX11_minuteOf 90 = .ok (.istore 4, 2) := by decide +kernel
theorem dX11_minuteOf_92 : decode cX11_minuteOf 92 = .ok (.goto 32, 3) := by decide +kernel
theorem dX11_minuteOf_95 : decode cX11_minuteOf 95 = .ok (.aload_n 3, 1) := by decide +kernel
theorem dX11_minuteOf_96 : decode cX11_minuteOf 96 = .ok (.getfield 261, 3) := by decide +kernel
theorem dX11_minuteOf_99 : decode cX11_minuteOf 99 = .ok (.istore 4, 2) := by decide +kernel
theorem dX11_minuteOf_101 : decode cX11_minuteOf 101 = .ok (.goto 23, 3) := by decide +kernel
theorem dX11_minuteOf_104 : decode cX11_minuteOf 104 = .ok (.aload_n 3, 1) := by decide +kernel
theorem dX11_minuteOf_105 : decode cX11_minuteOf 105 = .ok (.getfield 264, 3) := by decide +kernel
theorem dX11_minuteOf_108 : decode cX11_minuteOf 108 = .ok (.istore 4, 2) := by decide +kernel
theorem dX11_minuteOf_110 : decode cX11_minuteOf 110 = .ok (.goto 14, 3) := by decide +kernel
theorem dX11_minuteOf_113 : decode cX11_minuteOf 113 = .ok (.new 267, 3) := by decide +kernel
theorem dX11_minuteOf_116 : decode cX11_minuteOf 116 = .ok (.dup, 1) := by decide +kernel
theorem dX11_minuteOf_117 : decode cX11_minuteOf 117 = .ok (.ldc_w 269, 3) := by decide +kernel
theorem dX11_minuteOf_120 : decode cX11_minuteOf 120 = .ok (.invokespecial 271, 3) := by decide +kernel
theorem dX11_minuteOf_123 : decode cX11_minuteOf 123 = .ok (.athrow, 1) := by decide +kernel
theorem dX11_minuteOf_124 : decode cX11_minuteOf 124 = .ok (.iload 4, 2) := by decide +kernel
theorem dX11_minuteOf_126 : decode cX11_minuteOf 126 = .ok (.iconst (-1), 1) := by decide +kernel
theorem dX11_minuteOf_127 : decode cX11_minuteOf 127 = .ok (.if_icmp .eq 7, 3) := by decide +kernel
theorem dX11_minuteOf_130 : decode cX11_minuteOf 130 = .ok (.iconst 1, 1) := by decide +kernel
theorem dX11_minuteOf_131 : decode cX11_minuteOf 131 = .ok (.goto 4, 3) := by decide +kernel
theorem dX11_minuteOf_134 : decode cX11_minuteOf 134 = .ok (.iconst 0, 1) := by decide +kernel
theorem dX11_minuteOf_135 : decode cX11_minuteOf 135 = .ok (.invokestatic 274, 3) := by decide +kernel
theorem dX11_minuteOf_138 : decode cX11_minuteOf 138 = .ok (.iload 4, 2) := by decide +kernel
theorem dX11_minuteOf_140 : decode cX11_minuteOf 140 = .ok (.ireturn, 1) := by decide +kernel
theorem dX11_standOf_0 : decode cX11_standOf 0 = .ok (.aload_n 0, 1) := by decide +kernel
theorem dX11_standOf_1 : decode cX11_standOf 1 = .ok (.iload_n 1, 1) := by decide +kernel
theorem dX11_standOf_2 : decode cX11_standOf 2 = .ok (.invokevirtual 168, 3) := by decide +kernel
theorem dX11_standOf_5 : decode cX11_standOf 5 = .ok (.aload_n 0, 1) := by decide +kernel
theorem dX11_standOf_6 : decode cX11_standOf 6 = .ok (.invokevirtual 239, 3) := by decide +kernel
theorem dX11_standOf_9 : decode cX11_standOf 9 = .ok (.getfield 243, 3) := by decide +kernel
theorem dX11_standOf_12 : decode cX11_standOf 12 = .ok (.iload_n 1, 1) := by decide +kernel
theorem dX11_standOf_13 : decode cX11_standOf 13 = .ok (.aaload, 1) := by decide +kernel
theorem dX11_standOf_14 : decode cX11_standOf 14 = .ok (.astore_n 2, 1) := by decide +kernel
theorem dX11_standOf_15 : decode cX11_standOf 15 = .ok (.aload_n 2, 1) := by decide +kernel
theorem dX11_standOf_16 : decode cX11_standOf 16 = .ok (.getfield 277, 3) := by decide +kernel
theorem dX11_standOf_19 : decode cX11_standOf 19 = .ok (.iconst (-1), 1) := by decide +kernel
theorem dX11_standOf_20 : decode cX11_standOf 20 = .ok (.if_icmp .eq 7, 3) := by decide +kernel
theorem dX11_standOf_23 : decode cX11_standOf 23 = .ok (.iconst 1, 1) := by decide +kernel
theorem dX11_standOf_24 : decode cX11_standOf 24 = .ok (.goto 4, 3) := by decide +kernel
theorem dX11_standOf_27 : decode cX11_standOf 27 = .ok (.iconst 0, 1) := by decide +kernel
theorem dX11_standOf_28 : decode cX11_standOf 28 = .ok (.invokestatic 274, 3) := by decide +kernel
theorem dX11_standOf_31 : decode cX11_standOf 31 = .ok (.aload_n 2, 1) := by decide +kernel
theorem dX11_standOf_32 : decode cX11_standOf 32 = .ok (.getfield 277, 3) := by decide +kernel
theorem dX11_standOf_35 : decode cX11_standOf 35 = .ok (.ireturn, 1) := by decide +kernel
theorem dX11_cause_0 : decode cX11_cause 0 = .ok (.aload_n 0, 1) := by decide +kernel
theorem dX11_cause_1 : decode cX11_cause 1 = .ok (.iload_n 1, 1) := by decide +kernel
theorem dX11_cause_2 : decode cX11_cause 2 = .ok (.invokevirtual 168, 3) := by decide +kernel
theorem dX11_cause_5 : decode cX11_cause 5 = .ok (.aload_n 0, 1) := by decide +kernel
theorem dX11_cause_6 : decode cX11_cause 6 = .ok (.invokevirtual 239, 3) := by decide +kernel
theorem dX11_cause_9 : decode cX11_cause 9 = .ok (.getfield 243, 3) := by decide +kernel
theorem dX11_cause_12 : decode cX11_cause 12 = .ok (.iload_n 1, 1) := by decide +kernel
theorem dX11_cause_13 : decode cX11_cause 13 = .ok (.aaload, 1) := by decide +kernel
theorem dX11_cause_14 : decode cX11_cause 14 = .ok (.astore_n 2, 1) := by decide +kernel
theorem dX11_cause_15 : decode cX11_cause 15 = .ok (.aload_n 2, 1) := by decide +kernel
theorem dX11_cause_16 : decode cX11_cause 16 = .ok (.invokevirtual 280, 3) := by decide +kernel
theorem dX11_cause_19 : decode cX11_cause 19 = .ok (.invokestatic 274, 3) := by decide +kernel
theorem dX11_cause_22 : decode cX11_cause 22 = .ok (.aload_n 2, 1) := by decide +kernel
theorem dX11_cause_23 : decode cX11_cause 23 = .ok (.invokevirtual 284, 3) := by decide +kernel
theorem dX11_cause_26 : decode cX11_cause 26 = .ok (.ireturn, 1) := by decide +kernel
theorem dX11_root_0 : decode cX11_root 0 = .ok (.aload_n 0, 1) := by decide +kernel
theorem dX11_root_1 : decode cX11_root 1 = .ok (.iload_n 1, 1) := by decide +kernel
theorem dX11_root_2 : decode cX11_root 2 = .ok (.invokevirtual 168, 3) := by decide +kernel
theorem dX11_root_5 : decode cX11_root 5 = .ok (.aload_n 0, 1) := by decide +kernel
theorem dX11_root_6 : decode cX11_root 6 = .ok (.invokevirtual 239, 3) := by decide +kernel
theorem dX11_root_9 : decode cX11_root 9 = .ok (.getfield 243, 3) := by decide +kernel
theorem dX11_root_12 : decode cX11_root 12 = .ok (.iload_n 1, 1) := by decide +kernel
theorem dX11_root_13 : decode cX11_root 13 = .ok (.aaload, 1) := by decide +kernel
theorem dX11_root_14 : decode cX11_root 14 = .ok (.astore_n 2, 1) := by decide +kernel
theorem dX11_root_15 : decode cX11_root 15 = .ok (.aload_n 2, 1) := by decide +kernel
theorem dX11_root_16 : decode cX11_root 16 = .ok (.invokevirtual 280, 3) := by decide +kernel
theorem dX11_root_19 : decode cX11_root 19 = .ok (.invokestatic 274, 3) := by decide +kernel
theorem dX11_root_22 : decode cX11_root 22 = .ok (.aload_n 0, 1) := by decide +kernel
theorem dX11_root_23 : decode cX11_root 23 = .ok (.invokevirtual 239, 3) := by decide +kernel
theorem dX11_root_26 : decode cX11_root 26 = .ok (.aload_n 2, 1) := by decide +kernel
theorem dX11_root_27 : decode cX11_root 27 = .ok (.invokevirtual 288, 3) := by decide +kernel
theorem dX11_root_30 : decode cX11_root 30 = .ok (.getfield 292, 3) := by decide +kernel
theorem dX11_root_33 : decode cX11_root 33 = .ok (.ireturn, 1) := by decide +kernel
theorem dX11_lateness_0 : decode cX11_lateness 0 = .ok (.iload_n 1, 1) := by decide +kernel
theorem dX11_lateness_1 : decode cX11_lateness 1 = .ok (.aload_n 0, 1) := by decide +kernel
theorem dX11_lateness_2 : decode cX11_lateness 2 = .ok (.getfield 23, 3) := by decide +kernel
theorem dX11_lateness_5 : decode cX11_lateness 5 = .ok (.getfield 190, 3) := by decide +kernel
theorem dX11_lateness_8 : decode cX11_lateness 8 = .ok (.invokestatic 93, 3) := by decide +kernel
theorem dX11_lateness_11 : decode cX11_lateness 11 = .ok (.aload_n 0, 1) := by decide +kernel
theorem dX11_lateness_12 : decode cX11_lateness 12 = .ok (.invokevirtual 239, 3) := by decide +kernel
theorem dX11_lateness_15 : decode cX11_lateness 15 = .ok (.iload_n 1, 1) := by decide +kernel
theorem dX11_lateness_16 : decode cX11_lateness 16 = .ok (.invokevirtual 293, 3) := by decide +kernel
theorem dX11_lateness_19 : decode cX11_lateness 19 = .ok (.ireturn, 1) := by decide +kernel
theorem dX11_lastOf_0 : decode cX11_lastOf 0 = .ok (.iload_n 1, 1) := by decide +kernel
theorem dX11_lastOf_1 : decode cX11_lastOf 1 = .ok (.aload_n 0, 1) := by decide +kernel
theorem dX11_lastOf_2 : decode cX11_lastOf 2 = .ok (.getfield 23, 3) := by decide +kernel
theorem dX11_lastOf_5 : decode cX11_lastOf 5 = .ok (.getfield 190, 3) := by decide +kernel
theorem dX11_lastOf_8 : decode cX11_lastOf 8 = .ok (.invokestatic 93, 3) := by decide +kernel
theorem dX11_lastOf_11 : decode cX11_lastOf 11 = .ok (.aload_n 0, 1) := by decide +kernel
theorem dX11_lastOf_12 : decode cX11_lastOf 12 = .ok (.invokevirtual 239, 3) := by decide +kernel
theorem dX11_lastOf_15 : decode cX11_lastOf 15 = .ok (.getfield 297, 3) := by decide +kernel
theorem dX11_lastOf_18 : decode cX11_lastOf 18 = .ok (.iload_n 1, 1) := by decide +kernel
theorem dX11_lastOf_19 : decode cX11_lastOf 19 = .ok (.aaload, 1) := by decide +kernel
theorem dX11_lastOf_20 : decode cX11_lastOf 20 = .ok (.getfield 301, 3) := by decide +kernel
theorem dX11_lastOf_23 : decode cX11_lastOf 23 = .ok (.istore_n 2, 1) := by decide +kernel
theorem dX11_lastOf_24 : decode cX11_lastOf 24 = .ok (.iload_n 2, 1) := by decide +kernel
theorem dX11_lastOf_25 : decode cX11_lastOf 25 = .ok (.iconst (-1), 1) := by decide +kernel
theorem dX11_lastOf_26 : decode cX11_lastOf 26 = .ok (.if_icmp .eq 7, 3) := by decide +kernel
theorem dX11_lastOf_29 : decode cX11_lastOf 29 = .ok (.iconst 1, 1) := by decide +kernel
theorem dX11_lastOf_30 : decode cX11_lastOf 30 = .ok (.goto 4, 3) := by decide +kernel
theorem dX11_lastOf_33 : decode cX11_lastOf 33 = .ok (.iconst 0, 1) := by decide +kernel
theorem dX11_lastOf_34 : decode cX11_lastOf 34 = .ok (.invokestatic 274, 3) := by decide +kernel
theorem dX11_lastOf_37 : decode cX11_lastOf 37 = .ok (.iload_n 2, 1) := by decide +kernel
theorem dX11_lastOf_38 : decode cX11_lastOf 38 = .ok (.ireturn, 1) := by decide +kernel
theorem dX11_isStranded_0 : decode cX11_isStranded 0 = .ok (.iload_n 1, 1) := by decide +kernel
theorem dX11_isStranded_1 : decode cX11_isStranded 1 = .ok (.aload_n 0, 1) := by decide +kernel
theorem dX11_isStranded_2 : decode cX11_isStranded 2 = .ok (.getfield 23, 3) := by decide +kernel
theorem dX11_isStranded_5 : decode cX11_isStranded 5 = .ok (.getfield 190, 3) := by decide +kernel
theorem dX11_isStranded_8 : decode cX11_isStranded 8 = .ok (.invokestatic 93, 3) := by decide +kernel
theorem dX11_isStranded_11 : decode cX11_isStranded 11 = .ok (.aload_n 0, 1) := by decide +kernel
theorem dX11_isStranded_12 : decode cX11_isStranded 12 = .ok (.invokevirtual 239, 3) := by decide +kernel
theorem dX11_isStranded_15 : decode cX11_isStranded 15 = .ok (.getfield 297, 3) := by decide +kernel
theorem dX11_isStranded_18 : decode cX11_isStranded 18 = .ok (.iload_n 1, 1) := by decide +kernel
theorem dX11_isStranded_19 : decode cX11_isStranded 19 = .ok (.aaload, 1) := by decide +kernel
theorem dX11_isStranded_20 : decode cX11_isStranded 20 = .ok (.getfield 306, 3) := by decide +kernel
theorem dX11_isStranded_23 : decode cX11_isStranded 23 = .ok (.ireturn, 1) := by decide +kernel
theorem dX11_lateBags_0 : decode cX11_lateBags 0 = .ok (.aload_n 0, 1) := by decide +kernel
theorem dX11_lateBags_1 : decode cX11_lateBags 1 = .ok (.invokevirtual 239, 3) := by decide +kernel
theorem dX11_lateBags_4 : decode cX11_lateBags 4 = .ok (.getfield 309, 3) := by decide +kernel
theorem dX11_lateBags_7 : decode cX11_lateBags 7 = .ok (.ireturn, 1) := by decide +kernel
theorem dX11_missed_0 : decode cX11_missed 0 = .ok (.aload_n 0, 1) := by decide +kernel
theorem dX11_missed_1 : decode cX11_missed 1 = .ok (.invokevirtual 239, 3) := by decide +kernel
theorem dX11_missed_4 : decode cX11_missed 4 = .ok (.getfield 312, 3) := by decide +kernel
theorem dX11_missed_7 : decode cX11_missed 7 = .ok (.ireturn, 1) := by decide +kernel
theorem dX11_harm_0 : decode cX11_harm 0 = .ok (.aload_n 0, 1) := by decide +kernel
theorem dX11_harm_1 : decode cX11_harm 1 = .ok (.invokevirtual 239, 3) := by decide +kernel
theorem dX11_harm_4 : decode cX11_harm 4 = .ok (.invokevirtual 315, 3) := by decide +kernel
theorem dX11_harm_7 : decode cX11_harm 7 = .ok (.ireturn, 1) := by decide +kernel
theorem dX11_paid_0 : decode cX11_paid 0 = .ok (.aload_n 0, 1) := by decide +kernel
theorem dX11_paid_1 : decode cX11_paid 1 = .ok (.invokevirtual 239, 3) := by decide +kernel
theorem dX11_paid_4 : decode cX11_paid 4 = .ok (.invokevirtual 319, 3) := by decide +kernel
theorem dX11_paid_7 : decode cX11_paid 7 = .ok (.ireturn, 1) := by decide +kernel
theorem dX11_logLength_0 : decode cX11_logLength 0 = .ok (.aload_n 0, 1) := by decide +kernel
theorem dX11_logLength_1 : decode cX11_logLength 1 = .ok (.invokevirtual 239, 3) := by decide +kernel
theorem dX11_logLength_4 : decode cX11_logLength 4 = .ok (.getfield 322, 3) := by decide +kernel
theorem dX11_logLength_7 : decode cX11_logLength 7 = .ok (.getfield 326, 3) := by decide +kernel
theorem dX11_logLength_10 : decode cX11_logLength 10 = .ok (.ireturn, 1) := by decide +kernel
theorem dX11_logAt_0 : decode cX11_logAt 0 = .ok (.aload_n 0, 1) := by decide +kernel
theorem dX11_logAt_1 : decode cX11_logAt 1 = .ok (.invokevirtual 239, 3) := by decide +kernel
theorem dX11_logAt_4 : decode cX11_logAt 4 = .ok (.getfield 322, 3) := by decide +kernel
theorem dX11_logAt_7 : decode cX11_logAt 7 = .ok (.astore_n 2, 1) := by decide +kernel
theorem dX11_logAt_8 : decode cX11_logAt 8 = .ok (.iload_n 1, 1) := by decide +kernel
theorem dX11_logAt_9 : decode cX11_logAt 9 = .ok (.aload_n 2, 1) := by decide +kernel
theorem dX11_logAt_10 : decode cX11_logAt 10 = .ok (.getfield 326, 3) := by decide +kernel
theorem dX11_logAt_13 : decode cX11_logAt 13 = .ok (.invokestatic 93, 3) := by decide +kernel
theorem dX11_logAt_16 : decode cX11_logAt 16 = .ok (.aload_n 2, 1) := by decide +kernel
theorem dX11_logAt_17 : decode cX11_logAt 17 = .ok (.getfield 331, 3) := by decide +kernel
theorem dX11_logAt_20 : decode cX11_logAt 20 = .ok (.iload_n 1, 1) := by decide +kernel
theorem dX11_logAt_21 : decode cX11_logAt 21 = .ok (.caload, 1) := by decide +kernel
theorem dX11_logAt_22 : decode cX11_logAt 22 = .ok (.ireturn, 1) := by decide +kernel
theorem dX11_recover_0 : decode cX11_recover 0 = .ok (.aload_n 0, 1) := by decide +kernel
theorem dX11_recover_1 : decode cX11_recover 1 = .ok (.iload_n 1, 1) := by decide +kernel
theorem dX11_recover_2 : decode cX11_recover 2 = .ok (.invokevirtual 335, 3) := by decide +kernel
theorem dX11_recover_5 : decode cX11_recover 5 = .ok (.aload_n 0, 1) := by decide +kernel
theorem dX11_recover_6 : decode cX11_recover 6 = .ok (.aload_n 0, 1) := by decide +kernel
theorem dX11_recover_7 : decode cX11_recover 7 = .ok (.invokevirtual 338, 3) := by decide +kernel
theorem dX11_recover_10 : decode cX11_recover 10 = .ok (.invokevirtual 341, 3) := by decide +kernel
theorem dX11_recover_13 : decode cX11_recover 13 = .ok (.aload_n 0, 1) := by decide +kernel
theorem dX11_recover_14 : decode cX11_recover 14 = .ok (.invokevirtual 239, 3) := by decide +kernel
theorem dX11_recover_17 : decode cX11_recover 17 = .ok (.invokevirtual 315, 3) := by decide +kernel
theorem dX11_recover_20 : decode cX11_recover 20 = .ok (.ireturn, 1) := by decide +kernel
theorem dX11_isBest_0 : decode cX11_isBest 0 = .ok (.aload_n 0, 1) := by decide +kernel
theorem dX11_isBest_1 : decode cX11_isBest 1 = .ok (.iload_n 1, 1) := by decide +kernel
theorem dX11_isBest_2 : decode cX11_isBest 2 = .ok (.invokevirtual 335, 3) := by decide +kernel
theorem dX11_isBest_5 : decode cX11_isBest 5 = .ok (.aload_n 0, 1) := by decide +kernel
theorem dX11_isBest_6 : decode cX11_isBest 6 = .ok (.invokevirtual 338, 3) := by decide +kernel
theorem dX11_isBest_9 : decode cX11_isBest 9 = .ok (.istore_n 2, 1) := by decide +kernel
theorem dX11_isBest_10 : decode cX11_isBest 10 = .ok (.aload_n 0, 1) := by decide +kernel
theorem dX11_isBest_11 : decode cX11_isBest 11 = .ok (.iconst 0, 1) := by decide +kernel
theorem dX11_isBest_12 : decode cX11_isBest 12 = .ok (.invokevirtual 341, 3) := by decide +kernel
theorem dX11_isBest_15 : decode cX11_isBest 15 = .ok (.iload_n 2, 1) := by decide +kernel
theorem dX11_isBest_16 : decode cX11_isBest 16 = .ok (.ifCond .ne 7, 3) := by decide +kernel
theorem dX11_isBest_19 : decode cX11_isBest 19 = .ok (.iconst 1, 1) := by decide +kernel
theorem dX11_isBest_20 : decode cX11_isBest 20 = .ok (.goto 4, 3) := by decide +kernel
theorem dX11_isBest_23 : decode cX11_isBest 23 = .ok (.iconst 0, 1) := by decide +kernel
theorem dX11_isBest_24 : decode cX11_isBest 24 = .ok (.ireturn, 1) := by decide +kernel
theorem dX11_onTimeShare_0 : decode cX11_onTimeShare 0 = .ok (.aload_n 0, 1) := by decide +kernel
theorem dX11_onTimeShare_1 : decode cX11_onTimeShare 1 = .ok (.getfield 23, 3) := by decide +kernel
theorem dX11_onTimeShare_4 : decode cX11_onTimeShare 4 = .ok (.getfield 142, 3) := by decide +kernel
theorem dX11_onTimeShare_7 : decode cX11_onTimeShare 7 = .ok (.invokestatic 344, 3) := by decide +kernel
theorem dX11_onTimeShare_10 : decode cX11_onTimeShare 10 = .ok (.aload_n 0, 1) := by decide +kernel
theorem dX11_onTimeShare_11 : decode cX11_onTimeShare 11 = .ok (.invokevirtual 239, 3) := by decide +kernel
theorem dX11_onTimeShare_14 : decode cX11_onTimeShare 14 = .ok (.astore_n 1, 1) := by decide +kernel
theorem dX11_onTimeShare_15 : decode cX11_onTimeShare 15 = .ok (.iconst 0, 1) := by decide +kernel
theorem dX11_onTimeShare_16 : decode cX11_onTimeShare 16 = .ok (.istore_n 2, 1) := by decide +kernel
theorem dX11_onTimeShare_17 : decode cX11_onTimeShare 17 = .ok (.iconst 0, 1) := by decide +kernel
theorem dX11_onTimeShare_18 : decode cX11_onTimeShare 18 = .ok (.istore_n 3, 1) := by decide +kernel
theorem dX11_onTimeShare_19 : decode cX11_onTimeShare 19 = .ok (.iload_n 3, 1) := by decide +kernel
theorem dX11_onTimeShare_20 : decode cX11_onTimeShare 20 = .ok (.aload_n 0, 1) := by decide +kernel
theorem dX11_onTimeShare_21 : decode cX11_onTimeShare 21 = .ok (.getfield 23, 3) := by decide +kernel
theorem dX11_onTimeShare_24 : decode cX11_onTimeShare 24 = .ok (.getfield 142, 3) := by decide +kernel
theorem dX11_onTimeShare_27 : decode cX11_onTimeShare 27 = .ok (.if_icmp .ge 38, 3) := by decide +kernel
theorem dX11_onTimeShare_30 : decode cX11_onTimeShare 30 = .ok (.aload_n 1, 1) := by decide +kernel
theorem dX11_onTimeShare_31 : decode cX11_onTimeShare 31 = .ok (.getfield 243, 3) := by decide +kernel
theorem dX11_onTimeShare_34 : decode cX11_onTimeShare 34 = .ok (.iload_n 3, 1) := by decide +kernel
theorem dX11_onTimeShare_35 : decode cX11_onTimeShare 35 = .ok (.aaload, 1) := by decide +kernel
theorem dX11_onTimeShare_36 : decode cX11_onTimeShare 36 = .ok (.astore 4, 2) := by decide +kernel
theorem dX11_onTimeShare_38 : decode cX11_onTimeShare 38 = .ok (.aload 4, 2) := by decide +kernel
theorem dX11_onTimeShare_40 : decode cX11_onTimeShare 40 = .ok (.invokevirtual 280, 3) := by decide +kernel
theorem dX11_onTimeShare_43 : decode cX11_onTimeShare 43 = .ok (.ifCond .eq 16, 3) := by decide +kernel
theorem dX11_onTimeShare_46 : decode cX11_onTimeShare 46 = .ok (.aload 4, 2) := by decide +kernel
theorem dX11_onTimeShare_48 : decode cX11_onTimeShare 48 = .ok (.invokevirtual 284, 3) := by decide +kernel
theorem dX11_onTimeShare_51 : decode cX11_onTimeShare 51 = .ok (.bipush 45, 2) := by decide +kernel
theorem dX11_onTimeShare_53 : decode cX11_onTimeShare 53 = .ok (.if_icmp .ne 6, 3) := by decide +kernel
theorem dX11_onTimeShare_56 : decode cX11_onTimeShare 56 = .ok (.iinc 2 1, 3) := by decide +kernel
theorem dX11_onTimeShare_59 : decode cX11_onTimeShare 59 = .ok (.iinc 3 1, 3) := by decide +kernel
theorem dX11_onTimeShare_62 : decode cX11_onTimeShare 62 = .ok (.goto (-43), 3) := by decide +kernel
theorem dX11_onTimeShare_65 : decode cX11_onTimeShare 65 = .ok (.iload_n 2, 1) := by decide +kernel
theorem dX11_onTimeShare_66 : decode cX11_onTimeShare 66 = .ok (.i2f, 1) := by decide +kernel
theorem dX11_onTimeShare_67 : decode cX11_onTimeShare 67 = .ok (.aload_n 0, 1) := by decide +kernel
theorem dX11_onTimeShare_68 : decode cX11_onTimeShare 68 = .ok (.getfield 23, 3) := by decide +kernel
theorem dX11_onTimeShare_71 : decode cX11_onTimeShare 71 = .ok (.getfield 142, 3) := by decide +kernel
theorem dX11_onTimeShare_74 : decode cX11_onTimeShare 74 = .ok (.i2f, 1) := by decide +kernel
theorem dX11_onTimeShare_75 : decode cX11_onTimeShare 75 = .ok (.fdiv, 1) := by decide +kernel
theorem dX11_onTimeShare_76 : decode cX11_onTimeShare 76 = .ok (.freturn, 1) := by decide +kernel
theorem dX11_meanLateness_0 : decode cX11_meanLateness 0 = .ok (.aload_n 0, 1) := by decide +kernel
theorem dX11_meanLateness_1 : decode cX11_meanLateness 1 = .ok (.getfield 23, 3) := by decide +kernel
theorem dX11_meanLateness_4 : decode cX11_meanLateness 4 = .ok (.getfield 190, 3) := by decide +kernel
theorem dX11_meanLateness_7 : decode cX11_meanLateness 7 = .ok (.invokestatic 344, 3) := by decide +kernel
theorem dX11_meanLateness_10 : decode cX11_meanLateness 10 = .ok (.iconst 0, 1) := by decide +kernel
theorem dX11_meanLateness_11 : decode cX11_meanLateness 11 = .ok (.istore_n 1, 1) := by decide +kernel
theorem dX11_meanLateness_12 : decode cX11_meanLateness 12 = .ok (.iconst 0, 1) := by decide +kernel
theorem dX11_meanLateness_13 : decode cX11_meanLateness 13 = .ok (.istore_n 2, 1) := by decide +kernel
theorem dX11_meanLateness_14 : decode cX11_meanLateness 14 = .ok (.iload_n 2, 1) := by decide +kernel
theorem dX11_meanLateness_15 : decode cX11_meanLateness 15 = .ok (.aload_n 0, 1) := by decide +kernel
theorem dX11_meanLateness_16 : decode cX11_meanLateness 16 = .ok (.getfield 23, 3) := by decide +kernel
theorem dX11_meanLateness_19 : decode cX11_meanLateness 19 = .ok (.getfield 190, 3) := by decide +kernel
theorem dX11_meanLateness_22 : decode cX11_meanLateness 22 = .ok (.if_icmp .ge 24, 3) := by decide +kernel
theorem dX11_meanLateness_25 : decode cX11_meanLateness 25 = .ok (.iload_n 1, 1) := by decide +kernel
theorem dX11_meanLateness_26 : decode cX11_meanLateness 26 = .ok (.aload_n 0, 1) := by decide +kernel
theorem dX11_meanLateness_27 : decode cX11_meanLateness 27 = .ok (.getfield 23, 3) := by decide +kernel
theorem dX11_meanLateness_30 : decode cX11_meanLateness 30 = .ok (.getfield 193, 3) := by decide +kernel
theorem dX11_meanLateness_33 : decode cX11_meanLateness 33 = .ok (.iload_n 2, 1) := by decide +kernel
theorem dX11_meanLateness_34 : decode cX11_meanLateness 34 = .ok (.aaload, 1) := by decide +kernel
theorem dX11_meanLateness_35 : decode cX11_meanLateness 35 = .ok (.getfield 205, 3) := by decide +kernel
theorem dX11_meanLateness_38 : decode cX11_meanLateness 38 = .ok (.iadd, 1) := by decide +kernel
theorem dX11_meanLateness_39 : decode cX11_meanLateness 39 = .ok (.istore_n 1, 1) := by decide +kernel
theorem dX11_meanLateness_40 : decode cX11_meanLateness 40 = .ok (.iinc 2 1, 3) := by decide +kernel
theorem dX11_meanLateness_43 : decode cX11_meanLateness 43 = .ok (.goto (-29), 3) := by decide +kernel
theorem dX11_meanLateness_46 : decode cX11_meanLateness 46 = .ok (.iload_n 1, 1) := by decide +kernel
theorem dX11_meanLateness_47 : decode cX11_meanLateness 47 = .ok (.invokestatic 344, 3) := by decide +kernel
theorem dX11_meanLateness_50 : decode cX11_meanLateness 50 = .ok (.aload_n 0, 1) := by decide +kernel
theorem dX11_meanLateness_51 : decode cX11_meanLateness 51 = .ok (.invokevirtual 239, 3) := by decide +kernel
theorem dX11_meanLateness_54 : decode cX11_meanLateness 54 = .ok (.invokevirtual 347, 3) := by decide +kernel
theorem dX11_meanLateness_57 : decode cX11_meanLateness 57 = .ok (.i2d, 1) := by decide +kernel
theorem dX11_meanLateness_58 : decode cX11_meanLateness 58 = .ok (.iload_n 1, 1) := by decide +kernel
theorem dX11_meanLateness_59 : decode cX11_meanLateness 59 = .ok (.i2d, 1) := by decide +kernel
theorem dX11_meanLateness_60 : decode cX11_meanLateness 60 = .ok (.ddiv, 1) := by decide +kernel
theorem dX11_meanLateness_61 : decode cX11_meanLateness 61 = .ok (.dreturn, 1) := by decide +kernel
theorem dX11_isSound_0 : decode cX11_isSound 0 = .ok (.aload_n 0, 1) := by decide +kernel
theorem dX11_isSound_1 : decode cX11_isSound 1 = .ok (.invokevirtual 239, 3) := by decide +kernel
theorem dX11_isSound_4 : decode cX11_isSound 4 = .ok (.astore_n 1, 1) := by decide +kernel
theorem dX11_isSound_5 : decode cX11_isSound 5 = .ok (.aload_n 0, 1) := by decide +kernel
theorem dX11_isSound_6 : decode cX11_isSound 6 = .ok (.getfield 36, 3) := by decide +kernel
theorem dX11_isSound_9 : decode cX11_isSound 9 = .ok (.invokevirtual 350, 3) := by decide +kernel
theorem dX11_isSound_12 : decode cX11_isSound 12 = .ok (.aload_n 1, 1) := by decide +kernel
theorem dX11_isSound_13 : decode cX11_isSound 13 = .ok (.invokevirtual 353, 3) := by decide +kernel
theorem dX11_isSound_16 : decode cX11_isSound 16 = .ok (.ifCond .eq 24, 3) := by decide +kernel
theorem dX11_isSound_19 : decode cX11_isSound 19 = .ok (.aload_n 1, 1) := by decide +kernel
theorem dX11_isSound_20 : decode cX11_isSound 20 = .ok (.getfield 322, 3) := by decide +kernel
theorem dX11_isSound_23 : decode cX11_isSound 23 = .ok (.aload_n 0, 1) := by decide +kernel
theorem dX11_isSound_24 : decode cX11_isSound 24 = .ok (.getfield 36, 3) := by decide +kernel
theorem dX11_isSound_27 : decode cX11_isSound 27 = .ok (.getfield 322, 3) := by decide +kernel
theorem dX11_isSound_30 : decode cX11_isSound 30 = .ok (.invokevirtual 356, 3) := by decide +kernel
theorem dX11_isSound_33 : decode cX11_isSound 33 = .ok (.ifCond .eq 7, 3) := by decide +kernel
theorem dX11_isSound_36 : decode cX11_isSound 36 = .ok (.iconst 1, 1) := by decide +kernel
theorem dX11_isSound_37 : decode cX11_isSound 37 = .ok (.goto 4, 3) := by decide +kernel
theorem dX11_isSound_40 : decode cX11_isSound 40 = .ok (.iconst 0, 1) := by decide +kernel
theorem dX11_isSound_41 : decode cX11_isSound 41 = .ok (.ireturn, 1) := by decide +kernel
theorem dX11_isWithin_0 : decode cX11_isWithin 0 = .ok (.iload_n 0, 1) := by decide +kernel
theorem dX11_isWithin_1 : decode cX11_isWithin 1 = .ok (.iload_n 1, 1) := by decide +kernel
theorem dX11_isWithin_2 : decode cX11_isWithin 2 = .ok (.if_icmp .lt 12, 3) := by decide +kernel
theorem dX11_isWithin_5 : decode cX11_isWithin 5 = .ok (.iload_n 0, 1) := by decide +kernel
theorem dX11_isWithin_6 : decode cX11_isWithin 6 = .ok (.iload_n 2, 1) := by decide +kernel
theorem dX11_isWithin_7 : decode cX11_isWithin 7 = .ok (.if_icmp .gt 7, 3) := by decide +kernel
theorem dX11_isWithin_10 : decode cX11_isWithin 10 = .ok (.iconst 1, 1) := by decide +kernel
theorem dX11_isWithin_11 : decode cX11_isWithin 11 = .ok (.goto 4, 3) := by decide +kernel
theorem dX11_isWithin_14 : decode cX11_isWithin 14 = .ok (.iconst 0, 1) := by decide +kernel
theorem dX11_isWithin_15 : decode cX11_isWithin 15 = .ok (.ireturn, 1) := by decide +kernel
theorem dX11_requireIndex_0 : decode cX11_requireIndex 0 = .ok (.iload_n 0, 1) := by decide +kernel
theorem dX11_requireIndex_1 : decode cX11_requireIndex 1 = .ok (.ifCond .lt 8, 3) := by decide +kernel
theorem dX11_requireIndex_4 : decode cX11_requireIndex 4 = .ok (.iload_n 0, 1) := by decide +kernel
theorem dX11_requireIndex_5 : decode cX11_requireIndex 5 = .ok (.iload_n 1, 1) := by decide +kernel
theorem dX11_requireIndex_6 : decode cX11_requireIndex 6 = .ok (.if_icmp .lt 14, 3) := by decide +kernel
theorem dX11_requireIndex_9 : decode cX11_requireIndex 9 = .ok (.new 360, 3) := by decide +kernel
theorem dX11_requireIndex_12 : decode cX11_requireIndex 12 = .ok (.dup, 1) := by decide +kernel
theorem dX11_requireIndex_13 : decode cX11_requireIndex 13 = .ok (.ldc_w 362, 3) := by decide +kernel
theorem dX11_requireIndex_16 : decode cX11_requireIndex 16 = .ok (.invokespecial 364, 3) := by decide +kernel
theorem dX11_requireIndex_19 : decode cX11_requireIndex 19 = .ok (.athrow, 1) := by decide +kernel
theorem dX11_requireIndex_20 : decode cX11_requireIndex 20 = .ok (.return_, 1) := by decide +kernel
theorem dX11_requireAirport_0 : decode cX11_requireAirport 0 = .ok (.iload_n 0, 1) := by decide +kernel
theorem dX11_requireAirport_1 : decode cX11_requireAirport 1 = .ok (.iconst 4, 1) := by decide +kernel
theorem dX11_requireAirport_2 : decode cX11_requireAirport 2 = .ok (.invokestatic 93, 3) := by decide +kernel
theorem dX11_requireAirport_5 : decode cX11_requireAirport 5 = .ok (.return_, 1) := by decide +kernel
theorem dX11_requireFlight_0 : decode cX11_requireFlight 0 = .ok (.iload_n 1, 1) := by decide +kernel
theorem dX11_requireFlight_1 : decode cX11_requireFlight 1 = .ok (.aload_n 0, 1) := by decide +kernel
theorem dX11_requireFlight_2 : decode cX11_requireFlight 2 = .ok (.getfield 23, 3) := by decide +kernel
theorem dX11_requireFlight_5 : decode cX11_requireFlight 5 = .ok (.getfield 142, 3) := by decide +kernel
theorem dX11_requireFlight_8 : decode cX11_requireFlight 8 = .ok (.invokestatic 93, 3) := by decide +kernel
theorem dX11_requireFlight_11 : decode cX11_requireFlight 11 = .ok (.return_, 1) := by decide +kernel
theorem dX11_require_0 : decode cX11_require 0 = .ok (.iload_n 0, 1) := by decide +kernel
theorem dX11_require_1 : decode cX11_require 1 = .ok (.ifCond .ne 14, 3) := by decide +kernel
theorem dX11_require_4 : decode cX11_require 4 = .ok (.new 267, 3) := by decide +kernel
theorem dX11_require_7 : decode cX11_require 7 = .ok (.dup, 1) := by decide +kernel
theorem dX11_require_8 : decode cX11_require 8 = .ok (.ldc_w 365, 3) := by decide +kernel
theorem dX11_require_11 : decode cX11_require 11 = .ok (.invokespecial 271, 3) := by decide +kernel
theorem dX11_require_14 : decode cX11_require 14 = .ok (.athrow, 1) := by decide +kernel
theorem dX11_require_15 : decode cX11_require 15 = .ok (.return_, 1) := by decide +kernel
theorem dX11_requireSupported_0 : decode cX11_requireSupported 0 = .ok (.iload_n 0, 1) := by decide +kernel
theorem dX11_requireSupported_1 : decode cX11_requireSupported 1 = .ok (.ifCond .ne 14, 3) := by decide +kernel
theorem dX11_requireSupported_4 : decode cX11_requireSupported 4 = .ok (.new 367, 3) := by decide +kernel
theorem dX11_requireSupported_7 : decode cX11_requireSupported 7 = .ok (.dup, 1) := by decide +kernel
theorem dX11_requireSupported_8 : decode cX11_requireSupported 8 = .ok (.ldc_w 369, 3) := by decide +kernel
theorem dX11_requireSupported_11 : decode cX11_requireSupported 11 = .ok (.invokespecial 371, 3) := by decide +kernel
theorem dX11_requireSupported_14 : decode cX11_requireSupported 14 = .ok (.athrow, 1) := by decide +kernel
theorem dX11_requireSupported_15 : decode cX11_requireSupported 15 = .ok (.return_, 1) := by decide +kernel
theorem dX11_requireRoom_0 : decode cX11_requireRoom 0 = .ok (.iload_n 0, 1) := by decide +kernel
theorem dX11_requireRoom_1 : decode cX11_requireRoom 1 = .ok (.iload_n 1, 1) := by decide +kernel
theorem dX11_requireRoom_2 : decode cX11_requireRoom 2 = .ok (.if_icmp .lt 14, 3) := by decide +kernel
theorem dX11_requireRoom_5 : decode cX11_requireRoom 5 = .ok (.new 372, 3) := by decide +kernel
theorem dX11_requireRoom_8 : decode cX11_requireRoom 8 = .ok (.dup, 1) := by decide +kernel
theorem dX11_requireRoom_9 : decode cX11_requireRoom 9 = .ok (.ldc_w 374, 3) := by decide +kernel
theorem dX11_requireRoom_12 : decode cX11_requireRoom 12 = .ok (.invokespecial 376, 3) := by decide +kernel
theorem dX11_requireRoom_15 : decode cX11_requireRoom 15 = .ok (.athrow, 1) := by decide +kernel
theorem dX11_requireRoom_16 : decode cX11_requireRoom 16 = .ok (.return_, 1) := by decide +kernel
theorem dX11_requireSome_0 : decode cX11_requireSome 0 = .ok (.iload_n 0, 1) := by decide +kernel
theorem dX11_requireSome_1 : decode cX11_requireSome 1 = .ok (.iconst 1, 1) := by decide +kernel
theorem dX11_requireSome_2 : decode cX11_requireSome 2 = .ok (.if_icmp .ge 14, 3) := by decide +kernel
theorem dX11_requireSome_5 : decode cX11_requireSome 5 = .ok (.new 382, 3) := by decide +kernel
theorem dX11_requireSome_8 : decode cX11_requireSome 8 = .ok (.dup, 1) := by decide +kernel
theorem dX11_requireSome_9 : decode cX11_requireSome 9 = .ok (.ldc_w 384, 3) := by decide +kernel
theorem dX11_requireSome_12 : decode cX11_requireSome 12 = .ok (.invokespecial 386, 3) := by decide +kernel
theorem dX11_requireSome_15 : decode cX11_requireSome 15 = .ok (.athrow, 1) := by decide +kernel
theorem dX11_requireSome_16 : decode cX11_requireSome 16 = .ok (.return_, 1) := by decide +kernel
theorem dX11_today_0 : decode cX11_today 0 = .ok (.aload_n 0, 1) := by decide +kernel
theorem dX11_today_1 : decode cX11_today 1 = .ok (.getfield 43, 3) := by decide +kernel
theorem dX11_today_4 : decode cX11_today 4 = .ok (.ifCond .ne 15, 3) := by decide +kernel
theorem dX11_today_7 : decode cX11_today 7 = .ok (.aload_n 0, 1) := by decide +kernel
theorem dX11_today_8 : decode cX11_today 8 = .ok (.getfield 32, 3) := by decide +kernel
theorem dX11_today_11 : decode cX11_today 11 = .ok (.invokevirtual 350, 3) := by decide +kernel
theorem dX11_today_14 : decode cX11_today 14 = .ok (.aload_n 0, 1) := by decide +kernel
theorem dX11_today_15 : decode cX11_today 15 = .ok (.iconst 1, 1) := by decide +kernel
theorem dX11_today_16 : decode cX11_today 16 = .ok (.putfield 43, 3) := by decide +kernel
theorem dX11_today_19 : decode cX11_today 19 = .ok (.aload_n 0, 1) := by decide +kernel
theorem dX11_today_20 : decode cX11_today 20 = .ok (.getfield 32, 3) := by decide +kernel
theorem dX11_today_23 : decode cX11_today 23 = .ok (.areturn, 1) := by decide +kernel
theorem dX11_choose_0 : decode cX11_choose 0 = .ok (.iload_n 1, 1) := by decide +kernel
theorem dX11_choose_1 : decode cX11_choose 1 = .ok (.ifCond .lt 19, 3) := by decide +kernel
theorem dX11_choose_4 : decode cX11_choose 4 = .ok (.iload_n 1, 1) := by decide +kernel
theorem dX11_choose_5 : decode cX11_choose 5 = .ok (.aload_n 0, 1) := by decide +kernel
theorem dX11_choose_6 : decode cX11_choose 6 = .ok (.getfield 23, 3) := by decide +kernel
theorem dX11_choose_9 : decode cX11_choose 9 = .ok (.getfield 142, 3) := by decide +kernel
theorem dX11_choose_12 : decode cX11_choose 12 = .ok (.ishr, 1) := by decide +kernel
theorem dX11_choose_13 : decode cX11_choose 13 = .ok (.ifCond .ne 7, 3) := by decide +kernel
theorem dX11_choose_16 : decode cX11_choose 16 = .ok (.iconst 1, 1) := by decide +kernel
theorem dX11_choose_17 : decode cX11_choose 17 = .ok (.goto 4, 3) := by decide +kernel
theorem dX11_choose_20 : decode cX11_choose 20 = .ok (.iconst 0, 1) := by decide +kernel
theorem dX11_choose_21 : decode cX11_choose 21 = .ok (.invokestatic 55, 3) := by decide +kernel
theorem dX11_choose_24 : decode cX11_choose 24 = .ok (.iload_n 1, 1) := by decide +kernel
theorem dX11_choose_25 : decode cX11_choose 25 = .ok (.invokestatic 387, 3) := by decide +kernel
theorem dX11_choose_28 : decode cX11_choose 28 = .ok (.iconst 1, 1) := by decide +kernel
theorem dX11_choose_29 : decode cX11_choose 29 = .ok (.iconst 3, 1) := by decide +kernel
theorem dX11_choose_30 : decode cX11_choose 30 = .ok (.invokestatic 51, 3) := by decide +kernel
theorem dX11_choose_33 : decode cX11_choose 33 = .ok (.invokestatic 171, 3) := by decide +kernel
theorem dX11_choose_36 : decode cX11_choose 36 = .ok (.aload_n 0, 1) := by decide +kernel
theorem dX11_choose_37 : decode cX11_choose 37 = .ok (.iconst 0, 1) := by decide +kernel
theorem dX11_choose_38 : decode cX11_choose 38 = .ok (.putfield 39, 3) := by decide +kernel
theorem dX11_choose_41 : decode cX11_choose 41 = .ok (.iconst 0, 1) := by decide +kernel
theorem dX11_choose_42 : decode cX11_choose 42 = .ok (.istore_n 2, 1) := by decide +kernel
theorem dX11_choose_43 : decode cX11_choose 43 = .ok (.iload_n 2, 1) := by decide +kernel
theorem dX11_choose_44 : decode cX11_choose 44 = .ok (.aload_n 0, 1) := by decide +kernel
theorem dX11_choose_45 : decode cX11_choose 45 = .ok (.getfield 23, 3) := by decide +kernel
theorem dX11_choose_48 : decode cX11_choose 48 = .ok (.getfield 142, 3) := by decide +kernel
theorem dX11_choose_51 : decode cX11_choose 51 = .ok (.if_icmp .ge 88, 3) := by decide +kernel
theorem dX11_choose_54 : decode cX11_choose 54 = .ok (.iload_n 1, 1) := by decide +kernel
theorem dX11_choose_55 : decode cX11_choose 55 = .ok (.iload_n 2, 1) := by decide +kernel
theorem dX11_choose_56 : decode cX11_choose 56 = .ok (.ishr, 1) := by decide +kernel
theorem dX11_choose_57 : decode cX11_choose 57 = .ok (.iconst 1, 1) := by decide +kernel
theorem dX11_choose_58 : decode cX11_choose 58 = .ok (.iand, 1) := by decide +kernel
theorem dX11_choose_59 : decode cX11_choose 59 = .ok (.iconst 1, 1) := by decide +kernel
theorem dX11_choose_60 : decode cX11_choose 60 = .ok (.if_icmp .ne 73, 3) := by decide +kernel
theorem dX11_choose_63 : decode cX11_choose 63 = .ok (.aload_n 0, 1) := by decide +kernel
theorem dX11_choose_64 : decode cX11_choose 64 = .ok (.getfield 39, 3) := by decide +kernel
theorem dX11_choose_67 : decode cX11_choose 67 = .ok (.iconst 3, 1) := by decide +kernel
theorem dX11_choose_68 : decode cX11_choose 68 = .ok (.if_icmp .ge 65, 3) := by decide +kernel
theorem dX11_choose_71 : decode cX11_choose 71 = .ok (.aload_n 0, 1) := by decide +kernel
theorem dX11_choose_72 : decode cX11_choose 72 = .ok (.getfield 9, 3) := by decide +kernel
theorem dX11_choose_75 : decode cX11_choose 75 = .ok (.aload_n 0, 1) := by decide +kernel
theorem dX11_choose_76 : decode cX11_choose 76 = .ok (.getfield 39, 3) := by decide +kernel
theorem dX11_choose_79 : decode cX11_choose 79 = .ok (.iload_n 2, 1) := by decide +kernel
theorem dX11_choose_80 : decode cX11_choose 80 = .ok (.iastore, 1) := by decide +kernel
theorem dX11_choose_81 : decode cX11_choose 81 = .ok (.aload_n 0, 1) := by decide +kernel
theorem dX11_choose_82 : decode cX11_choose 82 = .ok (.getfield 13, 3) := by decide +kernel
theorem dX11_choose_85 : decode cX11_choose 85 = .ok (.aload_n 0, 1) := by decide +kernel
theorem dX11_choose_86 : decode cX11_choose 86 = .ok (.getfield 39, 3) := by decide +kernel
theorem dX11_choose_89 : decode cX11_choose 89 = .ok (.aload_n 0, 1) := by decide +kernel
theorem dX11_choose_90 : decode cX11_choose 90 = .ok (.getfield 23, 3) := by decide +kernel
theorem dX11_choose_93 : decode cX11_choose 93 = .ok (.getfield 145, 3) := by decide +kernel
theorem dX11_choose_96 : decode cX11_choose 96 = .ok (.iload_n 2, 1) := by decide +kernel
theorem dX11_choose_97 : decode cX11_choose 97 = .ok (.aaload, 1) := by decide +kernel
theorem dX11_choose_98 : decode cX11_choose 98 = .ok (.getfield 177, 3) := by decide +kernel
theorem dX11_choose_101 : decode cX11_choose 101 = .ok (.iastore, 1) := by decide +kernel
theorem dX11_choose_102 : decode cX11_choose 102 = .ok (.aload_n 0, 1) := by decide +kernel
theorem dX11_choose_103 : decode cX11_choose 103 = .ok (.getfield 16, 3) := by decide +kernel
theorem dX11_choose_106 : decode cX11_choose 106 = .ok (.aload_n 0, 1) := by decide +kernel
theorem dX11_choose_107 : decode cX11_choose 107 = .ok (.getfield 39, 3) := by decide +kernel
theorem dX11_choose_110 : decode cX11_choose 110 = .ok (.aload_n 0, 1) := by decide +kernel
theorem dX11_choose_111 : decode cX11_choose 111 = .ok (.getfield 23, 3) := by decide +kernel
theorem dX11_choose_114 : decode cX11_choose 114 = .ok (.getfield 145, 3) := by decide +kernel
theorem dX11_choose_117 : decode cX11_choose 117 = .ok (.iload_n 2, 1) := by decide +kernel
theorem dX11_choose_118 : decode cX11_choose 118 = .ok (.aaload, 1) := by decide +kernel
theorem dX11_choose_119 : decode cX11_choose 119 = .ok (.getfield 187, 3) := by decide +kernel
theorem dX11_choose_122 : decode cX11_choose 122 = .ok (.bastore, 1) := by decide +kernel
theorem dX11_choose_123 : decode cX11_choose 123 = .ok (.aload_n 0, 1) := by decide +kernel
theorem dX11_choose_124 : decode cX11_choose 124 = .ok (.dup, 1) := by decide +kernel
theorem dX11_choose_125 : decode cX11_choose 125 = .ok (.getfield 39, 3) := by decide +kernel
theorem dX11_choose_128 : decode cX11_choose 128 = .ok (.iconst 1, 1) := by decide +kernel
theorem dX11_choose_129 : decode cX11_choose 129 = .ok (.iadd, 1) := by decide +kernel
theorem dX11_choose_130 : decode cX11_choose 130 = .ok (.putfield 39, 3) := by decide +kernel
theorem dX11_choose_133 : decode cX11_choose 133 = .ok (.iinc 2 1, 3) := by decide +kernel
theorem dX11_choose_136 : decode cX11_choose 136 = .ok (.goto (-93), 3) := by decide +kernel
theorem dX11_choose_139 : decode cX11_choose 139 = .ok (.return_, 1) := by decide +kernel
theorem dX4_run_0 : decode cX4_run 0 = .ok (.aload_n 0, 1) := by decide +kernel
theorem dX4_run_1 : decode cX4_run 1 = .ok (.invokevirtual 65, 3) := by decide +kernel
theorem dX4_run_4 : decode cX4_run 4 = .ok (.aload_n 0, 1) := by decide +kernel
theorem dX4_run_5 : decode cX4_run 5 = .ok (.invokevirtual 68, 3) := by decide +kernel
theorem dX4_run_8 : decode cX4_run 8 = .ok (.iconst 0, 1) := by decide +kernel
theorem dX4_run_9 : decode cX4_run 9 = .ok (.istore_n 1, 1) := by decide +kernel
theorem dX4_run_10 : decode cX4_run 10 = .ok (.iconst 0, 1) := by decide +kernel
theorem dX4_run_11 : decode cX4_run 11 = .ok (.istore_n 2, 1) := by decide +kernel
theorem dX4_run_12 : decode cX4_run 12 = .ok (.iload_n 2, 1) := by decide +kernel
theorem dX4_run_13 : decode cX4_run 13 = .ok (.sipush 2000, 3) := by decide +kernel
theorem dX4_run_16 : decode cX4_run 16 = .ok (.if_icmp .ge 52, 3) := by decide +kernel
theorem dX4_run_19 : decode cX4_run 19 = .ok (.iload_n 2, 1) := by decide +kernel
theorem dX4_run_20 : decode cX4_run 20 = .ok (.iload_n 1, 1) := by decide +kernel
theorem dX4_run_21 : decode cX4_run 21 = .ok (.if_icmp .ne 41, 3) := by decide +kernel
theorem dX4_run_24 : decode cX4_run 24 = .ok (.aload_n 0, 1) := by decide +kernel
theorem dX4_run_25 : decode cX4_run 25 = .ok (.iload_n 2, 1) := by decide +kernel
theorem dX4_run_26 : decode cX4_run 26 = .ok (.putfield 71, 3) := by decide +kernel
theorem dX4_run_29 : decode cX4_run 29 = .ok (.aload_n 0, 1) := by decide +kernel
theorem dX4_run_30 : decode cX4_run 30 = .ok (.invokevirtual 75, 3) := by decide +kernel
theorem dX4_run_33 : decode cX4_run 33 = .ok (.aload_n 0, 1) := by decide +kernel
theorem dX4_run_34 : decode cX4_run 34 = .ok (.invokevirtual 78, 3) := by decide +kernel
theorem dX4_run_37 : decode cX4_run 37 = .ok (.aload_n 0, 1) := by decide +kernel
theorem dX4_run_38 : decode cX4_run 38 = .ok (.invokevirtual 81, 3) := by decide +kernel
theorem dX4_run_41 : decode cX4_run 41 = .ok (.aload_n 0, 1) := by decide +kernel
theorem dX4_run_42 : decode cX4_run 42 = .ok (.invokevirtual 84, 3) := by decide +kernel
theorem dX4_run_45 : decode cX4_run 45 = .ok (.aload_n 0, 1) := by decide +kernel
theorem dX4_run_46 : decode cX4_run 46 = .ok (.invokevirtual 87, 3) := by decide +kernel
theorem dX4_run_49 : decode cX4_run 49 = .ok (.aload_n 0, 1) := by decide +kernel
theorem dX4_run_50 : decode cX4_run 50 = .ok (.invokevirtual 90, 3) := by decide +kernel
theorem dX4_run_53 : decode cX4_run 53 = .ok (.aload_n 0, 1) := by decide +kernel
theorem dX4_run_54 : decode cX4_run 54 = .ok (.invokevirtual 93, 3) := by decide +kernel
theorem dX4_run_57 : decode cX4_run 57 = .ok (.aload_n 0, 1) := by decide +kernel
theorem dX4_run_58 : decode cX4_run 58 = .ok (.invokevirtual 96, 3) := by decide +kernel
theorem dX4_run_61 : decode cX4_run 61 = .ok (.istore_n 1, 1) := by decide +kernel
theorem dX4_run_62 : decode cX4_run 62 = .ok (.iinc 2 1, 3) := by decide +kernel
theorem dX4_run_65 : decode cX4_run 65 = .ok (.goto (-53), 3) := by decide +kernel
theorem dX4_run_68 : decode cX4_run 68 = .ok (.return_, 1) := by decide +kernel
theorem dX4_startAnew_0 : decode cX4_startAnew 0 = .ok (.aload_n 0, 1) := by decide +kernel
theorem dX4_startAnew_1 : decode cX4_startAnew 1 = .ok (.getfield 46, 3) := by decide +kernel
theorem dX4_startAnew_4 : decode cX4_startAnew 4 = .ok (.iconst 0, 1) := by decide +kernel
theorem dX4_startAnew_5 : decode cX4_startAnew 5 = .ok (.putfield 100, 3) := by decide +kernel
theorem dX4_startAnew_8 : decode cX4_startAnew 8 = .ok (.aload_n 0, 1) := by decide +kernel
theorem dX4_startAnew_9 : decode cX4_startAnew 9 = .ok (.iconst 0, 1) := by decide +kernel
theorem dX4_startAnew_10 : decode cX4_startAnew 10 = .ok (.putfield 71, 3) := by decide +kernel
theorem dX4_startAnew_13 : decode cX4_startAnew 13 = .ok (.aload_n 0, 1) := by decide +kernel
theorem dX4_startAnew_14 : decode cX4_startAnew 14 = .ok (.iconst (-1), 1) := by decide +kernel
theorem dX4_startAnew_15 : decode cX4_startAnew 15 = .ok (.putfield 103, 3) := by decide +kernel
theorem dX4_startAnew_18 : decode cX4_startAnew 18 = .ok (.aload_n 0, 1) := by decide +kernel
theorem dX4_startAnew_19 : decode cX4_startAnew 19 = .ok (.iconst 0, 1) := by decide +kernel
theorem dX4_startAnew_20 : decode cX4_startAnew 20 = .ok (.putfield 106, 3) := by decide +kernel
theorem dX4_startAnew_23 : decode cX4_startAnew 23 = .ok (.aload_n 0, 1) := by decide +kernel
theorem dX4_startAnew_24 : decode cX4_startAnew 24 = .ok (.iconst 0, 1) := by decide +kernel
theorem dX4_startAnew_25 : decode cX4_startAnew 25 = .ok (.putfield 109, 3) := by decide +kernel
theorem dX4_startAnew_28 : decode cX4_startAnew 28 = .ok (.aload_n 0, 1) := by decide +kernel
theorem dX4_startAnew_29 : decode cX4_startAnew 29 = .ok (.iconst 0, 1) := by decide +kernel
theorem dX4_startAnew_30 : decode cX4_startAnew 30 = .ok (.putfield 112, 3) := by decide +kernel
theorem dX4_startAnew_33 : decode cX4_startAnew 33 = .ok (.aload_n 0, 1) := by decide +kernel
theorem dX4_startAnew_34 : decode cX4_startAnew 34 = .ok (.iconst 1, 1) := by decide +kernel
theorem dX4_startAnew_35 : decode cX4_startAnew 35 = .ok (.putfield 115, 3) := by decide +kernel
theorem dX4_startAnew_38 : decode cX4_startAnew 38 = .ok (.iconst 0, 1) := by decide +kernel
theorem dX4_startAnew_39 : decode cX4_startAnew 39 = .ok (.istore_n 1, 1) := by decide +kernel
theorem dX4_startAnew_40 : decode cX4_startAnew 40 = .ok (.iload_n 1, 1) := by decide +kernel
theorem dX4_startAnew_41 : decode cX4_startAnew 41 = .ok (.aload_n 0, 1) := by decide +kernel
theorem dX4_startAnew_42 : decode cX4_startAnew 42 = .ok (.getfield 50, 3) := by decide +kernel
theorem dX4_startAnew_45 : decode cX4_startAnew 45 = .ok (.getfield 119, 3) := by decide +kernel
theorem dX4_startAnew_48 : decode cX4_startAnew 48 = .ok (.if_icmp .ge 18, 3) := by decide +kernel
theorem dX4_startAnew_51 : decode cX4_startAnew 51 = .ok (.aload_n 0, 1) := by decide +kernel
theorem dX4_startAnew_52 : decode cX4_startAnew 52 = .ok (.getfield 11, 3) := by decide +kernel
theorem dX4_startAnew_55 : decode cX4_startAnew 55 = .ok (.iload_n 1, 1) := by decide +kernel
theorem dX4_startAnew_56 : decode cX4_startAnew 56 = .ok (.aaload, 1) := by decide +kernel
theorem dX4_startAnew_57 : decode cX4_startAnew 57 = .ok (.invokevirtual 122, 3) := by decide +kernel
theorem dX4_startAnew_60 : decode cX4_startAnew 60 = .ok (.iinc 1 1, 3) := by decide +kernel
theorem dX4_startAnew_63 : decode cX4_startAnew 63 = .ok (.goto (-23), 3) := by decide +kernel
theorem dX4_startAnew_66 : decode cX4_startAnew 66 = .ok (.iconst 0, 1) := by decide +kernel
theorem dX4_startAnew_67 : decode cX4_startAnew 67 = .ok (.istore_n 1, 1) := by decide +kernel
theorem dX4_startAnew_68 : decode cX4_startAnew 68 = .ok (.iload_n 1, 1) := by decide +kernel
theorem dX4_startAnew_69 : decode cX4_startAnew 69 = .ok (.aload_n 0, 1) := by decide +kernel
theorem dX4_startAnew_70 : decode cX4_startAnew 70 = .ok (.getfield 50, 3) := by decide +kernel
theorem dX4_startAnew_73 : decode cX4_startAnew 73 = .ok (.getfield 125, 3) := by decide +kernel
theorem dX4_startAnew_76 : decode cX4_startAnew 76 = .ok (.if_icmp .ge 93, 3) := by decide +kernel
theorem dX4_startAnew_79 : decode cX4_startAnew 79 = .ok (.aload_n 0, 1) := by decide +kernel
theorem dX4_startAnew_80 : decode cX4_startAnew 80 = .ok (.getfield 22, 3) := by decide +kernel
theorem dX4_startAnew_83 : decode cX4_startAnew 83 = .ok (.iload_n 1, 1) := by decide +kernel
theorem dX4_startAnew_84 : decode cX4_startAnew 84 = .ok (.aaload, 1) := by decide +kernel
theorem dX4_startAnew_85 : decode cX4_startAnew 85 = .ok (.aload_n 0, 1) := by decide +kernel
theorem dX4_startAnew_86 : decode cX4_startAnew 86 = .ok (.getfield 50, 3) := by decide +kernel
theorem dX4_startAnew_89 : decode cX4_startAnew 89 = .ok (.getfield 128, 3) := by decide +kernel
theorem dX4_startAnew_92 : decode cX4_startAnew 92 = .ok (.iload_n 1, 1) := by decide +kernel
theorem dX4_startAnew_93 : decode cX4_startAnew 93 = .ok (.aaload, 1) := by decide +kernel
theorem dX4_startAnew_94 : decode cX4_startAnew 94 = .ok (.getfield 132, 3) := by decide +kernel
theorem dX4_startAnew_97 : decode cX4_startAnew 97 = .ok (.invokevirtual 137, 3) := by decide +kernel
theorem dX4_startAnew_100 : decode cX4_startAnew 100 = .ok (.aload_n 0, 1) := by decide +kernel
theorem dX4_startAnew_101 : decode cX4_startAnew 101 = .ok (.getfield 22, 3) := by decide +kernel
theorem dX4_startAnew_104 : decode cX4_startAnew 104 = .ok (.iload_n 1, 1) := by decide +kernel
theorem dX4_startAnew_105 : decode cX4_startAnew 105 = .ok (.aaload, 1) := by decide +kernel
theorem dX4_startAnew_106 : decode cX4_startAnew 106 = .ok (.aload_n 0, 1) := by decide +kernel
theorem dX4_startAnew_107 : decode cX4_startAnew 107 = .ok (.getfield 50, 3) := by decide +kernel
theorem dX4_startAnew_110 : decode cX4_startAnew 110 = .ok (.getfield 128, 3) := by decide +kernel
theorem dX4_startAnew_113 : decode cX4_startAnew 113 = .ok (.iload_n 1, 1) := by decide +kernel
theorem dX4_startAnew_114 : decode cX4_startAnew 114 = .ok (.aaload, 1) := by decide +kernel
theorem dX4_startAnew_115 : decode cX4_startAnew 115 = .ok (.getfield 140, 3) := by decide +kernel
theorem dX4_startAnew_118 : decode cX4_startAnew 118 = .ok (.putfield 143, 3) := by decide +kernel
theorem dX4_startAnew_121 : decode cX4_startAnew 121 = .ok (.aload_n 0, 1) := by decide +kernel
theorem dX4_startAnew_122 : decode cX4_startAnew 122 = .ok (.getfield 22, 3) := by decide +kernel
theorem dX4_startAnew_125 : decode cX4_startAnew 125 = .ok (.iload_n 1, 1) := by decide +kernel
theorem dX4_startAnew_126 : decode cX4_startAnew 126 = .ok (.aaload, 1) := by decide +kernel
theorem dX4_startAnew_127 : decode cX4_startAnew 127 = .ok (.aload_n 0, 1) := by decide +kernel
theorem dX4_startAnew_128 : decode cX4_startAnew 128 = .ok (.getfield 50, 3) := by decide +kernel
theorem dX4_startAnew_131 : decode cX4_startAnew 131 = .ok (.getfield 128, 3) := by decide +kernel
theorem dX4_startAnew_134 : decode cX4_startAnew 134 = .ok (.iload_n 1, 1) := by decide +kernel
theorem dX4_startAnew_135 : decode cX4_startAnew 135 = .ok (.aaload, 1) := by decide +kernel
theorem dX4_startAnew_136 : decode cX4_startAnew 136 = .ok (.getfield 144, 3) := by decide +kernel
theorem dX4_startAnew_139 : decode cX4_startAnew 139 = .ok (.putfield 147, 3) := by decide +kernel
theorem dX4_startAnew_142 : decode cX4_startAnew 142 = .ok (.aload_n 0, 1) := by decide +kernel
theorem dX4_startAnew_143 : decode cX4_startAnew 143 = .ok (.getfield 22, 3) := by decide +kernel
theorem dX4_startAnew_146 : decode cX4_startAnew 146 = .ok (.iload_n 1, 1) := by decide +kernel
theorem dX4_startAnew_147 : decode cX4_startAnew 147 = .ok (.aaload, 1) := by decide +kernel
theorem dX4_startAnew_148 : decode cX4_startAnew 148 = .ok (.aload_n 0, 1) := by decide +kernel
theorem dX4_startAnew_149 : decode cX4_startAnew 149 = .ok (.getfield 50, 3) := by decide +kernel
theorem dX4_startAnew_152 : decode cX4_startAnew 152 = .ok (.getfield 128, 3) := by decide +kernel
theorem dX4_startAnew_155 : decode cX4_startAnew 155 = .ok (.iload_n 1, 1) := by decide +kernel
theorem dX4_startAnew_156 : decode cX4_startAnew 156 = .ok (.aaload, 1) := by decide +kernel
theorem dX4_startAnew_157 : decode cX4_startAnew 157 = .ok (.getfield 148, 3) := by decide +kernel
theorem dX4_startAnew_160 : decode cX4_startAnew 160 = .ok (.putfield 151, 3) := by decide +kernel
theorem dX4_startAnew_163 : decode cX4_startAnew 163 = .ok (.iinc 1 1, 3) := by decide +kernel
theorem dX4_startAnew_166 : decode cX4_startAnew 166 = .ok (.goto (-98), 3) := by decide +kernel
theorem dX4_startAnew_169 : decode cX4_startAnew 169 = .ok (.iconst 0, 1) := by decide +kernel
theorem dX4_startAnew_170 : decode cX4_startAnew 170 = .ok (.istore_n 1, 1) := by decide +kernel
theorem dX4_startAnew_171 : decode cX4_startAnew 171 = .ok (.iload_n 1, 1) := by decide +kernel
theorem dX4_startAnew_172 : decode cX4_startAnew 172 = .ok (.aload_n 0, 1) := by decide +kernel
theorem dX4_startAnew_173 : decode cX4_startAnew 173 = .ok (.getfield 50, 3) := by decide +kernel
theorem dX4_startAnew_176 : decode cX4_startAnew 176 = .ok (.getfield 152, 3) := by decide +kernel
theorem dX4_startAnew_179 : decode cX4_startAnew 179 = .ok (.if_icmp .ge 30, 3) := by decide +kernel
theorem dX4_startAnew_182 : decode cX4_startAnew 182 = .ok (.aload_n 0, 1) := by decide +kernel
theorem dX4_startAnew_183 : decode cX4_startAnew 183 = .ok (.getfield 26, 3) := by decide +kernel
theorem dX4_startAnew_186 : decode cX4_startAnew 186 = .ok (.iload_n 1, 1) := by decide +kernel
theorem dX4_startAnew_187 : decode cX4_startAnew 187 = .ok (.aaload, 1) := by decide +kernel
theorem dX4_startAnew_188 : decode cX4_startAnew 188 = .ok (.aload_n 0, 1) := by decide +kernel
theorem dX4_startAnew_189 : decode cX4_startAnew 189 = .ok (.getfield 50, 3) := by decide +kernel
theorem dX4_startAnew_192 : decode cX4_startAnew 192 = .ok (.getfield 155, 3) := by decide +kernel
theorem dX4_startAnew_195 : decode cX4_startAnew 195 = .ok (.iload_n 1, 1) := by decide +kernel
theorem dX4_startAnew_196 : decode cX4_startAnew 196 = .ok (.aaload, 1) := by decide +kernel
theorem dX4_startAnew_197 : decode cX4_startAnew 197 = .ok (.getfield 158, 3) := by decide +kernel
theorem dX4_startAnew_200 : decode cX4_startAnew 200 = .ok (.invokevirtual 137, 3) := by decide +kernel
theorem dX4_startAnew_203 : decode cX4_startAnew 203 = .ok (.iinc 1 1, 3) := by decide +kernel
theorem dX4_startAnew_206 : decode cX4_startAnew 206 = .ok (.goto (-35), 3) := by decide +kernel
theorem dX4_startAnew_209 : decode cX4_startAnew 209 = .ok (.iconst 0, 1) := by decide +kernel
theorem dX4_startAnew_210 : decode cX4_startAnew 210 = .ok (.istore_n 1, 1) := by decide +kernel
theorem dX4_startAnew_211 : decode cX4_startAnew 211 = .ok (.iload_n 1, 1) := by decide +kernel
theorem dX4_startAnew_212 : decode cX4_startAnew 212 = .ok (.aload_n 0, 1) := by decide +kernel
theorem dX4_startAnew_213 : decode cX4_startAnew 213 = .ok (.getfield 50, 3) := by decide +kernel
theorem dX4_startAnew_216 : decode cX4_startAnew 216 = .ok (.getfield 161, 3) := by decide +kernel
theorem dX4_startAnew_219 : decode cX4_startAnew 219 = .ok (.if_icmp .ge 27, 3) := by decide +kernel
theorem dX4_startAnew_222 : decode cX4_startAnew 222 = .ok (.aload_n 0, 1) := by decide +kernel
theorem dX4_startAnew_223 : decode cX4_startAnew 223 = .ok (.getfield 31, 3) := by decide +kernel
theorem dX4_startAnew_226 : decode cX4_startAnew 226 = .ok (.iload_n 1, 1) := by decide +kernel
theorem dX4_startAnew_227 : decode cX4_startAnew 227 = .ok (.aaload, 1) := by decide +kernel
theorem dX4_startAnew_228 : decode cX4_startAnew 228 = .ok (.aload_n 0, 1) := by decide +kernel
theorem dX4_startAnew_229 : decode cX4_startAnew 229 = .ok (.getfield 50, 3) := by decide +kernel
theorem dX4_startAnew_232 : decode cX4_startAnew 232 = .ok (.getfield 164, 3) := by decide +kernel
theorem dX4_startAnew_235 : decode cX4_startAnew 235 = .ok (.iload_n 1, 1) := by decide +kernel
theorem dX4_startAnew_236 : decode cX4_startAnew 236 = .ok (.aaload, 1) := by decide +kernel
theorem dX4_startAnew_237 : decode cX4_startAnew 237 = .ok (.invokevirtual 168, 3) := by decide +kernel
theorem dX4_startAnew_240 : decode cX4_startAnew 240 = .ok (.iinc 1 1, 3) := by decide +kernel
theorem dX4_startAnew_243 : decode cX4_startAnew 243 = .ok (.goto (-32), 3) := by decide +kernel
theorem dX4_startAnew_246 : decode cX4_startAnew 246 = .ok (.iconst 0, 1) := by decide +kernel
theorem dX4_startAnew_247 : decode cX4_startAnew 247 = .ok (.istore_n 1, 1) := by decide +kernel
theorem dX4_startAnew_248 : decode cX4_startAnew 248 = .ok (.iload_n 1, 1) := by decide +kernel
theorem dX4_startAnew_249 : decode cX4_startAnew 249 = .ok (.aload_n 0, 1) := by decide +kernel
theorem dX4_startAnew_250 : decode cX4_startAnew 250 = .ok (.getfield 50, 3) := by decide +kernel
theorem dX4_startAnew_253 : decode cX4_startAnew 253 = .ok (.getfield 171, 3) := by decide +kernel
theorem dX4_startAnew_256 : decode cX4_startAnew 256 = .ok (.if_icmp .ge 16, 3) := by decide +kernel
theorem dX4_startAnew_259 : decode cX4_startAnew 259 = .ok (.aload_n 0, 1) := by decide +kernel
theorem dX4_startAnew_260 : decode cX4_startAnew 260 = .ok (.getfield 39, 3) := by decide +kernel
theorem dX4_startAnew_263 : decode cX4_startAnew 263 = .ok (.iload_n 1, 1) := by decide +kernel
theorem dX4_startAnew_264 : decode cX4_startAnew 264 = .ok (.iconst 0, 1) := by decide +kernel
theorem dX4_startAnew_265 : decode cX4_startAnew 265 = .ok (.bastore, 1) := by decide +kernel
theorem dX4_startAnew_266 : decode cX4_startAnew 266 = .ok (.iinc 1 1, 3) := by decide +kernel
theorem dX4_startAnew_269 : decode cX4_startAnew 269 = .ok (.goto (-21), 3) := by decide +kernel
theorem dX4_startAnew_272 : decode cX4_startAnew 272 = .ok (.aload_n 0, 1) := by decide +kernel
theorem dX4_startAnew_273 : decode cX4_startAnew 273 = .ok (.getfield 35, 3) := by decide +kernel
theorem dX4_startAnew_276 : decode cX4_startAnew 276 = .ok (.iconst (-1), 1) := by decide +kernel
theorem dX4_startAnew_277 : decode cX4_startAnew 277 = .ok (.invokestatic 174, 3) := by decide +kernel
theorem dX4_startAnew_280 : decode cX4_startAnew 280 = .ok (.return_, 1) := by decide +kernel
theorem dX4_dropToldAhead_0 : decode cX4_dropToldAhead 0 = .ok (.iconst 0, 1) := by decide +kernel
theorem dX4_dropToldAhead_1 : decode cX4_dropToldAhead 1 = .ok (.istore_n 1, 1) := by decide +kernel
theorem dX4_dropToldAhead_2 : decode cX4_dropToldAhead 2 = .ok (.iload_n 1, 1) := by decide +kernel
theorem dX4_dropToldAhead_3 : decode cX4_dropToldAhead 3 = .ok (.aload_n 0, 1) := by decide +kernel
theorem dX4_dropToldAhead_4 : decode cX4_dropToldAhead 4 = .ok (.getfield 50, 3) := by decide +kernel
theorem dX4_dropToldAhead_7 : decode cX4_dropToldAhead 7 = .ok (.getfield 119, 3) := by decide +kernel
theorem dX4_dropToldAhead_10 : decode cX4_dropToldAhead 10 = .ok (.if_icmp .ge 36, 3) := by decide +kernel
theorem dX4_dropToldAhead_13 : decode cX4_dropToldAhead 13 = .ok (.aload_n 0, 1) := by decide +kernel
theorem dX4_dropToldAhead_14 : decode cX4_dropToldAhead 14 = .ok (.getfield 50, 3) := by decide +kernel
theorem dX4_dropToldAhead_17 : decode cX4_dropToldAhead 17 = .ok (.getfield 54, 3) := by decide +kernel
theorem dX4_dropToldAhead_20 : decode cX4_dropToldAhead 20 = .ok (.iload_n 1, 1) := by decide +kernel
theorem dX4_dropToldAhead_21 : decode cX4_dropToldAhead 21 = .ok (.aaload, 1) := by decide +kernel
theorem dX4_dropToldAhead_22 : decode cX4_dropToldAhead 22 = .ok (.getfield 180, 3) := by decide +kernel
theorem dX4_dropToldAhead_25 : decode cX4_dropToldAhead 25 = .ok (.ifCond .eq 15, 3) := by decide +kernel
theorem dX4_dropToldAhead_28 : decode cX4_dropToldAhead 28 = .ok (.aload_n 0, 1) := by decide +kernel
theorem dX4_dropToldAhead_29 : decode cX4_dropToldAhead 29 = .ok (.aload_n 0, 1) := by decide +kernel
theorem dX4_dropToldAhead_30 : decode cX4_dropToldAhead 30 = .ok (.getfield 11, 3) := by decide +kernel
theorem dX4_dropToldAhead_33 : decode cX4_dropToldAhead 33 = .ok (.iload_n 1, 1) := by decide +kernel
theorem dX4_dropToldAhead_34 : decode cX4_dropToldAhead 34 = .ok (.aaload, 1) := by decide +kernel
theorem dX4_dropToldAhead_35 : decode cX4_dropToldAhead 35 = .ok (.bipush 120, 2) := by decide +kernel
theorem dX4_dropToldAhead_37 : decode cX4_dropToldAhead 37 = .ok (.invokevirtual 185, 3) := by decide +kernel
theorem dX4_dropToldAhead_40 : decode cX4_dropToldAhead 40 = .ok (.iinc 1 1, 3) := by decide +kernel
theorem dX4_dropToldAhead_43 : decode cX4_dropToldAhead 43 = .ok (.goto (-41), 3) := by decide +kernel
theorem dX4_dropToldAhead_46 : decode cX4_dropToldAhead 46 = .ok (.return_, 1) := by decide +kernel
theorem dX4_readMessages_0 : decode cX4_readMessages 0 = .ok (.iconst 0, 1) := by decide +kernel
theorem dX4_readMessages_1 : decode cX4_readMessages 1 = .ok (.istore_n 1, 1) := by decide +kernel
theorem dX4_readMessages_2 : decode cX4_readMessages 2 = .ok (.iload_n 1, 1) := by decide +kernel
theorem dX4_readMessages_3 : decode cX4_readMessages 3 = .ok (.aload_n 0, 1) := by decide +kernel
theorem dX4_readMessages_4 : decode cX4_readMessages 4 = .ok (.getfield 50, 3) := by decide +kernel
theorem dX4_readMessages_7 : decode cX4_readMessages 7 = .ok (.getfield 171, 3) := by decide +kernel
theorem dX4_readMessages_10 : decode cX4_readMessages 10 = .ok (.if_icmp .ge 89, 3) := by decide +kernel
theorem dX4_readMessages_13 : decode cX4_readMessages 13 = .ok (.aload_n 0, 1) := by decide +kernel
theorem dX4_readMessages_14 : decode cX4_readMessages 14 = .ok (.getfield 50, 3) := by decide +kernel
theorem dX4_readMessages_17 : decode cX4_readMessages 17 = .ok (.getfield 205, 3) := by decide +kernel
theorem dX4_readMessages_20 : decode cX4_readMessages 20 = .ok (.iload_n 1, 1) := by decide +kernel
theorem dX4_readMessages_21 : decode cX4_readMessages 21 = .ok (.aaload, 1) := by decide +kernel
theorem dX4_readMessages_22 : decode cX4_readMessages 22 = .ok (.astore_n 2, 1) := by decide +kernel
theorem dX4_readMessages_23 : decode cX4_readMessages 23 = .ok (.aload_n 2, 1) := by decide +kernel
theorem dX4_readMessages_24 : decode cX4_readMessages 24 = .ok (.getfield 209, 3) := by decide +kernel
theorem dX4_readMessages_27 : decode cX4_readMessages 27 = .ok (.aload_n 0, 1) := by decide +kernel
theorem dX4_readMessages_28 : decode cX4_readMessages 28 = .ok (.getfield 71, 3) := by decide +kernel
theorem dX4_readMessages_31 : decode cX4_readMessages 31 = .ok (.if_icmp .ne 62, 3) := by decide +kernel
theorem dX4_readMessages_34 : decode cX4_readMessages 34 = .ok (.aload_n 0, 1) := by decide +kernel
theorem dX4_readMessages_35 : decode cX4_readMessages 35 = .ok (.aload_n 2, 1) := by decide +kernel
theorem dX4_readMessages_36 : decode cX4_readMessages 36 = .ok (.invokevirtual 221, 3) := by decide +kernel
theorem dX4_readMessages_39 : decode cX4_readMessages 39 = .ok (.ifCond .ne 54, 3) := by decide +kernel
theorem dX4_readMessages_42 : decode cX4_readMessages 42 = .ok (.aload_n 0, 1) := by decide +kernel
theorem dX4_readMessages_43 : decode cX4_readMessages 43 = .ok (.getfield 39, 3) := by decide +kernel
theorem dX4_readMessages_46 : decode cX4_readMessages 46 = .ok (.iload_n 1, 1) := by decide +kernel
theorem dX4_readMessages_47 : decode cX4_readMessages 47 = .ok (.iconst 1, 1) := by decide +kernel
theorem dX4_readMessages_48 : decode cX4_readMessages 48 = .ok (.bastore, 1) := by decide +kernel
theorem dX4_readMessages_49 : decode cX4_readMessages 49 = .ok (.aload_n 0, 1) := by decide +kernel
theorem dX4_readMessages_50 : decode cX4_readMessages 50 = .ok (.getfield 11, 3) := by decide +kernel
theorem dX4_readMessages_53 : decode cX4_readMessages 53 = .ok (.aload_n 2, 1) := by decide +kernel
theorem dX4_readMessages_54 : decode cX4_readMessages 54 = .ok (.getfield 225, 3) := by decide +kernel
theorem dX4_readMessages_57 : decode cX4_readMessages 57 = .ok (.aaload, 1) := by decide +kernel
theorem dX4_readMessages_58 : decode cX4_readMessages 58 = .ok (.astore_n 3, 1) := by decide +kernel
theorem dX4_readMessages_59 : decode cX4_readMessages 59 = .ok (.aload_n 2, 1) := by decide +kernel
theorem dX4_readMessages_60 : decode cX4_readMessages 60 = .ok (.getfield 228, 3) := by decide +kernel
theorem dX4_readMessages_63 : decode cX4_readMessages 63 = .ok (.bipush 120, 2) := by decide +kernel
theorem dX4_readMessages_65 : decode cX4_readMessages 65 = .ok (.if_icmp .eq 12, 3) := by decide +kernel
theorem dX4_readMessages_68 : decode cX4_readMessages 68 = .ok (.aload_n 0, 1) := by decide +kernel
theorem dX4_readMessages_69 : decode cX4_readMessages 69 = .ok (.aload_n 2, 1) := by decide +kernel
theorem dX4_readMessages_70 : decode cX4_readMessages 70 = .ok (.aload_n 3, 1) := by decide +kernel
theorem dX4_readMessages_71 : decode cX4_readMessages 71 = .ok (.invokevirtual 231, 3) := by decide +kernel
theorem dX4_readMessages_74 : decode cX4_readMessages 74 = .ok (.goto 19, 3) := by decide +kernel
theorem dX4_readMessages_77 : decode cX4_readMessages 77 = .ok (.aload_n 3, 1) := by decide +kernel
theorem dX4_readMessages_78 : decode cX4_readMessages 78 = .ok (.getfield 217, 3) := by decide +kernel
theorem dX4_readMessages_81 : decode cX4_readMessages 81 = .ok (.bipush 115, 2) := by decide +kernel
theorem dX4_readMessages_83 : decode cX4_readMessages 83 = .ok (.if_icmp .ne 10, 3) := by decide +kernel
theorem dX4_readMessages_86 : decode cX4_readMessages 86 = .ok (.aload_n 0, 1) := by decide +kernel
theorem dX4_readMessages_87 : decode cX4_readMessages 87 = .ok (.aload_n 3, 1) := by decide +kernel
theorem dX4_readMessages_88 : decode cX4_readMessages 88 = .ok (.bipush 120, 2) := by decide +kernel
theorem dX4_readMessages_90 : decode cX4_readMessages 90 = .ok (.invokevirtual 185, 3) := by decide +kernel
theorem dX4_readMessages_93 : decode cX4_readMessages 93 = .ok (.iinc 1 1, 3) := by decide +kernel
theorem dX4_readMessages_96 : decode cX4_readMessages 96 = .ok (.goto (-94), 3) := by decide +kernel
theorem dX4_readMessages_99 : decode cX4_readMessages 99 = .ok (.return_, 1) := by decide +kernel
theorem dX4_land_0 : decode cX4_land 0 = .ok (.aload_n 0, 1) := by decide +kernel
theorem dX4_land_1 : decode cX4_land 1 = .ok (.bipush 97, 2) := by decide +kernel
theorem dX4_land_3 : decode cX4_land 3 = .ok (.invokevirtual 270, 3) := by decide +kernel
theorem dX4_land_6 : decode cX4_land 6 = .ok (.iconst 0, 1) := by decide +kernel
theorem dX4_land_7 : decode cX4_land 7 = .ok (.istore_n 1, 1) := by decide +kernel
theorem dX4_land_8 : decode cX4_land 8 = .ok (.iload_n 1, 1) := by decide +kernel
theorem dX4_land_9 : decode cX4_land 9 = .ok (.aload_n 0, 1) := by decide +kernel
theorem dX4_land_10 : decode cX4_land 10 = .ok (.getfield 214, 3) := by decide +kernel
theorem dX4_land_13 : decode cX4_land 13 = .ok (.if_icmp .ge 88, 3) := by decide +kernel
theorem dX4_land_16 : decode cX4_land 16 = .ok (.aload_n 0, 1) := by decide +kernel
theorem dX4_land_17 : decode cX4_land 17 = .ok (.getfield 17, 3) := by decide +kernel
theorem dX4_land_20 : decode cX4_land 20 = .ok (.iload_n 1, 1) := by decide +kernel
theorem dX4_land_21 : decode cX4_land 21 = .ok (.aaload, 1) := by decide +kernel
theorem dX4_land_22 : decode cX4_land 22 = .ok (.astore_n 2, 1) := by decide +kernel
theorem dX4_land_23 : decode cX4_land 23 = .ok (.aload_n 2, 1) := by decide +kernel
theorem dX4_land_24 : decode cX4_land 24 = .ok (.getfield 238, 3) := by decide +kernel
theorem dX4_land_27 : decode cX4_land 27 = .ok (.getfield 243, 3) := by decide +kernel
theorem dX4_land_30 : decode cX4_land 30 = .ok (.ifCond .eq 11, 3) := by decide +kernel
theorem dX4_land_33 : decode cX4_land 33 = .ok (.aload_n 0, 1) := by decide +kernel
theorem dX4_land_34 : decode cX4_land 34 = .ok (.aload_n 2, 1) := by decide +kernel
theorem dX4_land_35 : decode cX4_land 35 = .ok (.invokevirtual 274, 3) := by decide +kernel
theorem dX4_land_38 : decode cX4_land 38 = .ok (.goto 57, 3) := by decide +kernel
theorem dX4_land_41 : decode cX4_land 41 = .ok (.aload_n 0, 1) := by decide +kernel
theorem dX4_land_42 : decode cX4_land 42 = .ok (.aload_n 2, 1) := by decide +kernel
theorem dX4_land_43 : decode cX4_land 43 = .ok (.invokevirtual 278, 3) := by decide +kernel
theorem dX4_land_46 : decode cX4_land 46 = .ok (.ifCond .eq 49, 3) := by decide +kernel
theorem dX4_land_49 : decode cX4_land 49 = .ok (.aload_n 0, 1) := by decide +kernel
theorem dX4_land_50 : decode cX4_land 50 = .ok (.aload_n 2, 1) := by decide +kernel
theorem dX4_land_51 : decode cX4_land 51 = .ok (.invokevirtual 281, 3) := by decide +kernel
theorem dX4_land_54 : decode cX4_land 54 = .ok (.aload_n 2, 1) := by decide +kernel
theorem dX4_land_55 : decode cX4_land 55 = .ok (.bipush 119, 2) := by decide +kernel
theorem dX4_land_57 : decode cX4_land 57 = .ok (.putfield 217, 3) := by decide +kernel
theorem dX4_land_60 : decode cX4_land 60 = .ok (.aload_n 2, 1) := by decide +kernel
theorem dX4_land_61 : decode cX4_land 61 = .ok (.aload_n 0, 1) := by decide +kernel
theorem dX4_land_62 : decode cX4_land 62 = .ok (.getfield 71, 3) := by decide +kernel
theorem dX4_land_65 : decode cX4_land 65 = .ok (.putfield 284, 3) := by decide +kernel
theorem dX4_land_68 : decode cX4_land 68 = .ok (.aload_n 2, 1) := by decide +kernel
theorem dX4_land_69 : decode cX4_land 69 = .ok (.aload_n 0, 1) := by decide +kernel
theorem dX4_land_70 : decode cX4_land 70 = .ok (.getfield 71, 3) := by decide +kernel
theorem dX4_land_73 : decode cX4_land 73 = .ok (.iconst 5, 1) := by decide +kernel
theorem dX4_land_74 : decode cX4_land 74 = .ok (.iadd, 1) := by decide +kernel
theorem dX4_land_75 : decode cX4_land 75 = .ok (.putfield 193, 3) := by decide +kernel
theorem dX4_land_78 : decode cX4_land 78 = .ok (.aload_n 0, 1) := by decide +kernel
theorem dX4_land_79 : decode cX4_land 79 = .ok (.getfield 46, 3) := by decide +kernel
theorem dX4_land_82 : decode cX4_land 82 = .ok (.aload_n 0, 1) := by decide +kernel
theorem dX4_land_83 : decode cX4_land 83 = .ok (.getfield 71, 3) := by decide +kernel
theorem dX4_land_86 : decode cX4_land 86 = .ok (.bipush 76, 2) := by decide +kernel
theorem dX4_land_88 : decode cX4_land 88 = .ok (.aload_n 2, 1) := by decide +kernel
theorem dX4_land_89 : decode cX4_land 89 = .ok (.getfield 258, 3) := by decide +kernel
theorem dX4_land_92 : decode cX4_land 92 = .ok (.invokevirtual 259, 3) := by decide +kernel
theorem dX4_land_95 : decode cX4_land 95 = .ok (.iinc 1 1, 3) := by decide +kernel
theorem dX4_land_98 : decode cX4_land 98 = .ok (.goto (-90), 3) := by decide +kernel
theorem dX4_land_101 : decode cX4_land 101 = .ok (.return_, 1) := by decide +kernel
theorem dX4_park_0 : decode cX4_park 0 = .ok (.aload_n 0, 1) := by decide +kernel
theorem dX4_park_1 : decode cX4_park 1 = .ok (.bipush 119, 2) := by decide +kernel
theorem dX4_park_3 : decode cX4_park 3 = .ok (.invokevirtual 270, 3) := by decide +kernel
theorem dX4_park_6 : decode cX4_park 6 = .ok (.iconst 0, 1) := by decide +kernel
theorem dX4_park_7 : decode cX4_park 7 = .ok (.istore_n 1, 1) := by decide +kernel
theorem dX4_park_8 : decode cX4_park 8 = .ok (.iload_n 1, 1) := by decide +kernel
theorem dX4_park_9 : decode cX4_park 9 = .ok (.aload_n 0, 1) := by decide +kernel
theorem dX4_park_10 : decode cX4_park 10 = .ok (.getfield 214, 3) := by decide +kernel
theorem dX4_park_13 : decode cX4_park 13 = .ok (.if_icmp .ge 72, 3) := by decide +kernel
theorem dX4_park_16 : decode cX4_park 16 = .ok (.aload_n 0, 1) := by decide +kernel
theorem dX4_park_17 : decode cX4_park 17 = .ok (.getfield 17, 3) := by decide +kernel
theorem dX4_park_20 : decode cX4_park 20 = .ok (.iload_n 1, 1) := by decide +kernel
theorem dX4_park_21 : decode cX4_park 21 = .ok (.aaload, 1) := by decide +kernel
theorem dX4_park_22 : decode cX4_park 22 = .ok (.astore_n 2, 1) := by decide +kernel
theorem dX4_park_23 : decode cX4_park 23 = .ok (.aload_n 0, 1) := by decide +kernel
theorem dX4_park_24 : decode cX4_park 24 = .ok (.aload_n 2, 1) := by decide +kernel
theorem dX4_park_25 : decode cX4_park 25 = .ok (.invokevirtual 315, 3) := by decide +kernel
theorem dX4_park_28 : decode cX4_park 28 = .ok (.istore_n 3, 1) := by decide +kernel
theorem dX4_park_29 : decode cX4_park 29 = .ok (.iload_n 3, 1) := by decide +kernel
theorem dX4_park_30 : decode cX4_park 30 = .ok (.iconst (-1), 1) := by decide +kernel
theorem dX4_park_31 : decode cX4_park 31 = .ok (.if_icmp .eq 29, 3) := by decide +kernel
theorem dX4_park_34 : decode cX4_park 34 = .ok (.aload_n 2, 1) := by decide +kernel
theorem dX4_park_35 : decode cX4_park 35 = .ok (.iload_n 3, 1) := by decide +kernel
theorem dX4_park_36 : decode cX4_park 36 = .ok (.putfield 318, 3) := by decide +kernel
theorem dX4_park_39 : decode cX4_park 39 = .ok (.aload_n 0, 1) := by decide +kernel
theorem dX4_park_40 : decode cX4_park 40 = .ok (.getfield 35, 3) := by decide +kernel
theorem dX4_park_43 : decode cX4_park 43 = .ok (.iload_n 3, 1) := by decide +kernel
theorem dX4_park_44 : decode cX4_park 44 = .ok (.aload_n 2, 1) := by decide +kernel
theorem dX4_park_45 : decode cX4_park 45 = .ok (.getfield 238, 3) := by decide +kernel
theorem dX4_park_48 : decode cX4_park 48 = .ok (.getfield 241, 3) := by decide +kernel
theorem dX4_park_51 : decode cX4_park 51 = .ok (.iastore, 1) := by decide +kernel
theorem dX4_park_52 : decode cX4_park 52 = .ok (.aload_n 0, 1) := by decide +kernel
theorem dX4_park_53 : decode cX4_park 53 = .ok (.aload_n 2, 1) := by decide +kernel
theorem dX4_park_54 : decode cX4_park 54 = .ok (.invokevirtual 274, 3) := by decide +kernel
theorem dX4_park_57 : decode cX4_park 57 = .ok (.goto 22, 3) := by decide +kernel
theorem dX4_park_60 : decode cX4_park 60 = .ok (.aload_n 0, 1) := by decide +kernel
theorem dX4_park_61 : decode cX4_park 61 = .ok (.getfield 71, 3) := by decide +kernel
theorem dX4_park_64 : decode cX4_park 64 = .ok (.aload_n 2, 1) := by decide +kernel
theorem dX4_park_65 : decode cX4_park 65 = .ok (.getfield 284, 3) := by decide +kernel
theorem dX4_park_68 : decode cX4_park 68 = .ok (.bipush 60, 2) := by decide +kernel
theorem dX4_park_70 : decode cX4_park 70 = .ok (.iadd, 1) := by decide +kernel
theorem dX4_park_71 : decode cX4_park 71 = .ok (.if_icmp .lt 8, 3) := by decide +kernel
theorem dX4_park_74 : decode cX4_park 74 = .ok (.aload_n 0, 1) := by decide +kernel
theorem dX4_park_75 : decode cX4_park 75 = .ok (.aload_n 2, 1) := by decide +kernel
theorem dX4_park_76 : decode cX4_park 76 = .ok (.invokevirtual 274, 3) := by decide +kernel
theorem dX4_park_79 : decode cX4_park 79 = .ok (.iinc 1 1, 3) := by decide +kernel
theorem dX4_park_82 : decode cX4_park 82 = .ok (.goto (-74), 3) := by decide +kernel
theorem dX4_park_85 : decode cX4_park 85 = .ok (.return_, 1) := by decide +kernel
theorem dX4_shutDoors_0 : decode cX4_shutDoors 0 = .ok (.aload_n 0, 1) := by decide +kernel
theorem dX4_shutDoors_1 : decode cX4_shutDoors 1 = .ok (.bipush 115, 2) := by decide +kernel
theorem dX4_shutDoors_3 : decode cX4_shutDoors 3 = .ok (.invokevirtual 270, 3) := by decide +kernel
theorem dX4_shutDoors_6 : decode cX4_shutDoors 6 = .ok (.iconst 0, 1) := by decide +kernel
theorem dX4_shutDoors_7 : decode cX4_shutDoors 7 = .ok (.istore_n 1, 1) := by decide +kernel
theorem dX4_shutDoors_8 : decode cX4_shutDoors 8 = .ok (.iload_n 1, 1) := by decide +kernel
theorem dX4_shutDoors_9 : decode cX4_shutDoors 9 = .ok (.aload_n 0, 1) := by decide +kernel
theorem dX4_shutDoors_10 : decode cX4_shutDoors 10 = .ok (.getfield 214, 3) := by decide +kernel
theorem dX4_shutDoors_13 : decode cX4_shutDoors 13 = .ok (.if_icmp .ge 56, 3) := by decide +kernel
theorem dX4_shutDoors_16 : decode cX4_shutDoors 16 = .ok (.aload_n 0, 1) := by decide +kernel
theorem dX4_shutDoors_17 : decode cX4_shutDoors 17 = .ok (.aload_n 0, 1) := by decide +kernel
theorem dX4_shutDoors_18 : decode cX4_shutDoors 18 = .ok (.getfield 17, 3) := by decide +kernel
theorem dX4_shutDoors_21 : decode cX4_shutDoors 21 = .ok (.iload_n 1, 1) := by decide +kernel
theorem dX4_shutDoors_22 : decode cX4_shutDoors 22 = .ok (.aaload, 1) := by decide +kernel
theorem dX4_shutDoors_23 : decode cX4_shutDoors 23 = .ok (.invokevirtual 333, 3) := by decide +kernel
theorem dX4_shutDoors_26 : decode cX4_shutDoors 26 = .ok (.istore_n 2, 1) := by decide +kernel
theorem dX4_shutDoors_27 : decode cX4_shutDoors 27 = .ok (.iload_n 2, 1) := by decide +kernel
theorem dX4_shutDoors_28 : decode cX4_shutDoors 28 = .ok (.bipush 68, 2) := by decide +kernel
theorem dX4_shutDoors_30 : decode cX4_shutDoors 30 = .ok (.if_icmp .ne 16, 3) := by decide +kernel
theorem dX4_shutDoors_33 : decode cX4_shutDoors 33 = .ok (.aload_n 0, 1) := by decide +kernel
theorem dX4_shutDoors_34 : decode cX4_shutDoors 34 = .ok (.aload_n 0, 1) := by decide +kernel
theorem dX4_shutDoors_35 : decode cX4_shutDoors 35 = .ok (.getfield 17, 3) := by decide +kernel
theorem dX4_shutDoors_38 : decode cX4_shutDoors 38 = .ok (.iload_n 1, 1) := by decide +kernel
theorem dX4_shutDoors_39 : decode cX4_shutDoors 39 = .ok (.aaload, 1) := by decide +kernel
theorem dX4_shutDoors_40 : decode cX4_shutDoors 40 = .ok (.invokevirtual 337, 3) := by decide +kernel
theorem dX4_shutDoors_43 : decode cX4_shutDoors 43 = .ok (.goto 20, 3) := by decide +kernel
theorem dX4_shutDoors_46 : decode cX4_shutDoors 46 = .ok (.iload_n 2, 1) := by decide +kernel
theorem dX4_shutDoors_47 : decode cX4_shutDoors 47 = .ok (.bipush 87, 2) := by decide +kernel
theorem dX4_shutDoors_49 : decode cX4_shutDoors 49 = .ok (.if_icmp .eq 14, 3) := by decide +kernel
theorem dX4_shutDoors_52 : decode cX4_shutDoors 52 = .ok (.aload_n 0, 1) := by decide +kernel
theorem dX4_shutDoors_53 : decode cX4_shutDoors 53 = .ok (.aload_n 0, 1) := by decide +kernel
theorem dX4_shutDoors_54 : decode cX4_shutDoors 54 = .ok (.getfield 17, 3) := by decide +kernel
theorem dX4_shutDoors_57 : decode cX4_shutDoors 57 = .ok (.iload_n 1, 1) := by decide +kernel
theorem dX4_shutDoors_58 : decode cX4_shutDoors 58 = .ok (.aaload, 1) := by decide +kernel
theorem dX4_shutDoors_59 : decode cX4_shutDoors 59 = .ok (.iload_n 2, 1) := by decide +kernel
theorem dX4_shutDoors_60 : decode cX4_shutDoors 60 = .ok (.invokevirtual 185, 3) := by decide +kernel
theorem dX4_shutDoors_63 : decode cX4_shutDoors 63 = .ok (.iinc 1 1, 3) := by decide +kernel
theorem dX4_shutDoors_66 : decode cX4_shutDoors 66 = .ok (.goto (-58), 3) := by decide +kernel
theorem dX4_shutDoors_69 : decode cX4_shutDoors 69 = .ok (.return_, 1) := by decide +kernel
theorem dX4_goOnPads_0 : decode cX4_goOnPads 0 = .ok (.aload_n 0, 1) := by decide +kernel
theorem dX4_goOnPads_1 : decode cX4_goOnPads 1 = .ok (.getfield 50, 3) := by decide +kernel
theorem dX4_goOnPads_4 : decode cX4_goOnPads 4 = .ok (.aload_n 0, 1) := by decide +kernel
theorem dX4_goOnPads_5 : decode cX4_goOnPads 5 = .ok (.getfield 71, 3) := by decide +kernel
theorem dX4_goOnPads_8 : decode cX4_goOnPads 8 = .ok (.invokevirtual 444, 3) := by decide +kernel
theorem dX4_goOnPads_11 : decode cX4_goOnPads 11 = .ok (.ifCond .ne 4, 3) := by decide +kernel
theorem dX4_goOnPads_14 : decode cX4_goOnPads 14 = .ok (.return_, 1) := by decide +kernel
theorem dX4_goOnPads_15 : decode cX4_goOnPads 15 = .ok (.aload_n 0, 1) := by decide +kernel
theorem dX4_goOnPads_16 : decode cX4_goOnPads 16 = .ok (.bipush 100, 2) := by decide +kernel
theorem dX4_goOnPads_18 : decode cX4_goOnPads 18 = .ok (.invokevirtual 270, 3) := by decide +kernel
theorem dX4_goOnPads_21 : decode cX4_goOnPads 21 = .ok (.aload_n 0, 1) := by decide +kernel
theorem dX4_goOnPads_22 : decode cX4_goOnPads 22 = .ok (.invokevirtual 447, 3) := by decide +kernel
theorem dX4_goOnPads_25 : decode cX4_goOnPads 25 = .ok (.istore_n 1, 1) := by decide +kernel
theorem dX4_goOnPads_26 : decode cX4_goOnPads 26 = .ok (.iconst 0, 1) := by decide +kernel
theorem dX4_goOnPads_27 : decode cX4_goOnPads 27 = .ok (.istore_n 2, 1) := by decide +kernel
theorem dX4_goOnPads_28 : decode cX4_goOnPads 28 = .ok (.iload_n 2, 1) := by decide +kernel
theorem dX4_goOnPads_29 : decode cX4_goOnPads 29 = .ok (.aload_n 0, 1) := by decide +kernel
theorem dX4_goOnPads_30 : decode cX4_goOnPads 30 = .ok (.getfield 214, 3) := by decide +kernel
theorem dX4_goOnPads_33 : decode cX4_goOnPads 33 = .ok (.if_icmp .ge 76, 3) := by decide +kernel
theorem dX4_goOnPads_36 : decode cX4_goOnPads 36 = .ok (.iload_n 1, 1) := by decide +kernel
theorem dX4_goOnPads_37 : decode cX4_goOnPads 37 = .ok (.aload_n 0, 1) := by decide +kernel
theorem dX4_goOnPads_38 : decode cX4_goOnPads 38 = .ok (.getfield 50, 3) := by decide +kernel
theorem dX4_goOnPads_41 : decode cX4_goOnPads 41 = .ok (.getfield 450, 3) := by decide +kernel
theorem dX4_goOnPads_44 : decode cX4_goOnPads 44 = .ok (.if_icmp .ge 65, 3) := by decide +kernel
theorem dX4_goOnPads_47 : decode cX4_goOnPads 47 = .ok (.aload_n 0, 1) := by decide +kernel
theorem dX4_goOnPads_48 : decode cX4_goOnPads 48 = .ok (.getfield 17, 3) := by decide +kernel
theorem dX4_goOnPads_51 : decode cX4_goOnPads 51 = .ok (.iload_n 2, 1) := by decide +kernel
theorem dX4_goOnPads_52 : decode cX4_goOnPads 52 = .ok (.aaload, 1) := by decide +kernel
theorem dX4_goOnPads_53 : decode cX4_goOnPads 53 = .ok (.astore_n 3, 1) := by decide +kernel
theorem dX4_goOnPads_54 : decode cX4_goOnPads 54 = .ok (.aload_n 3, 1) := by decide +kernel
theorem dX4_goOnPads_55 : decode cX4_goOnPads 55 = .ok (.getfield 238, 3) := by decide +kernel
theorem dX4_goOnPads_58 : decode cX4_goOnPads 58 = .ok (.getfield 343, 3) := by decide +kernel
theorem dX4_goOnPads_61 : decode cX4_goOnPads 61 = .ok (.ifCond .ne 42, 3) := by decide +kernel
theorem dX4_goOnPads_64 : decode cX4_goOnPads 64 = .ok (.aload_n 3, 1) := by decide +kernel
theorem dX4_goOnPads_65 : decode cX4_goOnPads 65 = .ok (.aload_n 0, 1) := by decide +kernel
theorem dX4_goOnPads_66 : decode cX4_goOnPads 66 = .ok (.getfield 71, 3) := by decide +kernel
theorem dX4_goOnPads_69 : decode cX4_goOnPads 69 = .ok (.invokevirtual 453, 3) := by decide +kernel
theorem dX4_goOnPads_72 : decode cX4_goOnPads 72 = .ok (.ifCond .ne 31, 3) := by decide +kernel
theorem dX4_goOnPads_75 : decode cX4_goOnPads 75 = .ok (.aload_n 3, 1) := by decide +kernel
theorem dX4_goOnPads_76 : decode cX4_goOnPads 76 = .ok (.aload_n 0, 1) := by decide +kernel
theorem dX4_goOnPads_77 : decode cX4_goOnPads 77 = .ok (.getfield 71, 3) := by decide +kernel
theorem dX4_goOnPads_80 : decode cX4_goOnPads 80 = .ok (.putfield 456, 3) := by decide +kernel
theorem dX4_goOnPads_83 : decode cX4_goOnPads 83 = .ok (.aload_n 0, 1) := by decide +kernel
theorem dX4_goOnPads_84 : decode cX4_goOnPads 84 = .ok (.getfield 46, 3) := by decide +kernel
theorem dX4_goOnPads_87 : decode cX4_goOnPads 87 = .ok (.aload_n 0, 1) := by decide +kernel
theorem dX4_goOnPads_88 : decode cX4_goOnPads 88 = .ok (.getfield 71, 3) := by decide +kernel
theorem dX4_goOnPads_91 : decode cX4_goOnPads 91 = .ok (.bipush 80, 2) := by decide +kernel
theorem dX4_goOnPads_93 : decode cX4_goOnPads 93 = .ok (.aload_n 3, 1) := by decide +kernel
theorem dX4_goOnPads_94 : decode cX4_goOnPads 94 = .ok (.getfield 258, 3) := by decide +kernel
theorem dX4_goOnPads_97 : decode cX4_goOnPads 97 = .ok (.invokevirtual 259, 3) := by decide +kernel
theorem dX4_goOnPads_100 : decode cX4_goOnPads 100 = .ok (.iinc 1 1, 3) := by decide +kernel
theorem dX4_goOnPads_103 : decode cX4_goOnPads 103 = .ok (.iinc 2 1, 3) := by decide +kernel
theorem dX4_goOnPads_106 : decode cX4_goOnPads 106 = .ok (.goto (-78), 3) := by decide +kernel
theorem dX4_goOnPads_109 : decode cX4_goOnPads 109 = .ok (.return_, 1) := by decide +kernel
theorem dX4_takeOff_0 : decode cX4_takeOff 0 = .ok (.aload_n 0, 1) := by decide +kernel
theorem dX4_takeOff_1 : decode cX4_takeOff 1 = .ok (.bipush 100, 2) := by decide +kernel
theorem dX4_takeOff_3 : decode cX4_takeOff 3 = .ok (.invokevirtual 270, 3) := by decide +kernel
theorem dX4_takeOff_6 : decode cX4_takeOff 6 = .ok (.iconst 0, 1) := by decide +kernel
theorem dX4_takeOff_7 : decode cX4_takeOff 7 = .ok (.istore_n 1, 1) := by decide +kernel
theorem dX4_takeOff_8 : decode cX4_takeOff 8 = .ok (.iload_n 1, 1) := by decide +kernel
theorem dX4_takeOff_9 : decode cX4_takeOff 9 = .ok (.aload_n 0, 1) := by decide +kernel
theorem dX4_takeOff_10 : decode cX4_takeOff 10 = .ok (.getfield 214, 3) := by decide +kernel
theorem dX4_takeOff_13 : decode cX4_takeOff 13 = .ok (.if_icmp .ge 39, 3) := by decide +kernel
theorem dX4_takeOff_16 : decode cX4_takeOff 16 = .ok (.aload_n 0, 1) := by decide +kernel
theorem dX4_takeOff_17 : decode cX4_takeOff 17 = .ok (.getfield 17, 3) := by decide +kernel
theorem dX4_takeOff_20 : decode cX4_takeOff 20 = .ok (.iload_n 1, 1) := by decide +kernel
theorem dX4_takeOff_21 : decode cX4_takeOff 21 = .ok (.aaload, 1) := by decide +kernel
theorem dX4_takeOff_22 : decode cX4_takeOff 22 = .ok (.astore_n 2, 1) := by decide +kernel
theorem dX4_takeOff_23 : decode cX4_takeOff 23 = .ok (.aload_n 2, 1) := by decide +kernel
theorem dX4_takeOff_24 : decode cX4_takeOff 24 = .ok (.getfield 238, 3) := by decide +kernel
theorem dX4_takeOff_27 : decode cX4_takeOff 27 = .ok (.getfield 343, 3) := by decide +kernel
theorem dX4_takeOff_30 : decode cX4_takeOff 30 = .ok (.ifCond .ne 11, 3) := by decide +kernel
theorem dX4_takeOff_33 : decode cX4_takeOff 33 = .ok (.aload_n 0, 1) := by decide +kernel
theorem dX4_takeOff_34 : decode cX4_takeOff 34 = .ok (.aload_n 2, 1) := by decide +kernel
theorem dX4_takeOff_35 : decode cX4_takeOff 35 = .ok (.invokevirtual 462, 3) := by decide +kernel
theorem dX4_takeOff_38 : decode cX4_takeOff 38 = .ok (.ifCond .ne 8, 3) := by decide +kernel
theorem dX4_takeOff_41 : decode cX4_takeOff 41 = .ok (.aload_n 0, 1) := by decide +kernel
theorem dX4_takeOff_42 : decode cX4_takeOff 42 = .ok (.aload_n 2, 1) := by decide +kernel
theorem dX4_takeOff_43 : decode cX4_takeOff 43 = .ok (.invokevirtual 465, 3) := by decide +kernel
theorem dX4_takeOff_46 : decode cX4_takeOff 46 = .ok (.iinc 1 1, 3) := by decide +kernel
theorem dX4_takeOff_49 : decode cX4_takeOff 49 = .ok (.goto (-41), 3) := by decide +kernel
theorem dX4_takeOff_52 : decode cX4_takeOff 52 = .ok (.return_, 1) := by decide +kernel
theorem dX4_bookAnew_0 : decode cX4_bookAnew 0 = .ok (.iconst 0, 1) := by decide +kernel
theorem dX4_bookAnew_1 : decode cX4_bookAnew 1 = .ok (.istore_n 1, 1) := by decide +kernel
theorem dX4_bookAnew_2 : decode cX4_bookAnew 2 = .ok (.iload_n 1, 1) := by decide +kernel
theorem dX4_bookAnew_3 : decode cX4_bookAnew 3 = .ok (.iconst 3, 1) := by decide +kernel
theorem dX4_bookAnew_4 : decode cX4_bookAnew 4 = .ok (.if_icmp .ge 75, 3) := by decide +kernel
theorem dX4_bookAnew_7 : decode cX4_bookAnew 7 = .ok (.iconst 0, 1) := by decide +kernel
theorem dX4_bookAnew_8 : decode cX4_bookAnew 8 = .ok (.istore_n 2, 1) := by decide +kernel
theorem dX4_bookAnew_9 : decode cX4_bookAnew 9 = .ok (.iload_n 2, 1) := by decide +kernel
theorem dX4_bookAnew_10 : decode cX4_bookAnew 10 = .ok (.aload_n 0, 1) := by decide +kernel
theorem dX4_bookAnew_11 : decode cX4_bookAnew 11 = .ok (.getfield 50, 3) := by decide +kernel
theorem dX4_bookAnew_14 : decode cX4_bookAnew 14 = .ok (.getfield 161, 3) := by decide +kernel
theorem dX4_bookAnew_17 : decode cX4_bookAnew 17 = .ok (.if_icmp .ge 56, 3) := by decide +kernel
theorem dX4_bookAnew_20 : decode cX4_bookAnew 20 = .ok (.aload_n 0, 1) := by decide +kernel
theorem dX4_bookAnew_21 : decode cX4_bookAnew 21 = .ok (.getfield 31, 3) := by decide +kernel
theorem dX4_bookAnew_24 : decode cX4_bookAnew 24 = .ok (.iload_n 2, 1) := by decide +kernel
theorem dX4_bookAnew_25 : decode cX4_bookAnew 25 = .ok (.aaload, 1) := by decide +kernel
theorem dX4_bookAnew_26 : decode cX4_bookAnew 26 = .ok (.getfield 267, 3) := by decide +kernel
theorem dX4_bookAnew_29 : decode cX4_bookAnew 29 = .ok (.ifCond .eq 38, 3) := by decide +kernel
theorem dX4_bookAnew_32 : decode cX4_bookAnew 32 = .ok (.aload_n 0, 1) := by decide +kernel
theorem dX4_bookAnew_33 : decode cX4_bookAnew 33 = .ok (.getfield 50, 3) := by decide +kernel
theorem dX4_bookAnew_36 : decode cX4_bookAnew 36 = .ok (.getfield 164, 3) := by decide +kernel
theorem dX4_bookAnew_39 : decode cX4_bookAnew 39 = .ok (.iload_n 2, 1) := by decide +kernel
theorem dX4_bookAnew_40 : decode cX4_bookAnew 40 = .ok (.aaload, 1) := by decide +kernel
theorem dX4_bookAnew_41 : decode cX4_bookAnew 41 = .ok (.getfield 415, 3) := by decide +kernel
theorem dX4_bookAnew_44 : decode cX4_bookAnew 44 = .ok (.iload_n 1, 1) := by decide +kernel
theorem dX4_bookAnew_45 : decode cX4_bookAnew 45 = .ok (.if_icmp .ne 22, 3) := by decide +kernel
theorem dX4_bookAnew_48 : decode cX4_bookAnew 48 = .ok (.aload_n 0, 1) := by decide +kernel
theorem dX4_bookAnew_49 : decode cX4_bookAnew 49 = .ok (.aload_n 0, 1) := by decide +kernel
theorem dX4_bookAnew_50 : decode cX4_bookAnew 50 = .ok (.getfield 31, 3) := by decide +kernel
theorem dX4_bookAnew_53 : decode cX4_bookAnew 53 = .ok (.iload_n 2, 1) := by decide +kernel
theorem dX4_bookAnew_54 : decode cX4_bookAnew 54 = .ok (.aaload, 1) := by decide +kernel
theorem dX4_bookAnew_55 : decode cX4_bookAnew 55 = .ok (.aload_n 0, 1) := by decide +kernel
theorem dX4_bookAnew_56 : decode cX4_bookAnew 56 = .ok (.getfield 50, 3) := by decide +kernel
theorem dX4_bookAnew_59 : decode cX4_bookAnew 59 = .ok (.getfield 164, 3) := by decide +kernel
theorem dX4_bookAnew_62 : decode cX4_bookAnew 62 = .ok (.iload_n 2, 1) := by decide +kernel
theorem dX4_bookAnew_63 : decode cX4_bookAnew 63 = .ok (.aaload, 1) := by decide +kernel
theorem dX4_bookAnew_64 : decode cX4_bookAnew 64 = .ok (.invokevirtual 483, 3) := by decide +kernel
theorem dX4_bookAnew_67 : decode cX4_bookAnew 67 = .ok (.iinc 2 1, 3) := by decide +kernel
theorem dX4_bookAnew_70 : decode cX4_bookAnew 70 = .ok (.goto (-61), 3) := by decide +kernel
theorem dX4_bookAnew_73 : decode cX4_bookAnew 73 = .ok (.iinc 1 1, 3) := by decide +kernel
theorem dX4_bookAnew_76 : decode cX4_bookAnew 76 = .ok (.goto (-74), 3) := by decide +kernel
theorem dX4_bookAnew_79 : decode cX4_bookAnew 79 = .ok (.return_, 1) := by decide +kernel
theorem dX4_nextMinute_0 : decode cX4_nextMinute 0 = .ok (.sipush 2000, 3) := by decide +kernel
theorem dX4_nextMinute_3 : decode cX4_nextMinute 3 = .ok (.istore_n 1, 1) := by decide +kernel
theorem dX4_nextMinute_4 : decode cX4_nextMinute 4 = .ok (.iconst 0, 1) := by decide +kernel
theorem dX4_nextMinute_5 : decode cX4_nextMinute 5 = .ok (.istore_n 2, 1) := by decide +kernel
theorem dX4_nextMinute_6 : decode cX4_nextMinute 6 = .ok (.iload_n 2, 1) := by decide +kernel
theorem dX4_nextMinute_7 : decode cX4_nextMinute 7 = .ok (.aload_n 0, 1) := by decide +kernel
theorem dX4_nextMinute_8 : decode cX4_nextMinute 8 = .ok (.getfield 50, 3) := by decide +kernel
theorem dX4_nextMinute_11 : decode cX4_nextMinute 11 = .ok (.getfield 119, 3) := by decide +kernel
theorem dX4_nextMinute_14 : decode cX4_nextMinute 14 = .ok (.if_icmp .ge 44, 3) := by decide +kernel
theorem dX4_nextMinute_17 : decode cX4_nextMinute 17 = .ok (.aload_n 0, 1) := by decide +kernel
theorem dX4_nextMinute_18 : decode cX4_nextMinute 18 = .ok (.getfield 11, 3) := by decide +kernel
theorem dX4_nextMinute_21 : decode cX4_nextMinute 21 = .ok (.iload_n 2, 1) := by decide +kernel
theorem dX4_nextMinute_22 : decode cX4_nextMinute 22 = .ok (.aaload, 1) := by decide +kernel
theorem dX4_nextMinute_23 : decode cX4_nextMinute 23 = .ok (.invokevirtual 189, 3) := by decide +kernel
theorem dX4_nextMinute_26 : decode cX4_nextMinute 26 = .ok (.ifCond .ne 26, 3) := by decide +kernel
theorem dX4_nextMinute_29 : decode cX4_nextMinute 29 = .ok (.iload_n 1, 1) := by decide +kernel
theorem dX4_nextMinute_30 : decode cX4_nextMinute 30 = .ok (.aload_n 0, 1) := by decide +kernel
theorem dX4_nextMinute_31 : decode cX4_nextMinute 31 = .ok (.getfield 11, 3) := by decide +kernel
theorem dX4_nextMinute_34 : decode cX4_nextMinute 34 = .ok (.iload_n 2, 1) := by decide +kernel
theorem dX4_nextMinute_35 : decode cX4_nextMinute 35 = .ok (.aaload, 1) := by decide +kernel
theorem dX4_nextMinute_36 : decode cX4_nextMinute 36 = .ok (.getfield 193, 3) := by decide +kernel
theorem dX4_nextMinute_39 : decode cX4_nextMinute 39 = .ok (.aload_n 0, 1) := by decide +kernel
theorem dX4_nextMinute_40 : decode cX4_nextMinute 40 = .ok (.getfield 71, 3) := by decide +kernel
theorem dX4_nextMinute_43 : decode cX4_nextMinute 43 = .ok (.iconst 1, 1) := by decide +kernel
theorem dX4_nextMinute_44 : decode cX4_nextMinute 44 = .ok (.iadd, 1) := by decide +kernel
theorem dX4_nextMinute_45 : decode cX4_nextMinute 45 = .ok (.invokestatic 196, 3) := by decide +kernel
theorem dX4_nextMinute_48 : decode cX4_nextMinute 48 = .ok (.invokestatic 202, 3) := by decide +kernel
theorem dX4_nextMinute_51 : decode cX4_nextMinute 51 = .ok (.istore_n 1, 1) := by decide +kernel
theorem dX4_nextMinute_52 : decode cX4_nextMinute 52 = .ok (.iinc 2 1, 3) := by decide +kernel
theorem dX4_nextMinute_55 : decode cX4_nextMinute 55 = .ok (.goto (-49), 3) := by decide +kernel
theorem dX4_nextMinute_58 : decode cX4_nextMinute 58 = .ok (.iconst 0, 1) := by decide +kernel
theorem dX4_nextMinute_59 : decode cX4_nextMinute 59 = .ok (.istore_n 2, 1) := by decide +kernel
theorem dX4_nextMinute_60 : decode cX4_nextMinute 60 = .ok (.iload_n 2, 1) := by decide +kernel
theorem dX4_nextMinute_61 : decode cX4_nextMinute 61 = .ok (.aload_n 0, 1) := by decide +kernel
theorem dX4_nextMinute_62 : decode cX4_nextMinute 62 = .ok (.getfield 50, 3) := by decide +kernel
theorem dX4_nextMinute_65 : decode cX4_nextMinute 65 = .ok (.getfield 171, 3) := by decide +kernel
theorem dX4_nextMinute_68 : decode cX4_nextMinute 68 = .ok (.if_icmp .ge 45, 3) := by decide +kernel
theorem dX4_nextMinute_71 : decode cX4_nextMinute 71 = .ok (.aload_n 0, 1) := by decide +kernel
theorem dX4_nextMinute_72 : decode cX4_nextMinute 72 = .ok (.getfield 50, 3) := by decide +kernel
theorem dX4_nextMinute_75 : decode cX4_nextMinute 75 = .ok (.getfield 205, 3) := by decide +kernel
theorem dX4_nextMinute_78 : decode cX4_nextMinute 78 = .ok (.iload_n 2, 1) := by decide +kernel
theorem dX4_nextMinute_79 : decode cX4_nextMinute 79 = .ok (.aaload, 1) := by decide +kernel
theorem dX4_nextMinute_80 : decode cX4_nextMinute 80 = .ok (.getfield 209, 3) := by decide +kernel
theorem dX4_nextMinute_83 : decode cX4_nextMinute 83 = .ok (.aload_n 0, 1) := by decide +kernel
theorem dX4_nextMinute_84 : decode cX4_nextMinute 84 = .ok (.getfield 71, 3) := by decide +kernel
theorem dX4_nextMinute_87 : decode cX4_nextMinute 87 = .ok (.if_icmp .le 20, 3) := by decide +kernel
theorem dX4_nextMinute_90 : decode cX4_nextMinute 90 = .ok (.iload_n 1, 1) := by decide +kernel
theorem dX4_nextMinute_91 : decode cX4_nextMinute 91 = .ok (.aload_n 0, 1) := by decide +kernel
theorem dX4_nextMinute_92 : decode cX4_nextMinute 92 = .ok (.getfield 50, 3) := by decide +kernel
theorem dX4_nextMinute_95 : decode cX4_nextMinute 95 = .ok (.getfield 205, 3) := by decide +kernel
theorem dX4_nextMinute_98 : decode cX4_nextMinute 98 = .ok (.iload_n 2, 1) := by decide +kernel
theorem dX4_nextMinute_99 : decode cX4_nextMinute 99 = .ok (.aaload, 1) := by decide +kernel
theorem dX4_nextMinute_100 : decode cX4_nextMinute 100 = .ok (.getfield 209, 3) := by decide +kernel
theorem dX4_nextMinute_103 : decode cX4_nextMinute 103 = .ok (.invokestatic 202, 3) := by decide +kernel
theorem dX4_nextMinute_106 : decode cX4_nextMinute 106 = .ok (.istore_n 1, 1) := by decide +kernel
theorem dX4_nextMinute_107 : decode cX4_nextMinute 107 = .ok (.iinc 2 1, 3) := by decide +kernel
theorem dX4_nextMinute_110 : decode cX4_nextMinute 110 = .ok (.goto (-50), 3) := by decide +kernel
theorem dX4_nextMinute_113 : decode cX4_nextMinute 113 = .ok (.iload_n 1, 1) := by decide +kernel
theorem dX4_nextMinute_114 : decode cX4_nextMinute 114 = .ok (.ireturn, 1) := by decide +kernel
theorem dX4_lineUp_0 : decode cX4_lineUp 0 = .ok (.aload_n 0, 1) := by decide +kernel
theorem dX4_lineUp_1 : decode cX4_lineUp 1 = .ok (.iconst 0, 1) := by decide +kernel
theorem dX4_lineUp_2 : decode cX4_lineUp 2 = .ok (.putfield 214, 3) := by decide +kernel
theorem dX4_lineUp_5 : decode cX4_lineUp 5 = .ok (.iconst 0, 1) := by decide +kernel
theorem dX4_lineUp_6 : decode cX4_lineUp 6 = .ok (.istore_n 2, 1) := by decide +kernel
theorem dX4_lineUp_7 : decode cX4_lineUp 7 = .ok (.iload_n 2, 1) := by decide +kernel
theorem dX4_lineUp_8 : decode cX4_lineUp 8 = .ok (.aload_n 0, 1) := by decide +kernel
theorem dX4_lineUp_9 : decode cX4_lineUp 9 = .ok (.getfield 50, 3) := by decide +kernel
theorem dX4_lineUp_12 : decode cX4_lineUp 12 = .ok (.getfield 119, 3) := by decide +kernel
theorem dX4_lineUp_15 : decode cX4_lineUp 15 = .ok (.if_icmp .ge 105, 3) := by decide +kernel
theorem dX4_lineUp_18 : decode cX4_lineUp 18 = .ok (.aload_n 0, 1) := by decide +kernel
theorem dX4_lineUp_19 : decode cX4_lineUp 19 = .ok (.getfield 11, 3) := by decide +kernel
theorem dX4_lineUp_22 : decode cX4_lineUp 22 = .ok (.iload_n 2, 1) := by decide +kernel
theorem dX4_lineUp_23 : decode cX4_lineUp 23 = .ok (.aaload, 1) := by decide +kernel
theorem dX4_lineUp_24 : decode cX4_lineUp 24 = .ok (.astore_n 3, 1) := by decide +kernel
theorem dX4_lineUp_25 : decode cX4_lineUp 25 = .ok (.aload_n 3, 1) := by decide +kernel
theorem dX4_lineUp_26 : decode cX4_lineUp 26 = .ok (.getfield 217, 3) := by decide +kernel
theorem dX4_lineUp_29 : decode cX4_lineUp 29 = .ok (.iload_n 1, 1) := by decide +kernel
theorem dX4_lineUp_30 : decode cX4_lineUp 30 = .ok (.if_icmp .ne 84, 3) := by decide +kernel
theorem dX4_lineUp_33 : decode cX4_lineUp 33 = .ok (.aload_n 3, 1) := by decide +kernel
theorem dX4_lineUp_34 : decode cX4_lineUp 34 = .ok (.getfield 193, 3) := by decide +kernel
theorem dX4_lineUp_37 : decode cX4_lineUp 37 = .ok (.aload_n 0, 1) := by decide +kernel
theorem dX4_lineUp_38 : decode cX4_lineUp 38 = .ok (.getfield 71, 3) := by decide +kernel
theorem dX4_lineUp_41 : decode cX4_lineUp 41 = .ok (.if_icmp .gt 73, 3) := by decide +kernel
theorem dX4_lineUp_44 : decode cX4_lineUp 44 = .ok (.aload_n 0, 1) := by decide +kernel
theorem dX4_lineUp_45 : decode cX4_lineUp 45 = .ok (.getfield 214, 3) := by decide +kernel
theorem dX4_lineUp_48 : decode cX4_lineUp 48 = .ok (.istore 4, 2) := by decide +kernel
theorem dX4_lineUp_50 : decode cX4_lineUp 50 = .ok (.iload 4, 2) := by decide +kernel
theorem dX4_lineUp_52 : decode cX4_lineUp 52 = .ok (.ifCond .le 44, 3) := by decide +kernel
theorem dX4_lineUp_55 : decode cX4_lineUp 55 = .ok (.aload_n 0, 1) := by decide +kernel
theorem dX4_lineUp_56 : decode cX4_lineUp 56 = .ok (.getfield 17, 3) := by decide +kernel
theorem dX4_lineUp_59 : decode cX4_lineUp 59 = .ok (.iload 4, 2) := by decide +kernel
theorem dX4_lineUp_61 : decode cX4_lineUp 61 = .ok (.iconst 1, 1) := by decide +kernel
theorem dX4_lineUp_62 : decode cX4_lineUp 62 = .ok (.isub, 1) := by decide +kernel
theorem dX4_lineUp_63 : decode cX4_lineUp 63 = .ok (.aaload, 1) := by decide +kernel
theorem dX4_lineUp_64 : decode cX4_lineUp 64 = .ok (.getfield 193, 3) := by decide +kernel
theorem dX4_lineUp_67 : decode cX4_lineUp 67 = .ok (.aload_n 3, 1) := by decide +kernel
theorem dX4_lineUp_68 : decode cX4_lineUp 68 = .ok (.getfield 193, 3) := by decide +kernel
theorem dX4_lineUp_71 : decode cX4_lineUp 71 = .ok (.if_icmp .le 25, 3) := by decide +kernel
theorem dX4_lineUp_74 : decode cX4_lineUp 74 = .ok (.aload_n 0, 1) := by decide +kernel
theorem dX4_lineUp_75 : decode cX4_lineUp 75 = .ok (.getfield 17, 3) := by decide +kernel
theorem dX4_lineUp_78 : decode cX4_lineUp 78 = .ok (.iload 4, 2) := by decide +kernel
theorem dX4_lineUp_80 : decode cX4_lineUp 80 = .ok (.aload_n 0, 1) := by decide +kernel
theorem dX4_lineUp_81 : decode cX4_lineUp 81 = .ok (.getfield 17, 3) := by decide +kernel
theorem dX4_lineUp_84 : decode cX4_lineUp 84 = .ok (.iload 4, 2) := by decide +kernel
theorem dX4_lineUp_86 : decode cX4_lineUp 86 = .ok (.iconst 1, 1) := by decide +kernel
theorem dX4_lineUp_87 : decode cX4_lineUp 87 = .ok (.isub, 1) := by decide +kernel
theorem dX4_lineUp_88 : decode cX4_lineUp 88 = .ok (.aaload, 1) := by decide +kernel
theorem dX4_lineUp_89 : decode cX4_lineUp 89 = .ok (.aastore, 1) := by decide +kernel
theorem dX4_lineUp_90 : decode cX4_lineUp 90 = .ok (.iinc 4 (-1), 3) := by decide +kernel
theorem dX4_lineUp_93 : decode cX4_lineUp 93 = .ok (.goto (-43), 3) := by decide +kernel
theorem dX4_lineUp_96 : decode cX4_lineUp 96 = .ok (.aload_n 0, 1) := by decide +kernel
theorem dX4_lineUp_97 : decode cX4_lineUp 97 = .ok (.getfield 17, 3) := by decide +kernel
theorem dX4_lineUp_100 : decode cX4_lineUp 100 = .ok (.iload 4, 2) := by decide +kernel
theorem dX4_lineUp_102 : decode cX4_lineUp 102 = .ok (.aload_n 3, 1) := by decide +kernel
theorem dX4_lineUp_103 : decode cX4_lineUp 103 = .ok (.aastore, 1) := by decide +kernel
theorem dX4_lineUp_104 : decode cX4_lineUp 104 = .ok (.aload_n 0, 1) := by decide +kernel
theorem dX4_lineUp_105 : decode cX4_lineUp 105 = .ok (.dup, 1) := by decide +kernel
theorem dX4_lineUp_106 : decode cX4_lineUp 106 = .ok (.getfield 214, 3) := by decide +kernel
theorem dX4_lineUp_109 : decode cX4_lineUp 109 = .ok (.iconst 1, 1) := by decide +kernel
theorem dX4_lineUp_110 : decode cX4_lineUp 110 = .ok (.iadd, 1) := by decide +kernel
theorem dX4_lineUp_111 : decode cX4_lineUp 111 = .ok (.putfield 214, 3) := by decide +kernel
theorem dX4_lineUp_114 : decode cX4_lineUp 114 = .ok (.iinc 2 1, 3) := by decide +kernel
theorem dX4_lineUp_117 : decode cX4_lineUp 117 = .ok (.goto (-110), 3) := by decide +kernel
theorem dX4_lineUp_120 : decode cX4_lineUp 120 = .ok (.return_, 1) := by decide +kernel
theorem dX4_sumOfHarm_0 : decode cX4_sumOfHarm 0 = .ok (.aload_n 0, 1) := by decide +kernel
theorem dX4_sumOfHarm_1 : decode cX4_sumOfHarm 1 = .ok (.invokevirtual 510, 3) := by decide +kernel
theorem dX4_sumOfHarm_4 : decode cX4_sumOfHarm 4 = .ok (.istore_n 1, 1) := by decide +kernel
theorem dX4_sumOfHarm_5 : decode cX4_sumOfHarm 5 = .ok (.iconst 0, 1) := by decide +kernel
theorem dX4_sumOfHarm_6 : decode cX4_sumOfHarm 6 = .ok (.istore_n 2, 1) := by decide +kernel
theorem dX4_sumOfHarm_7 : decode cX4_sumOfHarm 7 = .ok (.iload_n 2, 1) := by decide +kernel
theorem dX4_sumOfHarm_8 : decode cX4_sumOfHarm 8 = .ok (.aload_n 0, 1) := by decide +kernel
theorem dX4_sumOfHarm_9 : decode cX4_sumOfHarm 9 = .ok (.getfield 50, 3) := by decide +kernel
theorem dX4_sumOfHarm_12 : decode cX4_sumOfHarm 12 = .ok (.getfield 119, 3) := by decide +kernel
theorem dX4_sumOfHarm_15 : decode cX4_sumOfHarm 15 = .ok (.if_icmp .ge 33, 3) := by decide +kernel
theorem dX4_sumOfHarm_18 : decode cX4_sumOfHarm 18 = .ok (.iload_n 1, 1) := by decide +kernel
theorem dX4_sumOfHarm_19 : decode cX4_sumOfHarm 19 = .ok (.aload_n 0, 1) := by decide +kernel
theorem dX4_sumOfHarm_20 : decode cX4_sumOfHarm 20 = .ok (.getfield 11, 3) := by decide +kernel
theorem dX4_sumOfHarm_23 : decode cX4_sumOfHarm 23 = .ok (.iload_n 2, 1) := by decide +kernel
theorem dX4_sumOfHarm_24 : decode cX4_sumOfHarm 24 = .ok (.aaload, 1) := by decide +kernel
theorem dX4_sumOfHarm_25 : decode cX4_sumOfHarm 25 = .ok (.getfield 217, 3) := by decide +kernel
theorem dX4_sumOfHarm_28 : decode cX4_sumOfHarm 28 = .ok (.bipush 120, 2) := by decide +kernel
theorem dX4_sumOfHarm_30 : decode cX4_sumOfHarm 30 = .ok (.if_icmp .ne 9, 3) := by decide +kernel
theorem dX4_sumOfHarm_33 : decode cX4_sumOfHarm 33 = .ok (.sipush 3000, 3) := by decide +kernel
theorem dX4_sumOfHarm_36 : decode cX4_sumOfHarm 36 = .ok (.goto 4, 3) := by decide +kernel
theorem dX4_sumOfHarm_39 : decode cX4_sumOfHarm 39 = .ok (.iconst 0, 1) := by decide +kernel
theorem dX4_sumOfHarm_40 : decode cX4_sumOfHarm 40 = .ok (.iadd, 1) := by decide +kernel
theorem dX4_sumOfHarm_41 : decode cX4_sumOfHarm 41 = .ok (.istore_n 1, 1) := by decide +kernel
theorem dX4_sumOfHarm_42 : decode cX4_sumOfHarm 42 = .ok (.iinc 2 1, 3) := by decide +kernel
theorem dX4_sumOfHarm_45 : decode cX4_sumOfHarm 45 = .ok (.goto (-38), 3) := by decide +kernel
theorem dX4_sumOfHarm_48 : decode cX4_sumOfHarm 48 = .ok (.iload_n 1, 1) := by decide +kernel
theorem dX4_sumOfHarm_49 : decode cX4_sumOfHarm 49 = .ok (.ireturn, 1) := by decide +kernel
theorem dX4_sumOfLateness_0 : decode cX4_sumOfLateness 0 = .ok (.iconst 0, 1) := by decide +kernel
theorem dX4_sumOfLateness_1 : decode cX4_sumOfLateness 1 = .ok (.istore_n 1, 1) := by decide +kernel
theorem dX4_sumOfLateness_2 : decode cX4_sumOfLateness 2 = .ok (.iconst 0, 1) := by decide +kernel
theorem dX4_sumOfLateness_3 : decode cX4_sumOfLateness 3 = .ok (.istore_n 2, 1) := by decide +kernel
theorem dX4_sumOfLateness_4 : decode cX4_sumOfLateness 4 = .ok (.iload_n 2, 1) := by decide +kernel
theorem dX4_sumOfLateness_5 : decode cX4_sumOfLateness 5 = .ok (.aload_n 0, 1) := by decide +kernel
theorem dX4_sumOfLateness_6 : decode cX4_sumOfLateness 6 = .ok (.getfield 50, 3) := by decide +kernel
theorem dX4_sumOfLateness_9 : decode cX4_sumOfLateness 9 = .ok (.getfield 161, 3) := by decide +kernel
theorem dX4_sumOfLateness_12 : decode cX4_sumOfLateness 12 = .ok (.if_icmp .ge 30, 3) := by decide +kernel
theorem dX4_sumOfLateness_15 : decode cX4_sumOfLateness 15 = .ok (.iload_n 1, 1) := by decide +kernel
theorem dX4_sumOfLateness_16 : decode cX4_sumOfLateness 16 = .ok (.aload_n 0, 1) := by decide +kernel
theorem dX4_sumOfLateness_17 : decode cX4_sumOfLateness 17 = .ok (.getfield 50, 3) := by decide +kernel
theorem dX4_sumOfLateness_20 : decode cX4_sumOfLateness 20 = .ok (.getfield 164, 3) := by decide +kernel
theorem dX4_sumOfLateness_23 : decode cX4_sumOfLateness 23 = .ok (.iload_n 2, 1) := by decide +kernel
theorem dX4_sumOfLateness_24 : decode cX4_sumOfLateness 24 = .ok (.aaload, 1) := by decide +kernel
theorem dX4_sumOfLateness_25 : decode cX4_sumOfLateness 25 = .ok (.getfield 420, 3) := by decide +kernel
theorem dX4_sumOfLateness_28 : decode cX4_sumOfLateness 28 = .ok (.aload_n 0, 1) := by decide +kernel
theorem dX4_sumOfLateness_29 : decode cX4_sumOfLateness 29 = .ok (.iload_n 2, 1) := by decide +kernel
theorem dX4_sumOfLateness_30 : decode cX4_sumOfLateness 30 = .ok (.invokevirtual 507, 3) := by decide +kernel
theorem dX4_sumOfLateness_33 : decode cX4_sumOfLateness 33 = .ok (.imul, 1) := by decide +kernel
theorem dX4_sumOfLateness_34 : decode cX4_sumOfLateness 34 = .ok (.iadd, 1) := by decide +kernel
theorem dX4_sumOfLateness_35 : decode cX4_sumOfLateness 35 = .ok (.istore_n 1, 1) := by decide +kernel
theorem dX4_sumOfLateness_36 : decode cX4_sumOfLateness 36 = .ok (.iinc 2 1, 3) := by decide +kernel
theorem dX4_sumOfLateness_39 : decode cX4_sumOfLateness 39 = .ok (.goto (-35), 3) := by decide +kernel
theorem dX4_sumOfLateness_42 : decode cX4_sumOfLateness 42 = .ok (.iload_n 1, 1) := by decide +kernel
theorem dX4_sumOfLateness_43 : decode cX4_sumOfLateness 43 = .ok (.ireturn, 1) := by decide +kernel
theorem dX4_sumOfPay_0 : decode cX4_sumOfPay 0 = .ok (.iconst 0, 1) := by decide +kernel
theorem dX4_sumOfPay_1 : decode cX4_sumOfPay 1 = .ok (.istore_n 1, 1) := by decide +kernel
theorem dX4_sumOfPay_2 : decode cX4_sumOfPay 2 = .ok (.iconst 0, 1) := by decide +kernel
theorem dX4_sumOfPay_3 : decode cX4_sumOfPay 3 = .ok (.istore_n 2, 1) := by decide +kernel
theorem dX4_sumOfPay_4 : decode cX4_sumOfPay 4 = .ok (.iload_n 2, 1) := by decide +kernel
theorem dX4_sumOfPay_5 : decode cX4_sumOfPay 5 = .ok (.aload_n 0, 1) := by decide +kernel
theorem dX4_sumOfPay_6 : decode cX4_sumOfPay 6 = .ok (.getfield 50, 3) := by decide +kernel
theorem dX4_sumOfPay_9 : decode cX4_sumOfPay 9 = .ok (.getfield 161, 3) := by decide +kernel
theorem dX4_sumOfPay_12 : decode cX4_sumOfPay 12 = .ok (.if_icmp .ge 52, 3) := by decide +kernel
theorem dX4_sumOfPay_15 : decode cX4_sumOfPay 15 = .ok (.aload_n 0, 1) := by decide +kernel
theorem dX4_sumOfPay_16 : decode cX4_sumOfPay 16 = .ok (.iload_n 2, 1) := by decide +kernel
theorem dX4_sumOfPay_17 : decode cX4_sumOfPay 17 = .ok (.invokevirtual 507, 3) := by decide +kernel
theorem dX4_sumOfPay_20 : decode cX4_sumOfPay 20 = .ok (.sipush 180, 3) := by decide +kernel
theorem dX4_sumOfPay_23 : decode cX4_sumOfPay 23 = .ok (.if_icmp .lt 35, 3) := by decide +kernel
theorem dX4_sumOfPay_26 : decode cX4_sumOfPay 26 = .ok (.aload_n 0, 1) := by decide +kernel
theorem dX4_sumOfPay_27 : decode cX4_sumOfPay 27 = .ok (.aload_n 0, 1) := by decide +kernel
theorem dX4_sumOfPay_28 : decode cX4_sumOfPay 28 = .ok (.getfield 31, 3) := by decide +kernel
theorem dX4_sumOfPay_31 : decode cX4_sumOfPay 31 = .ok (.iload_n 2, 1) := by decide +kernel
theorem dX4_sumOfPay_32 : decode cX4_sumOfPay 32 = .ok (.aaload, 1) := by decide +kernel
theorem dX4_sumOfPay_33 : decode cX4_sumOfPay 33 = .ok (.invokevirtual 513, 3) := by decide +kernel
theorem dX4_sumOfPay_36 : decode cX4_sumOfPay 36 = .ok (.ifCond .ne 22, 3) := by decide +kernel
theorem dX4_sumOfPay_39 : decode cX4_sumOfPay 39 = .ok (.iload_n 1, 1) := by decide +kernel
theorem dX4_sumOfPay_40 : decode cX4_sumOfPay 40 = .ok (.sipush 250, 3) := by decide +kernel
theorem dX4_sumOfPay_43 : decode cX4_sumOfPay 43 = .ok (.aload_n 0, 1) := by decide +kernel
theorem dX4_sumOfPay_44 : decode cX4_sumOfPay 44 = .ok (.getfield 50, 3) := by decide +kernel
theorem dX4_sumOfPay_47 : decode cX4_sumOfPay 47 = .ok (.getfield 164, 3) := by decide +kernel
theorem dX4_sumOfPay_50 : decode cX4_sumOfPay 50 = .ok (.iload_n 2, 1) := by decide +kernel
theorem dX4_sumOfPay_51 : decode cX4_sumOfPay 51 = .ok (.aaload, 1) := by decide +kernel
theorem dX4_sumOfPay_52 : decode cX4_sumOfPay 52 = .ok (.getfield 420, 3) := by decide +kernel
theorem dX4_sumOfPay_55 : decode cX4_sumOfPay 55 = .ok (.imul, 1) := by decide +kernel
theorem dX4_sumOfPay_56 : decode cX4_sumOfPay 56 = .ok (.iadd, 1) := by decide +kernel
theorem dX4_sumOfPay_57 : decode cX4_sumOfPay 57 = .ok (.istore_n 1, 1) := by decide +kernel
theorem dX4_sumOfPay_58 : decode cX4_sumOfPay 58 = .ok (.iinc 2 1, 3) := by decide +kernel
theorem dX4_sumOfPay_61 : decode cX4_sumOfPay 61 = .ok (.goto (-57), 3) := by decide +kernel
theorem dX4_sumOfPay_64 : decode cX4_sumOfPay 64 = .ok (.iload_n 1, 1) := by decide +kernel
theorem dX4_sumOfPay_65 : decode cX4_sumOfPay 65 = .ok (.ireturn, 1) := by decide +kernel
theorem dX4_isLawful_0 : decode cX4_isLawful 0 = .ok (.iconst 0, 1) := by decide +kernel
theorem dX4_isLawful_1 : decode cX4_isLawful 1 = .ok (.istore_n 1, 1) := by decide +kernel
theorem dX4_isLawful_2 : decode cX4_isLawful 2 = .ok (.iload_n 1, 1) := by decide +kernel
theorem dX4_isLawful_3 : decode cX4_isLawful 3 = .ok (.aload_n 0, 1) := by decide +kernel
theorem dX4_isLawful_4 : decode cX4_isLawful 4 = .ok (.getfield 50, 3) := by decide +kernel
theorem dX4_isLawful_7 : decode cX4_isLawful 7 = .ok (.getfield 119, 3) := by decide +kernel
theorem dX4_isLawful_10 : decode cX4_isLawful 10 = .ok (.if_icmp .ge 111, 3) := by decide +kernel
theorem dX4_isLawful_13 : decode cX4_isLawful 13 = .ok (.iconst 0, 1) := by decide +kernel
theorem dX4_isLawful_14 : decode cX4_isLawful 14 = .ok (.istore_n 2, 1) := by decide +kernel
theorem dX4_isLawful_15 : decode cX4_isLawful 15 = .ok (.iload_n 2, 1) := by decide +kernel
theorem dX4_isLawful_16 : decode cX4_isLawful 16 = .ok (.aload_n 0, 1) := by decide +kernel
theorem dX4_isLawful_17 : decode cX4_isLawful 17 = .ok (.getfield 50, 3) := by decide +kernel
theorem dX4_isLawful_20 : decode cX4_isLawful 20 = .ok (.getfield 119, 3) := by decide +kernel
theorem dX4_isLawful_23 : decode cX4_isLawful 23 = .ok (.if_icmp .ge 54, 3) := by decide +kernel
theorem dX4_isLawful_26 : decode cX4_isLawful 26 = .ok (.iload_n 1, 1) := by decide +kernel
theorem dX4_isLawful_27 : decode cX4_isLawful 27 = .ok (.iload_n 2, 1) := by decide +kernel
theorem dX4_isLawful_28 : decode cX4_isLawful 28 = .ok (.if_icmp .eq 43, 3) := by decide +kernel
theorem dX4_isLawful_31 : decode cX4_isLawful 31 = .ok (.aload_n 0, 1) := by decide +kernel
theorem dX4_isLawful_32 : decode cX4_isLawful 32 = .ok (.aload_n 0, 1) := by decide +kernel
theorem dX4_isLawful_33 : decode cX4_isLawful 33 = .ok (.getfield 11, 3) := by decide +kernel
theorem dX4_isLawful_36 : decode cX4_isLawful 36 = .ok (.iload_n 1, 1) := by decide +kernel
theorem dX4_isLawful_37 : decode cX4_isLawful 37 = .ok (.aaload, 1) := by decide +kernel
theorem dX4_isLawful_38 : decode cX4_isLawful 38 = .ok (.aload_n 0, 1) := by decide +kernel
theorem dX4_isLawful_39 : decode cX4_isLawful 39 = .ok (.getfield 11, 3) := by decide +kernel
theorem dX4_isLawful_42 : decode cX4_isLawful 42 = .ok (.iload_n 2, 1) := by decide +kernel
theorem dX4_isLawful_43 : decode cX4_isLawful 43 = .ok (.aaload, 1) := by decide +kernel
theorem dX4_isLawful_44 : decode cX4_isLawful 44 = .ok (.invokevirtual 524, 3) := by decide +kernel
theorem dX4_isLawful_47 : decode cX4_isLawful 47 = .ok (.ifCond .ne 22, 3) := by decide +kernel
theorem dX4_isLawful_50 : decode cX4_isLawful 50 = .ok (.aload_n 0, 1) := by decide +kernel
theorem dX4_isLawful_51 : decode cX4_isLawful 51 = .ok (.aload_n 0, 1) := by decide +kernel
theorem dX4_isLawful_52 : decode cX4_isLawful 52 = .ok (.getfield 11, 3) := by decide +kernel
theorem dX4_isLawful_55 : decode cX4_isLawful 55 = .ok (.iload_n 1, 1) := by decide +kernel
theorem dX4_isLawful_56 : decode cX4_isLawful 56 = .ok (.aaload, 1) := by decide +kernel
theorem dX4_isLawful_57 : decode cX4_isLawful 57 = .ok (.aload_n 0, 1) := by decide +kernel
theorem dX4_isLawful_58 : decode cX4_isLawful 58 = .ok (.getfield 11, 3) := by decide +kernel
theorem dX4_isLawful_61 : decode cX4_isLawful 61 = .ok (.iload_n 2, 1) := by decide +kernel
theorem dX4_isLawful_62 : decode cX4_isLawful 62 = .ok (.aaload, 1) := by decide +kernel
theorem dX4_isLawful_63 : decode cX4_isLawful 63 = .ok (.invokevirtual 528, 3) := by decide +kernel
theorem dX4_isLawful_66 : decode cX4_isLawful 66 = .ok (.ifCond .eq 5, 3) := by decide +kernel
theorem dX4_isLawful_69 : decode cX4_isLawful 69 = .ok (.iconst 0, 1) := by decide +kernel
theorem dX4_isLawful_70 : decode cX4_isLawful 70 = .ok (.ireturn, 1) := by decide +kernel
theorem dX4_isLawful_71 : decode cX4_isLawful 71 = .ok (.iinc 2 1, 3) := by decide +kernel
theorem dX4_isLawful_74 : decode cX4_isLawful 74 = .ok (.goto (-59), 3) := by decide +kernel
theorem dX4_isLawful_77 : decode cX4_isLawful 77 = .ok (.aload_n 0, 1) := by decide +kernel
theorem dX4_isLawful_78 : decode cX4_isLawful 78 = .ok (.getfield 11, 3) := by decide +kernel
theorem dX4_isLawful_81 : decode cX4_isLawful 81 = .ok (.iload_n 1, 1) := by decide +kernel
theorem dX4_isLawful_82 : decode cX4_isLawful 82 = .ok (.aaload, 1) := by decide +kernel
theorem dX4_isLawful_83 : decode cX4_isLawful 83 = .ok (.astore_n 2, 1) := by decide +kernel
theorem dX4_isLawful_84 : decode cX4_isLawful 84 = .ok (.aload_n 2, 1) := by decide +kernel
theorem dX4_isLawful_85 : decode cX4_isLawful 85 = .ok (.getfield 480, 3) := by decide +kernel
theorem dX4_isLawful_88 : decode cX4_isLawful 88 = .ok (.iconst (-1), 1) := by decide +kernel
theorem dX4_isLawful_89 : decode cX4_isLawful 89 = .ok (.if_icmp .eq 26, 3) := by decide +kernel
theorem dX4_isLawful_92 : decode cX4_isLawful 92 = .ok (.aload_n 2, 1) := by decide +kernel
theorem dX4_isLawful_93 : decode cX4_isLawful 93 = .ok (.getfield 480, 3) := by decide +kernel
theorem dX4_isLawful_96 : decode cX4_isLawful 96 = .ok (.aload_n 2, 1) := by decide +kernel
theorem dX4_isLawful_97 : decode cX4_isLawful 97 = .ok (.getfield 394, 3) := by decide +kernel
theorem dX4_isLawful_100 : decode cX4_isLawful 100 = .ok (.iconst 5, 1) := by decide +kernel
theorem dX4_isLawful_101 : decode cX4_isLawful 101 = .ok (.iadd, 1) := by decide +kernel
theorem dX4_isLawful_102 : decode cX4_isLawful 102 = .ok (.bipush 10, 2) := by decide +kernel
theorem dX4_isLawful_104 : decode cX4_isLawful 104 = .ok (.aload_n 2, 1) := by decide +kernel
theorem dX4_isLawful_105 : decode cX4_isLawful 105 = .ok (.getfield 400, 3) := by decide +kernel
theorem dX4_isLawful_108 : decode cX4_isLawful 108 = .ok (.imul, 1) := by decide +kernel
theorem dX4_isLawful_109 : decode cX4_isLawful 109 = .ok (.iadd, 1) := by decide +kernel
theorem dX4_isLawful_110 : decode cX4_isLawful 110 = .ok (.if_icmp .ge 5, 3) := by decide +kernel
theorem dX4_isLawful_113 : decode cX4_isLawful 113 = .ok (.iconst 0, 1) := by decide +kernel
theorem dX4_isLawful_114 : decode cX4_isLawful 114 = .ok (.ireturn, 1) := by decide +kernel
theorem dX4_isLawful_115 : decode cX4_isLawful 115 = .ok (.iinc 1 1, 3) := by decide +kernel
theorem dX4_isLawful_118 : decode cX4_isLawful 118 = .ok (.goto (-116), 3) := by decide +kernel
theorem dX4_isLawful_121 : decode cX4_isLawful 121 = .ok (.aload_n 0, 1) := by decide +kernel
theorem dX4_isLawful_122 : decode cX4_isLawful 122 = .ok (.getfield 115, 3) := by decide +kernel
theorem dX4_isLawful_125 : decode cX4_isLawful 125 = .ok (.ireturn, 1) := by decide +kernel
theorem dX10_hasIce_0 : decode cX10_hasIce 0 = .ok (.iload_n 1, 1) := by decide +kernel
theorem dX10_hasIce_1 : decode cX10_hasIce 1 = .ok (.aload_n 0, 1) := by decide +kernel
theorem dX10_hasIce_2 : decode cX10_hasIce 2 = .ok (.getfield 55, 3) := by decide +kernel
theorem dX10_hasIce_5 : decode cX10_hasIce 5 = .ok (.if_icmp .lt 15, 3) := by decide +kernel
theorem dX10_hasIce_8 : decode cX10_hasIce 8 = .ok (.iload_n 1, 1) := by decide +kernel
theorem dX10_hasIce_9 : decode cX10_hasIce 9 = .ok (.aload_n 0, 1) := by decide +kernel
theorem dX10_hasIce_10 : decode cX10_hasIce 10 = .ok (.getfield 59, 3) := by decide +kernel
theorem dX10_hasIce_13 : decode cX10_hasIce 13 = .ok (.if_icmp .gt 7, 3) := by decide +kernel
theorem dX10_hasIce_16 : decode cX10_hasIce 16 = .ok (.iconst 1, 1) := by decide +kernel
theorem dX10_hasIce_17 : decode cX10_hasIce 17 = .ok (.goto 4, 3) := by decide +kernel
theorem dX10_hasIce_20 : decode cX10_hasIce 20 = .ok (.iconst 0, 1) := by decide +kernel
theorem dX10_hasIce_21 : decode cX10_hasIce 21 = .ok (.ireturn, 1) := by decide +kernel
theorem dX8_isSame_0 : decode cX8_isSame 0 = .ok (.aload_n 0, 1) := by decide +kernel
theorem dX8_isSame_1 : decode cX8_isSame 1 = .ok (.getfield 17, 3) := by decide +kernel
theorem dX8_isSame_4 : decode cX8_isSame 4 = .ok (.aload_n 1, 1) := by decide +kernel
theorem dX8_isSame_5 : decode cX8_isSame 5 = .ok (.getfield 17, 3) := by decide +kernel
theorem dX8_isSame_8 : decode cX8_isSame 8 = .ok (.if_icmp .eq 5, 3) := by decide +kernel
theorem dX8_isSame_11 : decode cX8_isSame 11 = .ok (.iconst 0, 1) := by decide +kernel
theorem dX8_isSame_12 : decode cX8_isSame 12 = .ok (.ireturn, 1) := by decide +kernel
theorem dX8_isSame_13 : decode cX8_isSame 13 = .ok (.iconst 0, 1) := by decide +kernel
theorem dX8_isSame_14 : decode cX8_isSame 14 = .ok (.istore_n 2, 1) := by decide +kernel
theorem dX8_isSame_15 : decode cX8_isSame 15 = .ok (.iload_n 2, 1) := by decide +kernel
theorem dX8_isSame_16 : decode cX8_isSame 16 = .ok (.aload_n 0, 1) := by decide +kernel
theorem dX8_isSame_17 : decode cX8_isSame 17 = .ok (.getfield 17, 3) := by decide +kernel
theorem dX8_isSame_20 : decode cX8_isSame 20 = .ok (.if_icmp .ge 26, 3) := by decide +kernel
theorem dX8_isSame_23 : decode cX8_isSame 23 = .ok (.aload_n 0, 1) := by decide +kernel
theorem dX8_isSame_24 : decode cX8_isSame 24 = .ok (.getfield 7, 3) := by decide +kernel
theorem dX8_isSame_27 : decode cX8_isSame 27 = .ok (.iload_n 2, 1) := by decide +kernel
theorem dX8_isSame_28 : decode cX8_isSame 28 = .ok (.caload, 1) := by decide +kernel
theorem dX8_isSame_29 : decode cX8_isSame 29 = .ok (.aload_n 1, 1) := by decide +kernel
theorem dX8_isSame_30 : decode cX8_isSame 30 = .ok (.getfield 7, 3) := by decide +kernel
theorem dX8_isSame_33 : decode cX8_isSame 33 = .ok (.iload_n 2, 1) := by decide +kernel
theorem dX8_isSame_34 : decode cX8_isSame 34 = .ok (.caload, 1) := by decide +kernel
theorem dX8_isSame_35 : decode cX8_isSame 35 = .ok (.if_icmp .eq 5, 3) := by decide +kernel
theorem dX8_isSame_38 : decode cX8_isSame 38 = .ok (.iconst 0, 1) := by decide +kernel
theorem dX8_isSame_39 : decode cX8_isSame 39 = .ok (.ireturn, 1) := by decide +kernel
theorem dX8_isSame_40 : decode cX8_isSame 40 = .ok (.iinc 2 1, 3) := by decide +kernel
theorem dX8_isSame_43 : decode cX8_isSame 43 = .ok (.goto (-28), 3) := by decide +kernel
theorem dX8_isSame_46 : decode cX8_isSame 46 = .ok (.iconst 1, 1) := by decide +kernel
theorem dX8_isSame_47 : decode cX8_isSame 47 = .ok (.ireturn, 1) := by decide +kernel
theorem dX19_init_0 : decode cX19_init 0 = .ok (.aload_n 0, 1) := by decide +kernel
theorem dX19_init_1 : decode cX19_init 1 = .ok (.invokespecial 1, 3) := by decide +kernel
theorem dX19_init_4 : decode cX19_init 4 = .ok (.aload_n 0, 1) := by decide +kernel
theorem dX19_init_5 : decode cX19_init 5 = .ok (.iconst 4, 1) := by decide +kernel
theorem dX19_init_6 : decode cX19_init 6 = .ok (.iconst 4, 1) := by decide +kernel
theorem dX19_init_7 : decode cX19_init 7 = .ok (.multianewarray 9 2, 4) := by decide +kernel
theorem dX19_init_11 : decode cX19_init 11 = .ok (.putfield 11, 3) := by decide +kernel
theorem dX19_init_14 : decode cX19_init 14 = .ok (.aload_n 0, 1) := by decide +kernel
theorem dX19_init_15 : decode cX19_init 15 = .ok (.new 14, 3) := by decide +kernel
theorem dX19_init_18 : decode cX19_init 18 = .ok (.dup, 1) := by decide +kernel
theorem dX19_init_19 : decode cX19_init 19 = .ok (.invokespecial 16, 3) := by decide +kernel
theorem dX19_init_22 : decode cX19_init 22 = .ok (.putfield 17, 3) := by decide +kernel
theorem dX19_init_25 : decode cX19_init 25 = .ok (.aload_n 0, 1) := by decide +kernel
theorem dX19_init_26 : decode cX19_init 26 = .ok (.new 14, 3) := by decide +kernel
theorem dX19_init_29 : decode cX19_init 29 = .ok (.dup, 1) := by decide +kernel
theorem dX19_init_30 : decode cX19_init 30 = .ok (.invokespecial 16, 3) := by decide +kernel
theorem dX19_init_33 : decode cX19_init 33 = .ok (.putfield 21, 3) := by decide +kernel
theorem dX19_init_36 : decode cX19_init 36 = .ok (.aload_n 0, 1) := by decide +kernel
theorem dX19_init_37 : decode cX19_init 37 = .ok (.new 14, 3) := by decide +kernel
theorem dX19_init_40 : decode cX19_init 40 = .ok (.dup, 1) := by decide +kernel
theorem dX19_init_41 : decode cX19_init 41 = .ok (.invokespecial 16, 3) := by decide +kernel
theorem dX19_init_44 : decode cX19_init 44 = .ok (.putfield 24, 3) := by decide +kernel
theorem dX19_init_47 : decode cX19_init 47 = .ok (.aload_n 0, 1) := by decide +kernel
theorem dX19_init_48 : decode cX19_init 48 = .ok (.new 14, 3) := by decide +kernel
theorem dX19_init_51 : decode cX19_init 51 = .ok (.dup, 1) := by decide +kernel
theorem dX19_init_52 : decode cX19_init 52 = .ok (.invokespecial 16, 3) := by decide +kernel
theorem dX19_init_55 : decode cX19_init 55 = .ok (.putfield 27, 3) := by decide +kernel
theorem dX19_init_58 : decode cX19_init 58 = .ok (.aload_n 0, 1) := by decide +kernel
theorem dX19_init_59 : decode cX19_init 59 = .ok (.iconst 1, 1) := by decide +kernel
theorem dX19_init_60 : decode cX19_init 60 = .ok (.putfield 30, 3) := by decide +kernel
theorem dX19_init_63 : decode cX19_init 63 = .ok (.aload_n 0, 1) := by decide +kernel
theorem dX19_init_64 : decode cX19_init 64 = .ok (.iconst 1, 1) := by decide +kernel
theorem dX19_init_65 : decode cX19_init 65 = .ok (.putfield 34, 3) := by decide +kernel
theorem dX19_init_68 : decode cX19_init 68 = .ok (.aload_n 0, 1) := by decide +kernel
theorem dX19_init_69 : decode cX19_init 69 = .ok (.new 14, 3) := by decide +kernel
theorem dX19_init_72 : decode cX19_init 72 = .ok (.dup, 1) := by decide +kernel
theorem dX19_init_73 : decode cX19_init 73 = .ok (.invokespecial 16, 3) := by decide +kernel
theorem dX19_init_76 : decode cX19_init 76 = .ok (.putfield 37, 3) := by decide +kernel
theorem dX19_init_79 : decode cX19_init 79 = .ok (.aload_n 0, 1) := by decide +kernel
theorem dX19_init_80 : decode cX19_init 80 = .ok (.new 14, 3) := by decide +kernel
theorem dX19_init_83 : decode cX19_init 83 = .ok (.dup, 1) := by decide +kernel
theorem dX19_init_84 : decode cX19_init 84 = .ok (.invokespecial 16, 3) := by decide +kernel
theorem dX19_init_87 : decode cX19_init 87 = .ok (.putfield 40, 3) := by decide +kernel
theorem dX19_init_90 : decode cX19_init 90 = .ok (.aload_n 0, 1) := by decide +kernel
theorem dX19_init_91 : decode cX19_init 91 = .ok (.new 14, 3) := by decide +kernel
theorem dX19_init_94 : decode cX19_init 94 = .ok (.dup, 1) := by decide +kernel
theorem dX19_init_95 : decode cX19_init 95 = .ok (.invokespecial 16, 3) := by decide +kernel
theorem dX19_init_98 : decode cX19_init 98 = .ok (.putfield 43, 3) := by decide +kernel
theorem dX19_init_101 : decode cX19_init 101 = .ok (.aload_n 0, 1) := by decide +kernel
theorem dX19_init_102 : decode cX19_init 102 = .ok (.getfield 11, 3) := by decide +kernel
theorem dX19_init_105 : decode cX19_init 105 = .ok (.astore_n 1, 1) := by decide +kernel
theorem dX19_init_106 : decode cX19_init 106 = .ok (.aload_n 1, 1) := by decide +kernel
theorem dX19_init_107 : decode cX19_init 107 = .ok (.arraylength, 1) := by decide +kernel
theorem dX19_init_108 : decode cX19_init 108 = .ok (.istore_n 2, 1) := by decide +kernel
theorem dX19_init_109 : decode cX19_init 109 = .ok (.iconst 0, 1) := by decide +kernel
theorem dX19_init_110 : decode cX19_init 110 = .ok (.istore_n 3, 1) := by decide +kernel
theorem dX19_init_111 : decode cX19_init 111 = .ok (.iload_n 3, 1) := by decide +kernel
theorem dX19_init_112 : decode cX19_init 112 = .ok (.iload_n 2, 1) := by decide +kernel
theorem dX19_init_113 : decode cX19_init 113 = .ok (.if_icmp .ge 36, 3) := by decide +kernel
theorem dX19_init_116 : decode cX19_init 116 = .ok (.aload_n 1, 1) := by decide +kernel
theorem dX19_init_117 : decode cX19_init 117 = .ok (.iload_n 3, 1) := by decide +kernel
theorem dX19_init_118 : decode cX19_init 118 = .ok (.aaload, 1) := by decide +kernel
theorem dX19_init_119 : decode cX19_init 119 = .ok (.astore 4, 2) := by decide +kernel
theorem dX19_init_121 : decode cX19_init 121 = .ok (.iconst 0, 1) := by decide +kernel
theorem dX19_init_122 : decode cX19_init 122 = .ok (.istore 5, 2) := by decide +kernel
theorem dX19_init_124 : decode cX19_init 124 = .ok (.iload 5, 2) := by decide +kernel
theorem dX19_init_126 : decode cX19_init 126 = .ok (.iconst 4, 1) := by decide +kernel
theorem dX19_init_127 : decode cX19_init 127 = .ok (.if_icmp .ge 16, 3) := by decide +kernel
theorem dX19_init_130 : decode cX19_init 130 = .ok (.aload 4, 2) := by decide +kernel
theorem dX19_init_132 : decode cX19_init 132 = .ok (.iload 5, 2) := by decide +kernel
theorem dX19_init_134 : decode cX19_init 134 = .ok (.bipush 60, 2) := by decide +kernel
theorem dX19_init_136 : decode cX19_init 136 = .ok (.iastore, 1) := by decide +kernel
theorem dX19_init_137 : decode cX19_init 137 = .ok (.iinc 5 1, 3) := by decide +kernel
theorem dX19_init_140 : decode cX19_init 140 = .ok (.goto (-16), 3) := by decide +kernel
theorem dX19_init_143 : decode cX19_init 143 = .ok (.iinc 3 1, 3) := by decide +kernel
theorem dX19_init_146 : decode cX19_init 146 = .ok (.goto (-35), 3) := by decide +kernel
theorem dX19_init_149 : decode cX19_init 149 = .ok (.return_, 1) := by decide +kernel
theorem dX19_thrown_0 : decode cX19_thrown 0 = .ok (.aload_n 0, 1) := by decide +kernel
theorem dX19_thrown_1 : decode cX19_thrown 1 = .ok (.getfield 46, 3) := by decide +kernel
theorem dX19_thrown_4 : decode cX19_thrown 4 = .ok (.ireturn, 1) := by decide +kernel
theorem dX19_in_0 : decode cX19_in 0 = .ok (.lload_n 0, 1) := by decide +kernel
theorem dX19_in_1 : decode cX19_in 1 = .ok (.lload_n 2, 1) := by decide +kernel
theorem dX19_in_2 : decode cX19_in 2 = .ok (.lcmp, 1) := by decide +kernel
theorem dX19_in_3 : decode cX19_in 3 = .ok (.ifCond .lt 14, 3) := by decide +kernel
theorem dX19_in_6 : decode cX19_in 6 = .ok (.lload_n 0, 1) := by decide +kernel
theorem dX19_in_7 : decode cX19_in 7 = .ok (.lload 4, 2) := by decide +kernel
theorem dX19_in_9 : decode cX19_in 9 = .ok (.lcmp, 1) := by decide +kernel
theorem dX19_in_10 : decode cX19_in 10 = .ok (.ifCond .gt 7, 3) := by decide +kernel
theorem dX19_in_13 : decode cX19_in 13 = .ok (.iconst 1, 1) := by decide +kernel
theorem dX19_in_14 : decode cX19_in 14 = .ok (.goto 4, 3) := by decide +kernel
theorem dX19_in_17 : decode cX19_in 17 = .ok (.iconst 0, 1) := by decide +kernel
theorem dX19_in_18 : decode cX19_in 18 = .ok (.ireturn, 1) := by decide +kernel
theorem dX19_isAirport_0 : decode cX19_isAirport 0 = .ok (.iload_n 0, 1) := by decide +kernel
theorem dX19_isAirport_1 : decode cX19_isAirport 1 = .ok (.i2l, 1) := by decide +kernel
theorem dX19_isAirport_2 : decode cX19_isAirport 2 = .ok (.lconst 0, 1) := by decide +kernel
theorem dX19_isAirport_3 : decode cX19_isAirport 3 = .ok (.ldc2_w 49, 3) := by decide +kernel
theorem dX19_isAirport_6 : decode cX19_isAirport 6 = .ok (.invokestatic 51, 3) := by decide +kernel
theorem dX19_isAirport_9 : decode cX19_isAirport 9 = .ok (.ireturn, 1) := by decide +kernel
theorem dX19_isFlight_0 : decode cX19_isFlight 0 = .ok (.iload_n 1, 1) := by decide +kernel
theorem dX19_isFlight_1 : decode cX19_isFlight 1 = .ok (.i2l, 1) := by decide +kernel
theorem dX19_isFlight_2 : decode cX19_isFlight 2 = .ok (.lconst 0, 1) := by decide +kernel
theorem dX19_isFlight_3 : decode cX19_isFlight 3 = .ok (.aload_n 0, 1) := by decide +kernel
theorem dX19_isFlight_4 : decode cX19_isFlight 4 = .ok (.getfield 37, 3) := by decide +kernel
theorem dX19_isFlight_7 : decode cX19_isFlight 7 = .ok (.invokeinterface 55 1, 5) := by decide +kernel
theorem dX19_isFlight_12 : decode cX19_isFlight 12 = .ok (.iconst 1, 1) := by decide +kernel
theorem dX19_isFlight_13 : decode cX19_isFlight 13 = .ok (.isub, 1) := by decide +kernel
theorem dX19_isFlight_14 : decode cX19_isFlight 14 = .ok (.i2l, 1) := by decide +kernel
theorem dX19_isFlight_15 : decode cX19_isFlight 15 = .ok (.invokestatic 51, 3) := by decide +kernel
theorem dX19_isFlight_18 : decode cX19_isFlight 18 = .ok (.ireturn, 1) := by decide +kernel
theorem dX19_fly_0 : decode cX19_fly 0 = .ok (.aload_n 0, 1) := by decide +kernel
theorem dX19_fly_1 : decode cX19_fly 1 = .ok (.iload_n 1, 1) := by decide +kernel
theorem dX19_fly_2 : decode cX19_fly 2 = .ok (.invokestatic 61, 3) := by decide +kernel
theorem dX19_fly_5 : decode cX19_fly 5 = .ok (.ifCond .eq 10, 3) := by decide +kernel
theorem dX19_fly_8 : decode cX19_fly 8 = .ok (.iload_n 2, 1) := by decide +kernel
theorem dX19_fly_9 : decode cX19_fly 9 = .ok (.invokestatic 61, 3) := by decide +kernel
theorem dX19_fly_12 : decode cX19_fly 12 = .ok (.ifCond .ne 7, 3) := by decide +kernel
theorem dX19_fly_15 : decode cX19_fly 15 = .ok (.iconst 1, 1) := by decide +kernel
theorem dX19_fly_16 : decode cX19_fly 16 = .ok (.goto 27, 3) := by decide +kernel
theorem dX19_fly_19 : decode cX19_fly 19 = .ok (.iload_n 1, 1) := by decide +kernel
theorem dX19_fly_20 : decode cX19_fly 20 = .ok (.iload_n 2, 1) := by decide +kernel
theorem dX19_fly_21 : decode cX19_fly 21 = .ok (.if_icmp .eq 17, 3) := by decide +kernel
theorem dX19_fly_24 : decode cX19_fly 24 = .ok (.iload_n 3, 1) := by decide +kernel
theorem dX19_fly_25 : decode cX19_fly 25 = .ok (.i2l, 1) := by decide +kernel
theorem dX19_fly_26 : decode cX19_fly 26 = .ok (.ldc2_w 65, 3) := by decide +kernel
theorem dX19_fly_29 : decode cX19_fly 29 = .ok (.ldc2_w 67, 3) := by decide +kernel
theorem dX19_fly_32 : decode cX19_fly 32 = .ok (.invokestatic 51, 3) := by decide +kernel
theorem dX19_fly_35 : decode cX19_fly 35 = .ok (.ifCond .ne 7, 3) := by decide +kernel
theorem dX19_fly_38 : decode cX19_fly 38 = .ok (.iconst 2, 1) := by decide +kernel
theorem dX19_fly_39 : decode cX19_fly 39 = .ok (.goto 4, 3) := by decide +kernel
theorem dX19_fly_42 : decode cX19_fly 42 = .ok (.iconst 0, 1) := by decide +kernel
theorem dX19_fly_43 : decode cX19_fly 43 = .ok (.putfield 46, 3) := by decide +kernel
theorem dX19_fly_46 : decode cX19_fly 46 = .ok (.aload_n 0, 1) := by decide +kernel
theorem dX19_fly_47 : decode cX19_fly 47 = .ok (.getfield 46, 3) := by decide +kernel
theorem dX19_fly_50 : decode cX19_fly 50 = .ok (.ifCond .le 5, 3) := by decide +kernel
theorem dX19_fly_53 : decode cX19_fly 53 = .ok (.iconst (-1), 1) := by decide +kernel
theorem dX19_fly_54 : decode cX19_fly 54 = .ok (.ireturn, 1) := by decide +kernel
theorem dX19_fly_55 : decode cX19_fly 55 = .ok (.aload_n 0, 1) := by decide +kernel
theorem dX19_fly_56 : decode cX19_fly 56 = .ok (.aconst_null, 1) := by decide +kernel
theorem dX19_fly_57 : decode cX19_fly 57 = .ok (.putfield 69, 3) := by decide +kernel
theorem dX19_fly_60 : decode cX19_fly 60 = .ok (.aload_n 0, 1) := by decide +kernel
theorem dX19_fly_61 : decode cX19_fly 61 = .ok (.getfield 11, 3) := by decide +kernel
theorem dX19_fly_64 : decode cX19_fly 64 = .ok (.iload_n 1, 1) := by decide +kernel
theorem dX19_fly_65 : decode cX19_fly 65 = .ok (.aaload, 1) := by decide +kernel
theorem dX19_fly_66 : decode cX19_fly 66 = .ok (.iload_n 2, 1) := by decide +kernel
theorem dX19_fly_67 : decode cX19_fly 67 = .ok (.iaload, 1) := by decide +kernel
theorem dX19_fly_68 : decode cX19_fly 68 = .ok (.istore 4, 2) := by decide +kernel
theorem dX19_fly_70 : decode cX19_fly 70 = .ok (.aload_n 0, 1) := by decide +kernel
theorem dX19_fly_71 : decode cX19_fly 71 = .ok (.getfield 11, 3) := by decide +kernel
theorem dX19_fly_74 : decode cX19_fly 74 = .ok (.iload_n 1, 1) := by decide +kernel
theorem dX19_fly_75 : decode cX19_fly 75 = .ok (.aaload, 1) := by decide +kernel
theorem dX19_fly_76 : decode cX19_fly 76 = .ok (.iload_n 2, 1) := by decide +kernel
theorem dX19_fly_77 : decode cX19_fly 77 = .ok (.iload_n 3, 1) := by decide +kernel
theorem dX19_fly_78 : decode cX19_fly 78 = .ok (.iastore, 1) := by decide +kernel
theorem dX19_fly_79 : decode cX19_fly 79 = .ok (.aload_n 0, 1) := by decide +kernel
theorem dX19_fly_80 : decode cX19_fly 80 = .ok (.getfield 11, 3) := by decide +kernel
theorem dX19_fly_83 : decode cX19_fly 83 = .ok (.iload_n 2, 1) := by decide +kernel
theorem dX19_fly_84 : decode cX19_fly 84 = .ok (.aaload, 1) := by decide +kernel
theorem dX19_fly_85 : decode cX19_fly 85 = .ok (.iload_n 1, 1) := by decide +kernel
theorem dX19_fly_86 : decode cX19_fly 86 = .ok (.iload_n 3, 1) := by decide +kernel
theorem dX19_fly_87 : decode cX19_fly 87 = .ok (.iastore, 1) := by decide +kernel
theorem dX19_fly_88 : decode cX19_fly 88 = .ok (.iload 4, 2) := by decide +kernel
theorem dX19_fly_90 : decode cX19_fly 90 = .ok (.ireturn, 1) := by decide +kernel
theorem dX19_addAircraft_0 : decode cX19_addAircraft 0 = .ok (.iload_n 1, 1) := by decide +kernel
theorem dX19_addAircraft_1 : decode cX19_addAircraft 1 = .ok (.i2l, 1) := by decide +kernel
theorem dX19_addAircraft_2 : decode cX19_addAircraft 2 = .ok (.lconst 0, 1) := by decide +kernel
theorem dX19_addAircraft_3 : decode cX19_addAircraft 3 = .ok (.ldc2_w 73, 3) := by decide +kernel
theorem dX19_addAircraft_6 : decode cX19_addAircraft 6 = .ok (.invokestatic 51, 3) := by decide +kernel
theorem dX19_addAircraft_9 : decode cX19_addAircraft 9 = .ok (.ifCond .eq 60, 3) := by decide +kernel
theorem dX19_addAircraft_12 : decode cX19_addAircraft 12 = .ok (.iload_n 3, 1) := by decide +kernel
theorem dX19_addAircraft_13 : decode cX19_addAircraft 13 = .ok (.i2l, 1) := by decide +kernel
theorem dX19_addAircraft_14 : decode cX19_addAircraft 14 = .ok (.ldc2_w 75, 3) := by decide +kernel
theorem dX19_addAircraft_17 : decode cX19_addAircraft 17 = .ok (.ldc2_w 77, 3) := by decide +kernel
theorem dX19_addAircraft_20 : decode cX19_addAircraft 20 = .ok (.invokestatic 51, 3) := by decide +kernel
theorem dX19_addAircraft_23 : decode cX19_addAircraft 23 = .ok (.ifCond .eq 46, 3) := by decide +kernel
theorem dX19_addAircraft_26 : decode cX19_addAircraft 26 = .ok (.iload 4, 2) := by decide +kernel
theorem dX19_addAircraft_28 : decode cX19_addAircraft 28 = .ok (.i2l, 1) := by decide +kernel
theorem dX19_addAircraft_29 : decode cX19_addAircraft 29 = .ok (.lconst 1, 1) := by decide +kernel
theorem dX19_addAircraft_30 : decode cX19_addAircraft 30 = .ok (.ldc2_w 67, 3) := by decide +kernel
theorem dX19_addAircraft_33 : decode cX19_addAircraft 33 = .ok (.invokestatic 51, 3) := by decide +kernel
theorem dX19_addAircraft_36 : decode cX19_addAircraft 36 = .ok (.ifCond .eq 33, 3) := by decide +kernel
theorem dX19_addAircraft_39 : decode cX19_addAircraft 39 = .ok (.iload 5, 2) := by decide +kernel
theorem dX19_addAircraft_41 : decode cX19_addAircraft 41 = .ok (.i2l, 1) := by decide +kernel
theorem dX19_addAircraft_42 : decode cX19_addAircraft 42 = .ok (.lconst 0, 1) := by decide +kernel
theorem dX19_addAircraft_43 : decode cX19_addAircraft 43 = .ok (.ldc2_w 79, 3) := by decide +kernel
theorem dX19_addAircraft_46 : decode cX19_addAircraft 46 = .ok (.invokestatic 51, 3) := by decide +kernel
theorem dX19_addAircraft_49 : decode cX19_addAircraft 49 = .ok (.ifCond .eq 20, 3) := by decide +kernel
theorem dX19_addAircraft_52 : decode cX19_addAircraft 52 = .ok (.iload 6, 2) := by decide +kernel
theorem dX19_addAircraft_54 : decode cX19_addAircraft 54 = .ok (.i2l, 1) := by decide +kernel
theorem dX19_addAircraft_55 : decode cX19_addAircraft 55 = .ok (.lconst 0, 1) := by decide +kernel
theorem dX19_addAircraft_56 : decode cX19_addAircraft 56 = .ok (.ldc2_w 75, 3) := by decide +kernel
theorem dX19_addAircraft_59 : decode cX19_addAircraft 59 = .ok (.invokestatic 51, 3) := by decide +kernel
theorem dX19_addAircraft_62 : decode cX19_addAircraft 62 = .ok (.ifCond .eq 7, 3) := by decide +kernel
theorem dX19_addAircraft_65 : decode cX19_addAircraft 65 = .ok (.iconst 1, 1) := by decide +kernel
theorem dX19_addAircraft_66 : decode cX19_addAircraft 66 = .ok (.goto 4, 3) := by decide +kernel
theorem dX19_addAircraft_69 : decode cX19_addAircraft 69 = .ok (.iconst 0, 1) := by decide +kernel
theorem dX19_addAircraft_70 : decode cX19_addAircraft 70 = .ok (.istore 7, 2) := by decide +kernel
theorem dX19_addAircraft_72 : decode cX19_addAircraft 72 = .ok (.aload_n 0, 1) := by decide +kernel
theorem dX19_addAircraft_73 : decode cX19_addAircraft 73 = .ok (.iload_n 2, 1) := by decide +kernel
theorem dX19_addAircraft_74 : decode cX19_addAircraft 74 = .ok (.invokestatic 61, 3) := by decide +kernel
theorem dX19_addAircraft_77 : decode cX19_addAircraft 77 = .ok (.ifCond .ne 7, 3) := by decide +kernel
theorem dX19_addAircraft_80 : decode cX19_addAircraft 80 = .ok (.iconst 1, 1) := by decide +kernel
theorem dX19_addAircraft_81 : decode cX19_addAircraft 81 = .ok (.goto 30, 3) := by decide +kernel
theorem dX19_addAircraft_84 : decode cX19_addAircraft 84 = .ok (.iload 7, 2) := by decide +kernel
theorem dX19_addAircraft_86 : decode cX19_addAircraft 86 = .ok (.ifCond .ne 7, 3) := by decide +kernel
theorem dX19_addAircraft_89 : decode cX19_addAircraft 89 = .ok (.iconst 2, 1) := by decide +kernel
theorem dX19_addAircraft_90 : decode cX19_addAircraft 90 = .ok (.goto 21, 3) := by decide +kernel
theorem dX19_addAircraft_93 : decode cX19_addAircraft 93 = .ok (.aload_n 0, 1) := by decide +kernel
theorem dX19_addAircraft_94 : decode cX19_addAircraft 94 = .ok (.getfield 17, 3) := by decide +kernel
theorem dX19_addAircraft_97 : decode cX19_addAircraft 97 = .ok (.invokeinterface 55 1, 5) := by decide +kernel
theorem dX19_addAircraft_102 : decode cX19_addAircraft 102 = .ok (.iconst 5, 1) := by decide +kernel
theorem dX19_addAircraft_103 : decode cX19_addAircraft 103 = .ok (.if_icmp .ne 7, 3) := by decide +kernel
theorem dX19_addAircraft_106 : decode cX19_addAircraft 106 = .ok (.iconst 3, 1) := by decide +kernel
theorem dX19_addAircraft_107 : decode cX19_addAircraft 107 = .ok (.goto 4, 3) := by decide +kernel
theorem dX19_addAircraft_110 : decode cX19_addAircraft 110 = .ok (.iconst 0, 1) := by decide +kernel
theorem dX19_addAircraft_111 : decode cX19_addAircraft 111 = .ok (.putfield 46, 3) := by decide +kernel
theorem dX19_addAircraft_114 : decode cX19_addAircraft 114 = .ok (.aload_n 0, 1) := by decide +kernel
theorem dX19_addAircraft_115 : decode cX19_addAircraft 115 = .ok (.getfield 46, 3) := by decide +kernel
theorem dX19_addAircraft_118 : decode cX19_addAircraft 118 = .ok (.ifCond .le 5, 3) := by decide +kernel
theorem dX19_addAircraft_121 : decode cX19_addAircraft 121 = .ok (.iconst (-1), 1) := by decide +kernel
theorem dX19_addAircraft_122 : decode cX19_addAircraft 122 = .ok (.ireturn, 1) := by decide +kernel
theorem dX19_addAircraft_123 : decode cX19_addAircraft 123 = .ok (.aload_n 0, 1) := by decide +kernel
theorem dX19_addAircraft_124 : decode cX19_addAircraft 124 = .ok (.aconst_null, 1) := by decide +kernel
theorem dX19_addAircraft_125 : decode cX19_addAircraft 125 = .ok (.putfield 69, 3) := by decide +kernel
theorem dX19_addAircraft_128 : decode cX19_addAircraft 128 = .ok (.aload_n 0, 1) := by decide +kernel
theorem dX19_addAircraft_129 : decode cX19_addAircraft 129 = .ok (.getfield 17, 3) := by decide +kernel
theorem dX19_addAircraft_132 : decode cX19_addAircraft 132 = .ok (.new 81, 3) := by decide +kernel
theorem dX19_addAircraft_135 : decode cX19_addAircraft 135 = .ok (.dup, 1) := by decide +kernel
theorem dX19_addAircraft_136 : decode cX19_addAircraft 136 = .ok (.iload_n 1, 1) := by decide +kernel
theorem dX19_addAircraft_137 : decode cX19_addAircraft 137 = .ok (.iload_n 2, 1) := by decide +kernel
theorem dX19_addAircraft_138 : decode cX19_addAircraft 138 = .ok (.iload_n 3, 1) := by decide +kernel
theorem dX19_addAircraft_139 : decode cX19_addAircraft 139 = .ok (.iload 4, 2) := by decide +kernel
theorem dX19_addAircraft_141 : decode cX19_addAircraft 141 = .ok (.iload 5, 2) := by decide +kernel
theorem dX19_addAircraft_143 : decode cX19_addAircraft 143 = .ok (.iload 6, 2) := by decide +kernel
theorem dX19_addAircraft_145 : decode cX19_addAircraft 145 = .ok (.invokespecial 83, 3) := by decide +kernel
theorem dX19_addAircraft_148 : decode cX19_addAircraft 148 = .ok (.invokeinterface 86 2, 5) := by decide +kernel
theorem dX19_addAircraft_153 : decode cX19_addAircraft 153 = .ok (.pop, 1) := by decide +kernel
theorem dX19_addAircraft_154 : decode cX19_addAircraft 154 = .ok (.aload_n 0, 1) := by decide +kernel
theorem dX19_addAircraft_155 : decode cX19_addAircraft 155 = .ok (.getfield 17, 3) := by decide +kernel
theorem dX19_addAircraft_158 : decode cX19_addAircraft 158 = .ok (.invokeinterface 55 1, 5) := by decide +kernel
theorem dX19_addAircraft_163 : decode cX19_addAircraft 163 = .ok (.iconst 1, 1) := by decide +kernel
theorem dX19_addAircraft_164 : decode cX19_addAircraft 164 = .ok (.isub, 1) := by decide +kernel
theorem dX19_addAircraft_165 : decode cX19_addAircraft 165 = .ok (.ireturn, 1) := by decide +kernel
theorem dX19_fault_0 : decode cX19_fault 0 = .ok (.aload_n 0, 1) := by decide +kernel
theorem dX19_fault_1 : decode cX19_fault 1 = .ok (.iload_n 1, 1) := by decide +kernel
theorem dX19_fault_2 : decode cX19_fault 2 = .ok (.i2l, 1) := by decide +kernel
theorem dX19_fault_3 : decode cX19_fault 3 = .ok (.lconst 0, 1) := by decide +kernel
theorem dX19_fault_4 : decode cX19_fault 4 = .ok (.aload_n 0, 1) := by decide +kernel
theorem dX19_fault_5 : decode cX19_fault 5 = .ok (.getfield 17, 3) := by decide +kernel
theorem dX19_fault_8 : decode cX19_fault 8 = .ok (.invokeinterface 55 1, 5) := by decide +kernel
theorem dX19_fault_13 : decode cX19_fault 13 = .ok (.iconst 1, 1) := by decide +kernel
theorem dX19_fault_14 : decode cX19_fault 14 = .ok (.isub, 1) := by decide +kernel
theorem dX19_fault_15 : decode cX19_fault 15 = .ok (.i2l, 1) := by decide +kernel
theorem dX19_fault_16 : decode cX19_fault 16 = .ok (.invokestatic 51, 3) := by decide +kernel
theorem dX19_fault_19 : decode cX19_fault 19 = .ok (.ifCond .eq 10, 3) := by decide +kernel
theorem dX19_fault_22 : decode cX19_fault 22 = .ok (.iload_n 2, 1) := by decide +kernel
theorem dX19_fault_23 : decode cX19_fault 23 = .ok (.invokestatic 61, 3) := by decide +kernel
theorem dX19_fault_26 : decode cX19_fault 26 = .ok (.ifCond .ne 7, 3) := by decide +kernel
theorem dX19_fault_29 : decode cX19_fault 29 = .ok (.iconst 1, 1) := by decide +kernel
theorem dX19_fault_30 : decode cX19_fault 30 = .ok (.goto 4, 3) := by decide +kernel
theorem dX19_fault_33 : decode cX19_fault 33 = .ok (.iconst 0, 1) := by decide +kernel
theorem dX19_fault_34 : decode cX19_fault 34 = .ok (.putfield 46, 3) := by decide +kernel
theorem dX19_fault_37 : decode cX19_fault 37 = .ok (.aload_n 0, 1) := by decide +kernel
theorem dX19_fault_38 : decode cX19_fault 38 = .ok (.getfield 46, 3) := by decide +kernel
theorem dX19_fault_41 : decode cX19_fault 41 = .ok (.ifCond .le 5, 3) := by decide +kernel
theorem dX19_fault_44 : decode cX19_fault 44 = .ok (.iconst 0, 1) := by decide +kernel
theorem dX19_fault_45 : decode cX19_fault 45 = .ok (.ireturn, 1) := by decide +kernel
theorem dX19_fault_46 : decode cX19_fault 46 = .ok (.aload_n 0, 1) := by decide +kernel
theorem dX19_fault_47 : decode cX19_fault 47 = .ok (.aconst_null, 1) := by decide +kernel
theorem dX19_fault_48 : decode cX19_fault 48 = .ok (.putfield 69, 3) := by decide +kernel
theorem dX19_fault_51 : decode cX19_fault 51 = .ok (.aload_n 0, 1) := by decide +kernel
theorem dX19_fault_52 : decode cX19_fault 52 = .ok (.getfield 17, 3) := by decide +kernel
theorem dX19_fault_55 : decode cX19_fault 55 = .ok (.iload_n 1, 1) := by decide +kernel
theorem dX19_fault_56 : decode cX19_fault 56 = .ok (.invokeinterface 90 2, 5) := by decide +kernel
theorem dX19_fault_61 : decode cX19_fault 61 = .ok (.checkcast 81, 3) := by decide +kernel
theorem dX19_fault_64 : decode cX19_fault 64 = .ok (.getfield 94, 3) := by decide +kernel
theorem dX19_fault_67 : decode cX19_fault 67 = .ok (.iload_n 2, 1) := by decide +kernel
theorem dX19_fault_68 : decode cX19_fault 68 = .ok (.ishr, 1) := by decide +kernel
theorem dX19_fault_69 : decode cX19_fault 69 = .ok (.iconst 1, 1) := by decide +kernel
theorem dX19_fault_70 : decode cX19_fault 70 = .ok (.iand, 1) := by decide +kernel
theorem dX19_fault_71 : decode cX19_fault 71 = .ok (.ifCond .ne 7, 3) := by decide +kernel
theorem dX19_fault_74 : decode cX19_fault 74 = .ok (.iconst 1, 1) := by decide +kernel
theorem dX19_fault_75 : decode cX19_fault 75 = .ok (.goto 4, 3) := by decide +kernel
theorem dX19_fault_78 : decode cX19_fault 78 = .ok (.iconst 0, 1) := by decide +kernel
theorem dX19_fault_79 : decode cX19_fault 79 = .ok (.istore_n 3, 1) := by decide +kernel
theorem dX19_fault_80 : decode cX19_fault 80 = .ok (.aload_n 0, 1) := by decide +kernel
theorem dX19_fault_81 : decode cX19_fault 81 = .ok (.getfield 17, 3) := by decide +kernel
theorem dX19_fault_84 : decode cX19_fault 84 = .ok (.iload_n 1, 1) := by decide +kernel
theorem dX19_fault_85 : decode cX19_fault 85 = .ok (.invokeinterface 90 2, 5) := by decide +kernel
theorem dX19_fault_90 : decode cX19_fault 90 = .ok (.checkcast 81, 3) := by decide +kernel
theorem dX19_fault_93 : decode cX19_fault 93 = .ok (.dup, 1) := by decide +kernel
theorem dX19_fault_94 : decode cX19_fault 94 = .ok (.getfield 94, 3) := by decide +kernel
theorem dX19_fault_97 : decode cX19_fault 97 = .ok (.iconst 1, 1) := by decide +kernel
theorem dX19_fault_98 : decode cX19_fault 98 = .ok (.iload_n 2, 1) := by decide +kernel
theorem dX19_fault_99 : decode cX19_fault 99 = .ok (.ishl, 1) := by decide +kernel
theorem dX19_fault_100 : decode cX19_fault 100 = .ok (.ior, 1) := by decide +kernel
theorem dX19_fault_101 : decode cX19_fault 101 = .ok (.putfield 94, 3) := by decide +kernel
theorem dX19_fault_104 : decode cX19_fault 104 = .ok (.iload_n 3, 1) := by decide +kernel
theorem dX19_fault_105 : decode cX19_fault 105 = .ok (.ireturn, 1) := by decide +kernel
theorem dX19_addCrew_0 : decode cX19_addCrew 0 = .ok (.aload_n 0, 1) := by decide +kernel
theorem dX19_addCrew_1 : decode cX19_addCrew 1 = .ok (.iload_n 1, 1) := by decide +kernel
theorem dX19_addCrew_2 : decode cX19_addCrew 2 = .ok (.invokestatic 61, 3) := by decide +kernel
theorem dX19_addCrew_5 : decode cX19_addCrew 5 = .ok (.ifCond .ne 7, 3) := by decide +kernel
theorem dX19_addCrew_8 : decode cX19_addCrew 8 = .ok (.iconst 1, 1) := by decide +kernel
theorem dX19_addCrew_9 : decode cX19_addCrew 9 = .ok (.goto 49, 3) := by decide +kernel
theorem dX19_addCrew_12 : decode cX19_addCrew 12 = .ok (.iload_n 2, 1) := by decide +kernel
theorem dX19_addCrew_13 : decode cX19_addCrew 13 = .ok (.i2l, 1) := by decide +kernel
theorem dX19_addCrew_14 : decode cX19_addCrew 14 = .ok (.lconst 0, 1) := by decide +kernel
theorem dX19_addCrew_15 : decode cX19_addCrew 15 = .ok (.ldc2_w 97, 3) := by decide +kernel
theorem dX19_addCrew_18 : decode cX19_addCrew 18 = .ok (.invokestatic 51, 3) := by decide +kernel
theorem dX19_addCrew_21 : decode cX19_addCrew 21 = .ok (.ifCond .eq 15, 3) := by decide +kernel
theorem dX19_addCrew_24 : decode cX19_addCrew 24 = .ok (.iload_n 3, 1) := by decide +kernel
theorem dX19_addCrew_25 : decode cX19_addCrew 25 = .ok (.i2l, 1) := by decide +kernel
theorem dX19_addCrew_26 : decode cX19_addCrew 26 = .ok (.lconst 1, 1) := by decide +kernel
theorem dX19_addCrew_27 : decode cX19_addCrew 27 = .ok (.ldc2_w 99, 3) := by decide +kernel
theorem dX19_addCrew_30 : decode cX19_addCrew 30 = .ok (.invokestatic 51, 3) := by decide +kernel
theorem dX19_addCrew_33 : decode cX19_addCrew 33 = .ok (.ifCond .ne 7, 3) := by decide +kernel
theorem dX19_addCrew_36 : decode cX19_addCrew 36 = .ok (.iconst 2, 1) := by decide +kernel
theorem dX19_addCrew_37 : decode cX19_addCrew 37 = .ok (.goto 21, 3) := by decide +kernel
theorem dX19_addCrew_40 : decode cX19_addCrew 40 = .ok (.aload_n 0, 1) := by decide +kernel
theorem dX19_addCrew_41 : decode cX19_addCrew 41 = .ok (.getfield 21, 3) := by decide +kernel
theorem dX19_addCrew_44 : decode cX19_addCrew 44 = .ok (.invokeinterface 55 1, 5) := by decide +kernel
theorem dX19_addCrew_49 : decode cX19_addCrew 49 = .ok (.iconst 5, 1) := by decide +kernel
theorem dX19_addCrew_50 : decode cX19_addCrew 50 = .ok (.if_icmp .ne 7, 3) := by decide +kernel
theorem dX19_addCrew_53 : decode cX19_addCrew 53 = .ok (.iconst 3, 1) := by decide +kernel
theorem dX19_addCrew_54 : decode cX19_addCrew 54 = .ok (.goto 4, 3) := by decide +kernel
theorem dX19_addCrew_57 : decode cX19_addCrew 57 = .ok (.iconst 0, 1) := by decide +kernel
theorem dX19_addCrew_58 : decode cX19_addCrew 58 = .ok (.putfield 46, 3) := by decide +kernel
theorem dX19_addCrew_61 : decode cX19_addCrew 61 = .ok (.aload_n 0, 1) := by decide +kernel
theorem dX19_addCrew_62 : decode cX19_addCrew 62 = .ok (.getfield 46, 3) := by decide +kernel
theorem dX19_addCrew_65 : decode cX19_addCrew 65 = .ok (.ifCond .le 5, 3) := by decide +kernel
theorem dX19_addCrew_68 : decode cX19_addCrew 68 = .ok (.iconst (-1), 1) := by decide +kernel
theorem dX19_addCrew_69 : decode cX19_addCrew 69 = .ok (.ireturn, 1) := by decide +kernel
theorem dX19_addCrew_70 : decode cX19_addCrew 70 = .ok (.aload_n 0, 1) := by decide +kernel
theorem dX19_addCrew_71 : decode cX19_addCrew 71 = .ok (.aconst_null, 1) := by decide +kernel
theorem dX19_addCrew_72 : decode cX19_addCrew 72 = .ok (.putfield 69, 3) := by decide +kernel
theorem dX19_addCrew_75 : decode cX19_addCrew 75 = .ok (.aload_n 0, 1) := by decide +kernel
theorem dX19_addCrew_76 : decode cX19_addCrew 76 = .ok (.getfield 21, 3) := by decide +kernel
theorem dX19_addCrew_79 : decode cX19_addCrew 79 = .ok (.new 101, 3) := by decide +kernel
theorem dX19_addCrew_82 : decode cX19_addCrew 82 = .ok (.dup, 1) := by decide +kernel
theorem dX19_addCrew_83 : decode cX19_addCrew 83 = .ok (.iload_n 1, 1) := by decide +kernel
theorem dX19_addCrew_84 : decode cX19_addCrew 84 = .ok (.iload_n 2, 1) := by decide +kernel
theorem dX19_addCrew_85 : decode cX19_addCrew 85 = .ok (.iload_n 3, 1) := by decide +kernel
theorem dX19_addCrew_86 : decode cX19_addCrew 86 = .ok (.iload 4, 2) := by decide +kernel
theorem dX19_addCrew_88 : decode cX19_addCrew 88 = .ok (.invokespecial 103, 3) := by decide +kernel
theorem dX19_addCrew_91 : decode cX19_addCrew 91 = .ok (.invokeinterface 86 2, 5) := by decide +kernel
theorem dX19_addCrew_96 : decode cX19_addCrew 96 = .ok (.pop, 1) := by decide +kernel
theorem dX19_addCrew_97 : decode cX19_addCrew 97 = .ok (.aload_n 0, 1) := by decide +kernel
theorem dX19_addCrew_98 : decode cX19_addCrew 98 = .ok (.getfield 21, 3) := by decide +kernel
theorem dX19_addCrew_101 : decode cX19_addCrew 101 = .ok (.invokeinterface 55 1, 5) := by decide +kernel
theorem dX19_addCrew_106 : decode cX19_addCrew 106 = .ok (.iconst 1, 1) := by decide +kernel
theorem dX19_addCrew_107 : decode cX19_addCrew 107 = .ok (.isub, 1) := by decide +kernel
theorem dX19_addCrew_108 : decode cX19_addCrew 108 = .ok (.ireturn, 1) := by decide +kernel
theorem dX19_addStand_0 : decode cX19_addStand 0 = .ok (.aload_n 0, 1) := by decide +kernel
theorem dX19_addStand_1 : decode cX19_addStand 1 = .ok (.iload_n 1, 1) := by decide +kernel
theorem dX19_addStand_2 : decode cX19_addStand 2 = .ok (.i2l, 1) := by decide +kernel
theorem dX19_addStand_3 : decode cX19_addStand 3 = .ok (.lconst 0, 1) := by decide +kernel
theorem dX19_addStand_4 : decode cX19_addStand 4 = .ok (.ldc2_w 73, 3) := by decide +kernel
theorem dX19_addStand_7 : decode cX19_addStand 7 = .ok (.invokestatic 51, 3) := by decide +kernel
theorem dX19_addStand_10 : decode cX19_addStand 10 = .ok (.ifCond .ne 7, 3) := by decide +kernel
theorem dX19_addStand_13 : decode cX19_addStand 13 = .ok (.iconst 1, 1) := by decide +kernel
theorem dX19_addStand_14 : decode cX19_addStand 14 = .ok (.goto 22, 3) := by decide +kernel
theorem dX19_addStand_17 : decode cX19_addStand 17 = .ok (.aload_n 0, 1) := by decide +kernel
theorem dX19_addStand_18 : decode cX19_addStand 18 = .ok (.getfield 24, 3) := by decide +kernel
theorem dX19_addStand_21 : decode cX19_addStand 21 = .ok (.invokeinterface 55 1, 5) := by decide +kernel
theorem dX19_addStand_26 : decode cX19_addStand 26 = .ok (.bipush 6, 2) := by decide +kernel
theorem dX19_addStand_28 : decode cX19_addStand 28 = .ok (.if_icmp .ne 7, 3) := by decide +kernel
theorem dX19_addStand_31 : decode cX19_addStand 31 = .ok (.iconst 2, 1) := by decide +kernel
theorem dX19_addStand_32 : decode cX19_addStand 32 = .ok (.goto 4, 3) := by decide +kernel
theorem dX19_addStand_35 : decode cX19_addStand 35 = .ok (.iconst 0, 1) := by decide +kernel
theorem dX19_addStand_36 : decode cX19_addStand 36 = .ok (.putfield 46, 3) := by decide +kernel
theorem dX19_addStand_39 : decode cX19_addStand 39 = .ok (.aload_n 0, 1) := by decide +kernel
theorem dX19_addStand_40 : decode cX19_addStand 40 = .ok (.getfield 46, 3) := by decide +kernel
theorem dX19_addStand_43 : decode cX19_addStand 43 = .ok (.ifCond .le 5, 3) := by decide +kernel
theorem dX19_addStand_46 : decode cX19_addStand 46 = .ok (.iconst (-1), 1) := by decide +kernel
theorem dX19_addStand_47 : decode cX19_addStand 47 = .ok (.ireturn, 1) := by decide +kernel
theorem dX19_addStand_48 : decode cX19_addStand 48 = .ok (.aload_n 0, 1) := by decide +kernel
theorem dX19_addStand_49 : decode cX19_addStand 49 = .ok (.aconst_null, 1) := by decide +kernel
theorem dX19_addStand_50 : decode cX19_addStand 50 = .ok (.putfield 69, 3) := by decide +kernel
theorem dX19_addStand_53 : decode cX19_addStand 53 = .ok (.aload_n 0, 1) := by decide +kernel
theorem dX19_addStand_54 : decode cX19_addStand 54 = .ok (.getfield 24, 3) := by decide +kernel
theorem dX19_addStand_57 : decode cX19_addStand 57 = .ok (.iconst 2, 1) := by decide +kernel
theorem dX19_addStand_58 : decode cX19_addStand 58 = .ok (.newarray .int, 2) := by decide +kernel
theorem dX19_addStand_60 : decode cX19_addStand 60 = .ok (.dup, 1) := by decide +kernel
theorem dX19_addStand_61 : decode cX19_addStand 61 = .ok (.iconst 0, 1) := by decide +kernel
theorem dX19_addStand_62 : decode cX19_addStand 62 = .ok (.iload_n 1, 1) := by decide +kernel
theorem dX19_addStand_63 : decode cX19_addStand 63 = .ok (.iastore, 1) := by decide +kernel
theorem dX19_addStand_64 : decode cX19_addStand 64 = .ok (.dup, 1) := by decide +kernel
theorem dX19_addStand_65 : decode cX19_addStand 65 = .ok (.iconst 1, 1) := by decide +kernel
theorem dX19_addStand_66 : decode cX19_addStand 66 = .ok (.iload_n 2, 1) := by decide +kernel
theorem dX19_addStand_67 : decode cX19_addStand 67 = .ok (.ifCond .eq 7, 3) := by decide +kernel
theorem dX19_addStand_70 : decode cX19_addStand 70 = .ok (.iconst 1, 1) := by decide +kernel
theorem dX19_addStand_71 : decode cX19_addStand 71 = .ok (.goto 4, 3) := by decide +kernel
theorem dX19_addStand_74 : decode cX19_addStand 74 = .ok (.iconst 0, 1) := by decide +kernel
theorem dX19_addStand_75 : decode cX19_addStand 75 = .ok (.iastore, 1) := by decide +kernel
theorem dX19_addStand_76 : decode cX19_addStand 76 = .ok (.invokeinterface 86 2, 5) := by decide +kernel
theorem dX19_addStand_81 : decode cX19_addStand 81 = .ok (.pop, 1) := by decide +kernel
theorem dX19_addStand_82 : decode cX19_addStand 82 = .ok (.aload_n 0, 1) := by decide +kernel
theorem dX19_addStand_83 : decode cX19_addStand 83 = .ok (.getfield 24, 3) := by decide +kernel
theorem dX19_addStand_86 : decode cX19_addStand 86 = .ok (.invokeinterface 55 1, 5) := by decide +kernel
theorem dX19_addStand_91 : decode cX19_addStand 91 = .ok (.iconst 1, 1) := by decide +kernel
theorem dX19_addStand_92 : decode cX19_addStand 92 = .ok (.isub, 1) := by decide +kernel
theorem dX19_addStand_93 : decode cX19_addStand 93 = .ok (.ireturn, 1) := by decide +kernel
theorem dX19_turnRunway_0 : decode cX19_turnRunway 0 = .ok (.aload_n 0, 1) := by decide +kernel
theorem dX19_turnRunway_1 : decode cX19_turnRunway 1 = .ok (.iload_n 1, 1) := by decide +kernel
theorem dX19_turnRunway_2 : decode cX19_turnRunway 2 = .ok (.i2l, 1) := by decide +kernel
theorem dX19_turnRunway_3 : decode cX19_turnRunway 3 = .ok (.lconst 0, 1) := by decide +kernel
theorem dX19_turnRunway_4 : decode cX19_turnRunway 4 = .ok (.ldc2_w 106, 3) := by decide +kernel
theorem dX19_turnRunway_7 : decode cX19_turnRunway 7 = .ok (.invokestatic 51, 3) := by decide +kernel
theorem dX19_turnRunway_10 : decode cX19_turnRunway 10 = .ok (.ifCond .ne 7, 3) := by decide +kernel
theorem dX19_turnRunway_13 : decode cX19_turnRunway 13 = .ok (.iconst 1, 1) := by decide +kernel
theorem dX19_turnRunway_14 : decode cX19_turnRunway 14 = .ok (.goto 21, 3) := by decide +kernel
theorem dX19_turnRunway_17 : decode cX19_turnRunway 17 = .ok (.aload_n 0, 1) := by decide +kernel
theorem dX19_turnRunway_18 : decode cX19_turnRunway 18 = .ok (.getfield 27, 3) := by decide +kernel
theorem dX19_turnRunway_21 : decode cX19_turnRunway 21 = .ok (.invokeinterface 55 1, 5) := by decide +kernel
theorem dX19_turnRunway_26 : decode cX19_turnRunway 26 = .ok (.iconst 3, 1) := by decide +kernel
theorem dX19_turnRunway_27 : decode cX19_turnRunway 27 = .ok (.if_icmp .ne 7, 3) := by decide +kernel
theorem dX19_turnRunway_30 : decode cX19_turnRunway 30 = .ok (.iconst 2, 1) := by decide +kernel
theorem dX19_turnRunway_31 : decode cX19_turnRunway 31 = .ok (.goto 4, 3) := by decide +kernel
theorem dX19_turnRunway_34 : decode cX19_turnRunway 34 = .ok (.iconst 0, 1) := by decide +kernel
theorem dX19_turnRunway_35 : decode cX19_turnRunway 35 = .ok (.putfield 46, 3) := by decide +kernel
theorem dX19_turnRunway_38 : decode cX19_turnRunway 38 = .ok (.aload_n 0, 1) := by decide +kernel
theorem dX19_turnRunway_39 : decode cX19_turnRunway 39 = .ok (.getfield 46, 3) := by decide +kernel
theorem dX19_turnRunway_42 : decode cX19_turnRunway 42 = .ok (.ifCond .le 5, 3) := by decide +kernel
theorem dX19_turnRunway_45 : decode cX19_turnRunway 45 = .ok (.iconst (-1), 1) := by decide +kernel
theorem dX19_turnRunway_46 : decode cX19_turnRunway 46 = .ok (.ireturn, 1) := by decide +kernel
theorem dX19_turnRunway_47 : decode cX19_turnRunway 47 = .ok (.aload_n 0, 1) := by decide +kernel
theorem dX19_turnRunway_48 : decode cX19_turnRunway 48 = .ok (.aconst_null, 1) := by decide +kernel
theorem dX19_turnRunway_49 : decode cX19_turnRunway 49 = .ok (.putfield 69, 3) := by decide +kernel
theorem dX19_turnRunway_52 : decode cX19_turnRunway 52 = .ok (.aload_n 0, 1) := by decide +kernel
theorem dX19_turnRunway_53 : decode cX19_turnRunway 53 = .ok (.getfield 27, 3) := by decide +kernel
theorem dX19_turnRunway_56 : decode cX19_turnRunway 56 = .ok (.iload_n 1, 1) := by decide +kernel
theorem dX19_turnRunway_57 : decode cX19_turnRunway 57 = .ok (.invokestatic 108, 3) := by decide +kernel
theorem dX19_turnRunway_60 : decode cX19_turnRunway 60 = .ok (.invokeinterface 86 2, 5) := by decide +kernel
theorem dX19_turnRunway_65 : decode cX19_turnRunway 65 = .ok (.pop, 1) := by decide +kernel
theorem dX19_turnRunway_66 : decode cX19_turnRunway 66 = .ok (.aload_n 0, 1) := by decide +kernel
theorem dX19_turnRunway_67 : decode cX19_turnRunway 67 = .ok (.getfield 27, 3) := by decide +kernel
theorem dX19_turnRunway_70 : decode cX19_turnRunway 70 = .ok (.invokeinterface 55 1, 5) := by decide +kernel
theorem dX19_turnRunway_75 : decode cX19_turnRunway 75 = .ok (.ireturn, 1) := by decide +kernel
theorem dX19_ice_0 : decode cX19_ice 0 = .ok (.aload_n 0, 1) := by decide +kernel
theorem dX19_ice_1 : decode cX19_ice 1 = .ok (.iload_n 1, 1) := by decide +kernel
theorem dX19_ice_2 : decode cX19_ice 2 = .ok (.i2l, 1) := by decide +kernel
theorem dX19_ice_3 : decode cX19_ice 3 = .ok (.lconst 0, 1) := by decide +kernel
theorem dX19_ice_4 : decode cX19_ice 4 = .ok (.ldc2_w 106, 3) := by decide +kernel
theorem dX19_ice_7 : decode cX19_ice 7 = .ok (.invokestatic 51, 3) := by decide +kernel
theorem dX19_ice_10 : decode cX19_ice 10 = .ok (.ifCond .eq 10, 3) := by decide +kernel
theorem dX19_ice_13 : decode cX19_ice 13 = .ok (.iload_n 2, 1) := by decide +kernel
theorem dX19_ice_14 : decode cX19_ice 14 = .ok (.sipush 1999, 3) := by decide +kernel
theorem dX19_ice_17 : decode cX19_ice 17 = .ok (.if_icmp .le 7, 3) := by decide +kernel
theorem dX19_ice_20 : decode cX19_ice 20 = .ok (.iconst 1, 1) := by decide +kernel
theorem dX19_ice_21 : decode cX19_ice 21 = .ok (.goto 4, 3) := by decide +kernel
theorem dX19_ice_24 : decode cX19_ice 24 = .ok (.iconst 0, 1) := by decide +kernel
theorem dX19_ice_25 : decode cX19_ice 25 = .ok (.putfield 46, 3) := by decide +kernel
theorem dX19_ice_28 : decode cX19_ice 28 = .ok (.aload_n 0, 1) := by decide +kernel
theorem dX19_ice_29 : decode cX19_ice 29 = .ok (.getfield 46, 3) := by decide +kernel
theorem dX19_ice_32 : decode cX19_ice 32 = .ok (.ifCond .le 5, 3) := by decide +kernel
theorem dX19_ice_35 : decode cX19_ice 35 = .ok (.iconst (-1), 1) := by decide +kernel
theorem dX19_ice_36 : decode cX19_ice 36 = .ok (.ireturn, 1) := by decide +kernel
theorem dX19_ice_37 : decode cX19_ice 37 = .ok (.aload_n 0, 1) := by decide +kernel
theorem dX19_ice_38 : decode cX19_ice 38 = .ok (.aconst_null, 1) := by decide +kernel
theorem dX19_ice_39 : decode cX19_ice 39 = .ok (.putfield 69, 3) := by decide +kernel
theorem dX19_ice_42 : decode cX19_ice 42 = .ok (.aload_n 0, 1) := by decide +kernel
theorem dX19_ice_43 : decode cX19_ice 43 = .ok (.iload_n 1, 1) := by decide +kernel
theorem dX19_ice_44 : decode cX19_ice 44 = .ok (.putfield 30, 3) := by decide +kernel
theorem dX19_ice_47 : decode cX19_ice 47 = .ok (.aload_n 0, 1) := by decide +kernel
theorem dX19_ice_48 : decode cX19_ice 48 = .ok (.iload_n 2, 1) := by decide +kernel
theorem dX19_ice_49 : decode cX19_ice 49 = .ok (.putfield 114, 3) := by decide +kernel
theorem dX19_ice_52 : decode cX19_ice 52 = .ok (.iload_n 2, 1) := by decide +kernel
theorem dX19_ice_53 : decode cX19_ice 53 = .ok (.iload_n 1, 1) := by decide +kernel
theorem dX19_ice_54 : decode cX19_ice 54 = .ok (.if_icmp .ge 7, 3) := by decide +kernel
theorem dX19_ice_57 : decode cX19_ice 57 = .ok (.iconst 0, 1) := by decide +kernel
theorem dX19_ice_58 : decode cX19_ice 58 = .ok (.goto 8, 3) := by decide +kernel
theorem dX19_ice_61 : decode cX19_ice 61 = .ok (.iload_n 2, 1) := by decide +kernel
theorem dX19_ice_62 : decode cX19_ice 62 = .ok (.iload_n 1, 1) := by decide +kernel
theorem dX19_ice_63 : decode cX19_ice 63 = .ok (.isub, 1) := by decide +kernel
theorem dX19_ice_64 : decode cX19_ice 64 = .ok (.iconst 1, 1) := by decide +kernel
theorem dX19_ice_65 : decode cX19_ice 65 = .ok (.iadd, 1) := by decide +kernel
theorem dX19_ice_66 : decode cX19_ice 66 = .ok (.ireturn, 1) := by decide +kernel
theorem dX19_setPads_0 : decode cX19_setPads 0 = .ok (.aload_n 0, 1) := by decide +kernel
theorem dX19_setPads_1 : decode cX19_setPads 1 = .ok (.iload_n 1, 1) := by decide +kernel
theorem dX19_setPads_2 : decode cX19_setPads 2 = .ok (.i2l, 1) := by decide +kernel
theorem dX19_setPads_3 : decode cX19_setPads 3 = .ok (.lconst 0, 1) := by decide +kernel
theorem dX19_setPads_4 : decode cX19_setPads 4 = .ok (.ldc2_w 49, 3) := by decide +kernel
theorem dX19_setPads_7 : decode cX19_setPads 7 = .ok (.invokestatic 51, 3) := by decide +kernel
theorem dX19_setPads_10 : decode cX19_setPads 10 = .ok (.ifCond .eq 7, 3) := by decide +kernel
theorem dX19_setPads_13 : decode cX19_setPads 13 = .ok (.iconst 0, 1) := by decide +kernel
theorem dX19_setPads_14 : decode cX19_setPads 14 = .ok (.goto 4, 3) := by decide +kernel
theorem dX19_setPads_17 : decode cX19_setPads 17 = .ok (.iconst 1, 1) := by decide +kernel
theorem dX19_setPads_18 : decode cX19_setPads 18 = .ok (.putfield 46, 3) := by decide +kernel
theorem dX19_setPads_21 : decode cX19_setPads 21 = .ok (.aload_n 0, 1) := by decide +kernel
theorem dX19_setPads_22 : decode cX19_setPads 22 = .ok (.getfield 46, 3) := by decide +kernel
theorem dX19_setPads_25 : decode cX19_setPads 25 = .ok (.ifCond .le 5, 3) := by decide +kernel
theorem dX19_setPads_28 : decode cX19_setPads 28 = .ok (.iconst (-1), 1) := by decide +kernel
theorem dX19_setPads_29 : decode cX19_setPads 29 = .ok (.ireturn, 1) := by decide +kernel
theorem dX19_setPads_30 : decode cX19_setPads 30 = .ok (.aload_n 0, 1) := by decide +kernel
theorem dX19_setPads_31 : decode cX19_setPads 31 = .ok (.aconst_null, 1) := by decide +kernel
theorem dX19_setPads_32 : decode cX19_setPads 32 = .ok (.putfield 69, 3) := by decide +kernel
theorem dX19_setPads_35 : decode cX19_setPads 35 = .ok (.aload_n 0, 1) := by decide +kernel
theorem dX19_setPads_36 : decode cX19_setPads 36 = .ok (.getfield 34, 3) := by decide +kernel
theorem dX19_setPads_39 : decode cX19_setPads 39 = .ok (.istore_n 2, 1) := by decide +kernel
theorem dX19_setPads_40 : decode cX19_setPads 40 = .ok (.aload_n 0, 1) := by decide +kernel
theorem dX19_setPads_41 : decode cX19_setPads 41 = .ok (.iload_n 1, 1) := by decide +kernel
theorem dX19_setPads_42 : decode cX19_setPads 42 = .ok (.putfield 34, 3) := by decide +kernel
theorem dX19_setPads_45 : decode cX19_setPads 45 = .ok (.iload_n 2, 1) := by decide +kernel
theorem dX19_setPads_46 : decode cX19_setPads 46 = .ok (.ireturn, 1) := by decide +kernel
theorem dX19_addFlight_0 : decode cX19_addFlight 0 = .ok (.iload_n 1, 1) := by decide +kernel
theorem dX19_addFlight_1 : decode cX19_addFlight 1 = .ok (.invokestatic 61, 3) := by decide +kernel
theorem dX19_addFlight_4 : decode cX19_addFlight 4 = .ok (.ifCond .eq 58, 3) := by decide +kernel
theorem dX19_addFlight_7 : decode cX19_addFlight 7 = .ok (.iload_n 2, 1) := by decide +kernel
theorem dX19_addFlight_8 : decode cX19_addFlight 8 = .ok (.invokestatic 61, 3) := by decide +kernel
theorem dX19_addFlight_11 : decode cX19_addFlight 11 = .ok (.ifCond .eq 51, 3) := by decide +kernel
theorem dX19_addFlight_14 : decode cX19_addFlight 14 = .ok (.iload 4, 2) := by decide +kernel
theorem dX19_addFlight_16 : decode cX19_addFlight 16 = .ok (.i2l, 1) := by decide +kernel
theorem dX19_addFlight_17 : decode cX19_addFlight 17 = .ok (.lconst 0, 1) := by decide +kernel
theorem dX19_addFlight_18 : decode cX19_addFlight 18 = .ok (.aload_n 0, 1) := by decide +kernel
theorem dX19_addFlight_19 : decode cX19_addFlight 19 = .ok (.getfield 17, 3) := by decide +kernel
theorem dX19_addFlight_22 : decode cX19_addFlight 22 = .ok (.invokeinterface 55 1, 5) := by decide +kernel
theorem dX19_addFlight_27 : decode cX19_addFlight 27 = .ok (.iconst 1, 1) := by decide +kernel
theorem dX19_addFlight_28 : decode cX19_addFlight 28 = .ok (.isub, 1) := by decide +kernel
theorem dX19_addFlight_29 : decode cX19_addFlight 29 = .ok (.i2l, 1) := by decide +kernel
theorem dX19_addFlight_30 : decode cX19_addFlight 30 = .ok (.invokestatic 51, 3) := by decide +kernel
theorem dX19_addFlight_33 : decode cX19_addFlight 33 = .ok (.ifCond .eq 29, 3) := by decide +kernel
theorem dX19_addFlight_36 : decode cX19_addFlight 36 = .ok (.iload 5, 2) := by decide +kernel
theorem dX19_addFlight_38 : decode cX19_addFlight 38 = .ok (.i2l, 1) := by decide +kernel
theorem dX19_addFlight_39 : decode cX19_addFlight 39 = .ok (.lconst 0, 1) := by decide +kernel
theorem dX19_addFlight_40 : decode cX19_addFlight 40 = .ok (.aload_n 0, 1) := by decide +kernel
theorem dX19_addFlight_41 : decode cX19_addFlight 41 = .ok (.getfield 21, 3) := by decide +kernel
theorem dX19_addFlight_44 : decode cX19_addFlight 44 = .ok (.invokeinterface 55 1, 5) := by decide +kernel
theorem dX19_addFlight_49 : decode cX19_addFlight 49 = .ok (.iconst 1, 1) := by decide +kernel
theorem dX19_addFlight_50 : decode cX19_addFlight 50 = .ok (.isub, 1) := by decide +kernel
theorem dX19_addFlight_51 : decode cX19_addFlight 51 = .ok (.i2l, 1) := by decide +kernel
theorem dX19_addFlight_52 : decode cX19_addFlight 52 = .ok (.invokestatic 51, 3) := by decide +kernel
theorem dX19_addFlight_55 : decode cX19_addFlight 55 = .ok (.ifCond .eq 7, 3) := by decide +kernel
theorem dX19_addFlight_58 : decode cX19_addFlight 58 = .ok (.iconst 1, 1) := by decide +kernel
theorem dX19_addFlight_59 : decode cX19_addFlight 59 = .ok (.goto 4, 3) := by decide +kernel
theorem dX19_addFlight_62 : decode cX19_addFlight 62 = .ok (.iconst 0, 1) := by decide +kernel
theorem dX19_addFlight_63 : decode cX19_addFlight 63 = .ok (.istore 6, 2) := by decide +kernel
theorem dX19_addFlight_65 : decode cX19_addFlight 65 = .ok (.aload_n 0, 1) := by decide +kernel
theorem dX19_addFlight_66 : decode cX19_addFlight 66 = .ok (.iload 6, 2) := by decide +kernel
theorem dX19_addFlight_68 : decode cX19_addFlight 68 = .ok (.ifCond .ne 7, 3) := by decide +kernel
theorem dX19_addFlight_71 : decode cX19_addFlight 71 = .ok (.iconst 1, 1) := by decide +kernel
theorem dX19_addFlight_72 : decode cX19_addFlight 72 = .ok (.goto 59, 3) := by decide +kernel
theorem dX19_addFlight_75 : decode cX19_addFlight 75 = .ok (.iload_n 1, 1) := by decide +kernel
theorem dX19_addFlight_76 : decode cX19_addFlight 76 = .ok (.ifCond .ne 7, 3) := by decide +kernel
theorem dX19_addFlight_79 : decode cX19_addFlight 79 = .ok (.iconst 1, 1) := by decide +kernel
theorem dX19_addFlight_80 : decode cX19_addFlight 80 = .ok (.goto 4, 3) := by decide +kernel
theorem dX19_addFlight_83 : decode cX19_addFlight 83 = .ok (.iconst 0, 1) := by decide +kernel
theorem dX19_addFlight_84 : decode cX19_addFlight 84 = .ok (.iload_n 2, 1) := by decide +kernel
theorem dX19_addFlight_85 : decode cX19_addFlight 85 = .ok (.ifCond .ne 7, 3) := by decide +kernel
theorem dX19_addFlight_88 : decode cX19_addFlight 88 = .ok (.iconst 1, 1) := by decide +kernel
theorem dX19_addFlight_89 : decode cX19_addFlight 89 = .ok (.goto 4, 3) := by decide +kernel
theorem dX19_addFlight_92 : decode cX19_addFlight 92 = .ok (.iconst 0, 1) := by decide +kernel
theorem dX19_addFlight_93 : decode cX19_addFlight 93 = .ok (.if_icmp .eq 15, 3) := by decide +kernel
theorem dX19_addFlight_96 : decode cX19_addFlight 96 = .ok (.iload_n 3, 1) := by decide +kernel
theorem dX19_addFlight_97 : decode cX19_addFlight 97 = .ok (.i2l, 1) := by decide +kernel
theorem dX19_addFlight_98 : decode cX19_addFlight 98 = .ok (.lconst 0, 1) := by decide +kernel
theorem dX19_addFlight_99 : decode cX19_addFlight 99 = .ok (.ldc2_w 97, 3) := by decide +kernel
theorem dX19_addFlight_102 : decode cX19_addFlight 102 = .ok (.invokestatic 51, 3) := by decide +kernel
theorem dX19_addFlight_105 : decode cX19_addFlight 105 = .ok (.ifCond .ne 7, 3) := by decide +kernel
theorem dX19_addFlight_108 : decode cX19_addFlight 108 = .ok (.iconst 2, 1) := by decide +kernel
theorem dX19_addFlight_109 : decode cX19_addFlight 109 = .ok (.goto 22, 3) := by decide +kernel
theorem dX19_addFlight_112 : decode cX19_addFlight 112 = .ok (.aload_n 0, 1) := by decide +kernel
theorem dX19_addFlight_113 : decode cX19_addFlight 113 = .ok (.getfield 37, 3) := by decide +kernel
theorem dX19_addFlight_116 : decode cX19_addFlight 116 = .ok (.invokeinterface 55 1, 5) := by decide +kernel
theorem dX19_addFlight_121 : decode cX19_addFlight 121 = .ok (.bipush 10, 2) := by decide +kernel
theorem dX19_addFlight_123 : decode cX19_addFlight 123 = .ok (.if_icmp .ne 7, 3) := by decide +kernel
theorem dX19_addFlight_126 : decode cX19_addFlight 126 = .ok (.iconst 3, 1) := by decide +kernel
theorem dX19_addFlight_127 : decode cX19_addFlight 127 = .ok (.goto 4, 3) := by decide +kernel
theorem dX19_addFlight_130 : decode cX19_addFlight 130 = .ok (.iconst 0, 1) := by decide +kernel
theorem dX19_addFlight_131 : decode cX19_addFlight 131 = .ok (.putfield 46, 3) := by decide +kernel
theorem dX19_addFlight_134 : decode cX19_addFlight 134 = .ok (.aload_n 0, 1) := by decide +kernel
theorem dX19_addFlight_135 : decode cX19_addFlight 135 = .ok (.getfield 46, 3) := by decide +kernel
theorem dX19_addFlight_138 : decode cX19_addFlight 138 = .ok (.ifCond .le 5, 3) := by decide +kernel
theorem dX19_addFlight_141 : decode cX19_addFlight 141 = .ok (.iconst (-1), 1) := by decide +kernel
theorem dX19_addFlight_142 : decode cX19_addFlight 142 = .ok (.ireturn, 1) := by decide +kernel
theorem dX19_addFlight_143 : decode cX19_addFlight 143 = .ok (.aload_n 0, 1) := by decide +kernel
theorem dX19_addFlight_144 : decode cX19_addFlight 144 = .ok (.aconst_null, 1) := by decide +kernel
theorem dX19_addFlight_145 : decode cX19_addFlight 145 = .ok (.putfield 69, 3) := by decide +kernel
theorem dX19_addFlight_148 : decode cX19_addFlight 148 = .ok (.aload_n 0, 1) := by decide +kernel
theorem dX19_addFlight_149 : decode cX19_addFlight 149 = .ok (.getfield 37, 3) := by decide +kernel
theorem dX19_addFlight_152 : decode cX19_addFlight 152 = .ok (.new 117, 3) := by decide +kernel
theorem dX19_addFlight_155 : decode cX19_addFlight 155 = .ok (.dup, 1) := by decide +kernel
theorem dX19_addFlight_156 : decode cX19_addFlight 156 = .ok (.aload_n 0, 1) := by decide +kernel
theorem dX19_addFlight_157 : decode cX19_addFlight 157 = .ok (.getfield 37, 3) := by decide +kernel
theorem dX19_addFlight_160 : decode cX19_addFlight 160 = .ok (.invokeinterface 55 1, 5) := by decide +kernel
theorem dX19_addFlight_165 : decode cX19_addFlight 165 = .ok (.iload_n 1, 1) := by decide +kernel
theorem dX19_addFlight_166 : decode cX19_addFlight 166 = .ok (.iload_n 2, 1) := by decide +kernel
theorem dX19_addFlight_167 : decode cX19_addFlight 167 = .ok (.iload_n 3, 1) := by decide +kernel
theorem dX19_addFlight_168 : decode cX19_addFlight 168 = .ok (.iload 4, 2) := by decide +kernel
theorem dX19_addFlight_170 : decode cX19_addFlight 170 = .ok (.iload 5, 2) := by decide +kernel
theorem dX19_addFlight_172 : decode cX19_addFlight 172 = .ok (.invokespecial 119, 3) := by decide +kernel
theorem dX19_addFlight_175 : decode cX19_addFlight 175 = .ok (.invokeinterface 86 2, 5) := by decide +kernel
theorem dX19_addFlight_180 : decode cX19_addFlight 180 = .ok (.pop, 1) := by decide +kernel
theorem dX19_addFlight_181 : decode cX19_addFlight 181 = .ok (.aload_n 0, 1) := by decide +kernel
theorem dX19_addFlight_182 : decode cX19_addFlight 182 = .ok (.getfield 37, 3) := by decide +kernel
theorem dX19_addFlight_185 : decode cX19_addFlight 185 = .ok (.invokeinterface 55 1, 5) := by decide +kernel
theorem dX19_addFlight_190 : decode cX19_addFlight 190 = .ok (.iconst 1, 1) := by decide +kernel
theorem dX19_addFlight_191 : decode cX19_addFlight 191 = .ok (.isub, 1) := by decide +kernel
theorem dX19_addFlight_192 : decode cX19_addFlight 192 = .ok (.ireturn, 1) := by decide +kernel
theorem dX19_slot_0 : decode cX19_slot 0 = .ok (.aload_n 0, 1) := by decide +kernel
theorem dX19_slot_1 : decode cX19_slot 1 = .ok (.aload_n 0, 1) := by decide +kernel
theorem dX19_slot_2 : decode cX19_slot 2 = .ok (.iload_n 1, 1) := by decide +kernel
theorem dX19_slot_3 : decode cX19_slot 3 = .ok (.invokevirtual 120, 3) := by decide +kernel
theorem dX19_slot_6 : decode cX19_slot 6 = .ok (.ifCond .ne 7, 3) := by decide +kernel
theorem dX19_slot_9 : decode cX19_slot 9 = .ok (.iconst 1, 1) := by decide +kernel
theorem dX19_slot_10 : decode cX19_slot 10 = .ok (.goto 43, 3) := by decide +kernel
theorem dX19_slot_13 : decode cX19_slot 13 = .ok (.aload_n 0, 1) := by decide +kernel
theorem dX19_slot_14 : decode cX19_slot 14 = .ok (.getfield 37, 3) := by decide +kernel
theorem dX19_slot_17 : decode cX19_slot 17 = .ok (.iload_n 1, 1) := by decide +kernel
theorem dX19_slot_18 : decode cX19_slot 18 = .ok (.invokeinterface 90 2, 5) := by decide +kernel
theorem dX19_slot_23 : decode cX19_slot 23 = .ok (.checkcast 117, 3) := by decide +kernel
theorem dX19_slot_26 : decode cX19_slot 26 = .ok (.getfield 123, 3) := by decide +kernel
theorem dX19_slot_29 : decode cX19_slot 29 = .ok (.ifCond .eq 7, 3) := by decide +kernel
theorem dX19_slot_32 : decode cX19_slot 32 = .ok (.iconst 2, 1) := by decide +kernel
theorem dX19_slot_33 : decode cX19_slot 33 = .ok (.goto 20, 3) := by decide +kernel
theorem dX19_slot_36 : decode cX19_slot 36 = .ok (.iload_n 2, 1) := by decide +kernel
theorem dX19_slot_37 : decode cX19_slot 37 = .ok (.i2l, 1) := by decide +kernel
theorem dX19_slot_38 : decode cX19_slot 38 = .ok (.lconst 0, 1) := by decide +kernel
theorem dX19_slot_39 : decode cX19_slot 39 = .ok (.ldc2_w 106, 3) := by decide +kernel
theorem dX19_slot_42 : decode cX19_slot 42 = .ok (.invokestatic 51, 3) := by decide +kernel
theorem dX19_slot_45 : decode cX19_slot 45 = .ok (.ifCond .ne 7, 3) := by decide +kernel
theorem dX19_slot_48 : decode cX19_slot 48 = .ok (.iconst 3, 1) := by decide +kernel
theorem dX19_slot_49 : decode cX19_slot 49 = .ok (.goto 4, 3) := by decide +kernel
theorem dX19_slot_52 : decode cX19_slot 52 = .ok (.iconst 0, 1) := by decide +kernel
theorem dX19_slot_53 : decode cX19_slot 53 = .ok (.putfield 46, 3) := by decide +kernel
theorem dX19_slot_56 : decode cX19_slot 56 = .ok (.aload_n 0, 1) := by decide +kernel
theorem dX19_slot_57 : decode cX19_slot 57 = .ok (.getfield 46, 3) := by decide +kernel
theorem dX19_slot_60 : decode cX19_slot 60 = .ok (.ifCond .le 5, 3) := by decide +kernel
theorem dX19_slot_63 : decode cX19_slot 63 = .ok (.iconst (-1), 1) := by decide +kernel
theorem dX19_slot_64 : decode cX19_slot 64 = .ok (.ireturn, 1) := by decide +kernel
theorem dX19_slot_65 : decode cX19_slot 65 = .ok (.aload_n 0, 1) := by decide +kernel
theorem dX19_slot_66 : decode cX19_slot 66 = .ok (.aconst_null, 1) := by decide +kernel
theorem dX19_slot_67 : decode cX19_slot 67 = .ok (.putfield 69, 3) := by decide +kernel
theorem dX19_slot_70 : decode cX19_slot 70 = .ok (.aload_n 0, 1) := by decide +kernel
theorem dX19_slot_71 : decode cX19_slot 71 = .ok (.getfield 37, 3) := by decide +kernel
theorem dX19_slot_74 : decode cX19_slot 74 = .ok (.iload_n 1, 1) := by decide +kernel
theorem dX19_slot_75 : decode cX19_slot 75 = .ok (.invokeinterface 90 2, 5) := by decide +kernel
theorem dX19_slot_80 : decode cX19_slot 80 = .ok (.checkcast 117, 3) := by decide +kernel
theorem dX19_slot_83 : decode cX19_slot 83 = .ok (.getfield 126, 3) := by decide +kernel
theorem dX19_slot_86 : decode cX19_slot 86 = .ok (.istore_n 3, 1) := by decide +kernel
theorem dX19_slot_87 : decode cX19_slot 87 = .ok (.aload_n 0, 1) := by decide +kernel
theorem dX19_slot_88 : decode cX19_slot 88 = .ok (.getfield 37, 3) := by decide +kernel
theorem dX19_slot_91 : decode cX19_slot 91 = .ok (.iload_n 1, 1) := by decide +kernel
theorem dX19_slot_92 : decode cX19_slot 92 = .ok (.invokeinterface 90 2, 5) := by decide +kernel
theorem dX19_slot_97 : decode cX19_slot 97 = .ok (.checkcast 117, 3) := by decide +kernel
theorem dX19_slot_100 : decode cX19_slot 100 = .ok (.iload_n 2, 1) := by decide +kernel
theorem dX19_slot_101 : decode cX19_slot 101 = .ok (.putfield 126, 3) := by decide +kernel
theorem dX19_slot_104 : decode cX19_slot 104 = .ok (.iload_n 3, 1) := by decide +kernel
theorem dX19_slot_105 : decode cX19_slot 105 = .ok (.ireturn, 1) := by decide +kernel
theorem dX19_trade_0 : decode cX19_trade 0 = .ok (.aload_n 0, 1) := by decide +kernel
theorem dX19_trade_1 : decode cX19_trade 1 = .ok (.aload_n 0, 1) := by decide +kernel
theorem dX19_trade_2 : decode cX19_trade 2 = .ok (.iload_n 1, 1) := by decide +kernel
theorem dX19_trade_3 : decode cX19_trade 3 = .ok (.invokevirtual 120, 3) := by decide +kernel
theorem dX19_trade_6 : decode cX19_trade 6 = .ok (.ifCond .eq 11, 3) := by decide +kernel
theorem dX19_trade_9 : decode cX19_trade 9 = .ok (.aload_n 0, 1) := by decide +kernel
theorem dX19_trade_10 : decode cX19_trade 10 = .ok (.iload_n 2, 1) := by decide +kernel
theorem dX19_trade_11 : decode cX19_trade 11 = .ok (.invokevirtual 120, 3) := by decide +kernel
theorem dX19_trade_14 : decode cX19_trade 14 = .ok (.ifCond .ne 7, 3) := by decide +kernel
theorem dX19_trade_17 : decode cX19_trade 17 = .ok (.iconst 1, 1) := by decide +kernel
theorem dX19_trade_18 : decode cX19_trade 18 = .ok (.goto 48, 3) := by decide +kernel
theorem dX19_trade_21 : decode cX19_trade 21 = .ok (.aload_n 0, 1) := by decide +kernel
theorem dX19_trade_22 : decode cX19_trade 22 = .ok (.getfield 37, 3) := by decide +kernel
theorem dX19_trade_25 : decode cX19_trade 25 = .ok (.iload_n 1, 1) := by decide +kernel
theorem dX19_trade_26 : decode cX19_trade 26 = .ok (.invokeinterface 90 2, 5) := by decide +kernel
theorem dX19_trade_31 : decode cX19_trade 31 = .ok (.checkcast 117, 3) := by decide +kernel
theorem dX19_trade_34 : decode cX19_trade 34 = .ok (.getfield 126, 3) := by decide +kernel
theorem dX19_trade_37 : decode cX19_trade 37 = .ok (.iconst (-1), 1) := by decide +kernel
theorem dX19_trade_38 : decode cX19_trade 38 = .ok (.if_icmp .eq 23, 3) := by decide +kernel
theorem dX19_trade_41 : decode cX19_trade 41 = .ok (.aload_n 0, 1) := by decide +kernel
theorem dX19_trade_42 : decode cX19_trade 42 = .ok (.getfield 37, 3) := by decide +kernel
theorem dX19_trade_45 : decode cX19_trade 45 = .ok (.iload_n 2, 1) := by decide +kernel
theorem dX19_trade_46 : decode cX19_trade 46 = .ok (.invokeinterface 90 2, 5) := by decide +kernel
theorem dX19_trade_51 : decode cX19_trade 51 = .ok (.checkcast 117, 3) := by decide +kernel
theorem dX19_trade_54 : decode cX19_trade 54 = .ok (.getfield 126, 3) := by decide +kernel
theorem dX19_trade_57 : decode cX19_trade 57 = .ok (.iconst (-1), 1) := by decide +kernel
theorem dX19_trade_58 : decode cX19_trade 58 = .ok (.if_icmp .ne 7, 3) := by decide +kernel
theorem dX19_trade_61 : decode cX19_trade 61 = .ok (.iconst 2, 1) := by decide +kernel
theorem dX19_trade_62 : decode cX19_trade 62 = .ok (.goto 4, 3) := by decide +kernel
theorem dX19_trade_65 : decode cX19_trade 65 = .ok (.iconst 0, 1) := by decide +kernel
theorem dX19_trade_66 : decode cX19_trade 66 = .ok (.putfield 46, 3) := by decide +kernel
theorem dX19_trade_69 : decode cX19_trade 69 = .ok (.aload_n 0, 1) := by decide +kernel
theorem dX19_trade_70 : decode cX19_trade 70 = .ok (.getfield 46, 3) := by decide +kernel
theorem dX19_trade_73 : decode cX19_trade 73 = .ok (.ifCond .le 5, 3) := by decide +kernel
theorem dX19_trade_76 : decode cX19_trade 76 = .ok (.iconst (-1), 1) := by decide +kernel
theorem dX19_trade_77 : decode cX19_trade 77 = .ok (.ireturn, 1) := by decide +kernel
theorem dX19_trade_78 : decode cX19_trade 78 = .ok (.aload_n 0, 1) := by decide +kernel
theorem dX19_trade_79 : decode cX19_trade 79 = .ok (.aconst_null, 1) := by decide +kernel
theorem dX19_trade_80 : decode cX19_trade 80 = .ok (.putfield 69, 3) := by decide +kernel
theorem dX19_trade_83 : decode cX19_trade 83 = .ok (.aload_n 0, 1) := by decide +kernel
theorem dX19_trade_84 : decode cX19_trade 84 = .ok (.getfield 37, 3) := by decide +kernel
theorem dX19_trade_87 : decode cX19_trade 87 = .ok (.iload_n 1, 1) := by decide +kernel
theorem dX19_trade_88 : decode cX19_trade 88 = .ok (.invokeinterface 90 2, 5) := by decide +kernel
theorem dX19_trade_93 : decode cX19_trade 93 = .ok (.checkcast 117, 3) := by decide +kernel
theorem dX19_trade_96 : decode cX19_trade 96 = .ok (.getfield 126, 3) := by decide +kernel
theorem dX19_trade_99 : decode cX19_trade 99 = .ok (.istore_n 3, 1) := by decide +kernel
theorem dX19_trade_100 : decode cX19_trade 100 = .ok (.aload_n 0, 1) := by decide +kernel
theorem dX19_trade_101 : decode cX19_trade 101 = .ok (.getfield 37, 3) := by decide +kernel
theorem dX19_trade_104 : decode cX19_trade 104 = .ok (.iload_n 1, 1) := by decide +kernel
theorem dX19_trade_105 : decode cX19_trade 105 = .ok (.invokeinterface 90 2, 5) := by decide +kernel
theorem dX19_trade_110 : decode cX19_trade 110 = .ok (.checkcast 117, 3) := by decide +kernel
theorem dX19_trade_113 : decode cX19_trade 113 = .ok (.aload_n 0, 1) := by decide +kernel
theorem dX19_trade_114 : decode cX19_trade 114 = .ok (.getfield 37, 3) := by decide +kernel
theorem dX19_trade_117 : decode cX19_trade 117 = .ok (.iload_n 2, 1) := by decide +kernel
theorem dX19_trade_118 : decode cX19_trade 118 = .ok (.invokeinterface 90 2, 5) := by decide +kernel
theorem dX19_trade_123 : decode cX19_trade 123 = .ok (.checkcast 117, 3) := by decide +kernel
theorem dX19_trade_126 : decode cX19_trade 126 = .ok (.getfield 126, 3) := by decide +kernel
theorem dX19_trade_129 : decode cX19_trade 129 = .ok (.putfield 126, 3) := by decide +kernel
theorem dX19_trade_132 : decode cX19_trade 132 = .ok (.aload_n 0, 1) := by decide +kernel
theorem dX19_trade_133 : decode cX19_trade 133 = .ok (.getfield 37, 3) := by decide +kernel
theorem dX19_trade_136 : decode cX19_trade 136 = .ok (.iload_n 2, 1) := by decide +kernel
theorem dX19_trade_137 : decode cX19_trade 137 = .ok (.invokeinterface 90 2, 5) := by decide +kernel
theorem dX19_trade_142 : decode cX19_trade 142 = .ok (.checkcast 117, 3) := by decide +kernel
theorem dX19_trade_145 : decode cX19_trade 145 = .ok (.iload_n 3, 1) := by decide +kernel
theorem dX19_trade_146 : decode cX19_trade 146 = .ok (.putfield 126, 3) := by decide +kernel
theorem dX19_trade_149 : decode cX19_trade 149 = .ok (.aload_n 0, 1) := by decide +kernel
theorem dX19_trade_150 : decode cX19_trade 150 = .ok (.getfield 37, 3) := by decide +kernel
theorem dX19_trade_153 : decode cX19_trade 153 = .ok (.iload_n 1, 1) := by decide +kernel
theorem dX19_trade_154 : decode cX19_trade 154 = .ok (.invokeinterface 90 2, 5) := by decide +kernel
theorem dX19_trade_159 : decode cX19_trade 159 = .ok (.checkcast 117, 3) := by decide +kernel
theorem dX19_trade_162 : decode cX19_trade 162 = .ok (.getfield 126, 3) := by decide +kernel
theorem dX19_trade_165 : decode cX19_trade 165 = .ok (.ireturn, 1) := by decide +kernel
theorem dX19_hold_0 : decode cX19_hold 0 = .ok (.aload_n 0, 1) := by decide +kernel
theorem dX19_hold_1 : decode cX19_hold 1 = .ok (.aload_n 0, 1) := by decide +kernel
theorem dX19_hold_2 : decode cX19_hold 2 = .ok (.iload_n 1, 1) := by decide +kernel
theorem dX19_hold_3 : decode cX19_hold 3 = .ok (.invokevirtual 120, 3) := by decide +kernel
theorem dX19_hold_6 : decode cX19_hold 6 = .ok (.ifCond .ne 7, 3) := by decide +kernel
theorem dX19_hold_9 : decode cX19_hold 9 = .ok (.iconst 1, 1) := by decide +kernel
theorem dX19_hold_10 : decode cX19_hold 10 = .ok (.goto 20, 3) := by decide +kernel
theorem dX19_hold_13 : decode cX19_hold 13 = .ok (.iload_n 2, 1) := by decide +kernel
theorem dX19_hold_14 : decode cX19_hold 14 = .ok (.i2l, 1) := by decide +kernel
theorem dX19_hold_15 : decode cX19_hold 15 = .ok (.lconst 0, 1) := by decide +kernel
theorem dX19_hold_16 : decode cX19_hold 16 = .ok (.ldc2_w 129, 3) := by decide +kernel
theorem dX19_hold_19 : decode cX19_hold 19 = .ok (.invokestatic 51, 3) := by decide +kernel
theorem dX19_hold_22 : decode cX19_hold 22 = .ok (.ifCond .ne 7, 3) := by decide +kernel
theorem dX19_hold_25 : decode cX19_hold 25 = .ok (.iconst 2, 1) := by decide +kernel
theorem dX19_hold_26 : decode cX19_hold 26 = .ok (.goto 4, 3) := by decide +kernel
theorem dX19_hold_29 : decode cX19_hold 29 = .ok (.iconst 0, 1) := by decide +kernel
theorem dX19_hold_30 : decode cX19_hold 30 = .ok (.putfield 46, 3) := by decide +kernel
theorem dX19_hold_33 : decode cX19_hold 33 = .ok (.aload_n 0, 1) := by decide +kernel
theorem dX19_hold_34 : decode cX19_hold 34 = .ok (.getfield 46, 3) := by decide +kernel
theorem dX19_hold_37 : decode cX19_hold 37 = .ok (.ifCond .le 5, 3) := by decide +kernel
theorem dX19_hold_40 : decode cX19_hold 40 = .ok (.iconst (-1), 1) := by decide +kernel
theorem dX19_hold_41 : decode cX19_hold 41 = .ok (.ireturn, 1) := by decide +kernel
theorem dX19_hold_42 : decode cX19_hold 42 = .ok (.aload_n 0, 1) := by decide +kernel
theorem dX19_hold_43 : decode cX19_hold 43 = .ok (.aconst_null, 1) := by decide +kernel
theorem dX19_hold_44 : decode cX19_hold 44 = .ok (.putfield 69, 3) := by decide +kernel
theorem dX19_hold_47 : decode cX19_hold 47 = .ok (.aload_n 0, 1) := by decide +kernel
theorem dX19_hold_48 : decode cX19_hold 48 = .ok (.getfield 37, 3) := by decide +kernel
theorem dX19_hold_51 : decode cX19_hold 51 = .ok (.iload_n 1, 1) := by decide +kernel
theorem dX19_hold_52 : decode cX19_hold 52 = .ok (.invokeinterface 90 2, 5) := by decide +kernel
theorem dX19_hold_57 : decode cX19_hold 57 = .ok (.checkcast 117, 3) := by decide +kernel
theorem dX19_hold_60 : decode cX19_hold 60 = .ok (.getfield 131, 3) := by decide +kernel
theorem dX19_hold_63 : decode cX19_hold 63 = .ok (.istore_n 3, 1) := by decide +kernel
theorem dX19_hold_64 : decode cX19_hold 64 = .ok (.aload_n 0, 1) := by decide +kernel
theorem dX19_hold_65 : decode cX19_hold 65 = .ok (.getfield 37, 3) := by decide +kernel
theorem dX19_hold_68 : decode cX19_hold 68 = .ok (.iload_n 1, 1) := by decide +kernel
theorem dX19_hold_69 : decode cX19_hold 69 = .ok (.invokeinterface 90 2, 5) := by decide +kernel
theorem dX19_hold_74 : decode cX19_hold 74 = .ok (.checkcast 117, 3) := by decide +kernel
theorem dX19_hold_77 : decode cX19_hold 77 = .ok (.iload_n 2, 1) := by decide +kernel
theorem dX19_hold_78 : decode cX19_hold 78 = .ok (.putfield 131, 3) := by decide +kernel
theorem dX19_hold_81 : decode cX19_hold 81 = .ok (.iload_n 3, 1) := by decide +kernel
theorem dX19_hold_82 : decode cX19_hold 82 = .ok (.ireturn, 1) := by decide +kernel
theorem dX19_waitFor_0 : decode cX19_waitFor 0 = .ok (.aload_n 0, 1) := by decide +kernel
theorem dX19_waitFor_1 : decode cX19_waitFor 1 = .ok (.aload_n 0, 1) := by decide +kernel
theorem dX19_waitFor_2 : decode cX19_waitFor 2 = .ok (.iload_n 1, 1) := by decide +kernel
theorem dX19_waitFor_3 : decode cX19_waitFor 3 = .ok (.invokevirtual 120, 3) := by decide +kernel
theorem dX19_waitFor_6 : decode cX19_waitFor 6 = .ok (.ifCond .ne 7, 3) := by decide +kernel
theorem dX19_waitFor_9 : decode cX19_waitFor 9 = .ok (.iconst 1, 1) := by decide +kernel
theorem dX19_waitFor_10 : decode cX19_waitFor 10 = .ok (.goto 20, 3) := by decide +kernel
theorem dX19_waitFor_13 : decode cX19_waitFor 13 = .ok (.iload_n 2, 1) := by decide +kernel
theorem dX19_waitFor_14 : decode cX19_waitFor 14 = .ok (.i2l, 1) := by decide +kernel
theorem dX19_waitFor_15 : decode cX19_waitFor 15 = .ok (.lconst 0, 1) := by decide +kernel
theorem dX19_waitFor_16 : decode cX19_waitFor 16 = .ok (.ldc2_w 134, 3) := by decide +kernel
theorem dX19_waitFor_19 : decode cX19_waitFor 19 = .ok (.invokestatic 51, 3) := by decide +kernel
theorem dX19_waitFor_22 : decode cX19_waitFor 22 = .ok (.ifCond .ne 7, 3) := by decide +kernel
theorem dX19_waitFor_25 : decode cX19_waitFor 25 = .ok (.iconst 2, 1) := by decide +kernel
theorem dX19_waitFor_26 : decode cX19_waitFor 26 = .ok (.goto 4, 3) := by decide +kernel
theorem dX19_waitFor_29 : decode cX19_waitFor 29 = .ok (.iconst 0, 1) := by decide +kernel
theorem dX19_waitFor_30 : decode cX19_waitFor 30 = .ok (.putfield 46, 3) := by decide +kernel
theorem dX19_waitFor_33 : decode cX19_waitFor 33 = .ok (.aload_n 0, 1) := by decide +kernel
theorem dX19_waitFor_34 : decode cX19_waitFor 34 = .ok (.getfield 46, 3) := by decide +kernel
theorem dX19_waitFor_37 : decode cX19_waitFor 37 = .ok (.ifCond .le 5, 3) := by decide +kernel
theorem dX19_waitFor_40 : decode cX19_waitFor 40 = .ok (.iconst (-1), 1) := by decide +kernel
theorem dX19_waitFor_41 : decode cX19_waitFor 41 = .ok (.ireturn, 1) := by decide +kernel
theorem dX19_waitFor_42 : decode cX19_waitFor 42 = .ok (.aload_n 0, 1) := by decide +kernel
theorem dX19_waitFor_43 : decode cX19_waitFor 43 = .ok (.aconst_null, 1) := by decide +kernel
theorem dX19_waitFor_44 : decode cX19_waitFor 44 = .ok (.putfield 69, 3) := by decide +kernel
theorem dX19_waitFor_47 : decode cX19_waitFor 47 = .ok (.aload_n 0, 1) := by decide +kernel
theorem dX19_waitFor_48 : decode cX19_waitFor 48 = .ok (.getfield 37, 3) := by decide +kernel
theorem dX19_waitFor_51 : decode cX19_waitFor 51 = .ok (.iload_n 1, 1) := by decide +kernel
theorem dX19_waitFor_52 : decode cX19_waitFor 52 = .ok (.invokeinterface 90 2, 5) := by decide +kernel
theorem dX19_waitFor_57 : decode cX19_waitFor 57 = .ok (.checkcast 117, 3) := by decide +kernel
theorem dX19_waitFor_60 : decode cX19_waitFor 60 = .ok (.getfield 136, 3) := by decide +kernel
theorem dX19_waitFor_63 : decode cX19_waitFor 63 = .ok (.istore_n 3, 1) := by decide +kernel
theorem dX19_waitFor_64 : decode cX19_waitFor 64 = .ok (.aload_n 0, 1) := by decide +kernel
theorem dX19_waitFor_65 : decode cX19_waitFor 65 = .ok (.getfield 37, 3) := by decide +kernel
theorem dX19_waitFor_68 : decode cX19_waitFor 68 = .ok (.iload_n 1, 1) := by decide +kernel
theorem dX19_waitFor_69 : decode cX19_waitFor 69 = .ok (.invokeinterface 90 2, 5) := by decide +kernel
theorem dX19_waitFor_74 : decode cX19_waitFor 74 = .ok (.checkcast 117, 3) := by decide +kernel
theorem dX19_waitFor_77 : decode cX19_waitFor 77 = .ok (.iload_n 2, 1) := by decide +kernel
theorem dX19_waitFor_78 : decode cX19_waitFor 78 = .ok (.putfield 136, 3) := by decide +kernel
theorem dX19_waitFor_81 : decode cX19_waitFor 81 = .ok (.iload_n 3, 1) := by decide +kernel
theorem dX19_waitFor_82 : decode cX19_waitFor 82 = .ok (.ireturn, 1) := by decide +kernel
theorem dX19_swap_0 : decode cX19_swap 0 = .ok (.aload_n 0, 1) := by decide +kernel
theorem dX19_swap_1 : decode cX19_swap 1 = .ok (.aload_n 0, 1) := by decide +kernel
theorem dX19_swap_2 : decode cX19_swap 2 = .ok (.iload_n 1, 1) := by decide +kernel
theorem dX19_swap_3 : decode cX19_swap 3 = .ok (.invokevirtual 120, 3) := by decide +kernel
theorem dX19_swap_6 : decode cX19_swap 6 = .ok (.ifCond .eq 11, 3) := by decide +kernel
theorem dX19_swap_9 : decode cX19_swap 9 = .ok (.aload_n 0, 1) := by decide +kernel
theorem dX19_swap_10 : decode cX19_swap 10 = .ok (.iload_n 2, 1) := by decide +kernel
theorem dX19_swap_11 : decode cX19_swap 11 = .ok (.invokevirtual 120, 3) := by decide +kernel
theorem dX19_swap_14 : decode cX19_swap 14 = .ok (.ifCond .ne 7, 3) := by decide +kernel
theorem dX19_swap_17 : decode cX19_swap 17 = .ok (.iconst 1, 1) := by decide +kernel
theorem dX19_swap_18 : decode cX19_swap 18 = .ok (.goto 4, 3) := by decide +kernel
theorem dX19_swap_21 : decode cX19_swap 21 = .ok (.iconst 0, 1) := by decide +kernel
theorem dX19_swap_22 : decode cX19_swap 22 = .ok (.putfield 46, 3) := by decide +kernel
theorem dX19_swap_25 : decode cX19_swap 25 = .ok (.aload_n 0, 1) := by decide +kernel
theorem dX19_swap_26 : decode cX19_swap 26 = .ok (.getfield 46, 3) := by decide +kernel
theorem dX19_swap_29 : decode cX19_swap 29 = .ok (.ifCond .le 5, 3) := by decide +kernel
theorem dX19_swap_32 : decode cX19_swap 32 = .ok (.iconst (-1), 1) := by decide +kernel
theorem dX19_swap_33 : decode cX19_swap 33 = .ok (.ireturn, 1) := by decide +kernel
theorem dX19_swap_34 : decode cX19_swap 34 = .ok (.aload_n 0, 1) := by decide +kernel
theorem dX19_swap_35 : decode cX19_swap 35 = .ok (.getfield 37, 3) := by decide +kernel
theorem dX19_swap_38 : decode cX19_swap 38 = .ok (.iload_n 1, 1) := by decide +kernel
theorem dX19_swap_39 : decode cX19_swap 39 = .ok (.invokeinterface 90 2, 5) := by decide +kernel
theorem dX19_swap_44 : decode cX19_swap 44 = .ok (.checkcast 117, 3) := by decide +kernel
theorem dX19_swap_47 : decode cX19_swap 47 = .ok (.astore_n 3, 1) := by decide +kernel
theorem dX19_swap_48 : decode cX19_swap 48 = .ok (.aload_n 0, 1) := by decide +kernel
theorem dX19_swap_49 : decode cX19_swap 49 = .ok (.getfield 37, 3) := by decide +kernel
theorem dX19_swap_52 : decode cX19_swap 52 = .ok (.iload_n 2, 1) := by decide +kernel
theorem dX19_swap_53 : decode cX19_swap 53 = .ok (.invokeinterface 90 2, 5) := by decide +kernel
theorem dX19_swap_58 : decode cX19_swap 58 = .ok (.checkcast 117, 3) := by decide +kernel
theorem dX19_swap_61 : decode cX19_swap 61 = .ok (.astore 4, 2) := by decide +kernel
theorem dX19_swap_63 : decode cX19_swap 63 = .ok (.aload_n 3, 1) := by decide +kernel
theorem dX19_swap_64 : decode cX19_swap 64 = .ok (.getfield 139, 3) := by decide +kernel
theorem dX19_swap_67 : decode cX19_swap 67 = .ok (.istore 5, 2) := by decide +kernel
theorem dX19_swap_69 : decode cX19_swap 69 = .ok (.aload 4, 2) := by decide +kernel
theorem dX19_swap_71 : decode cX19_swap 71 = .ok (.getfield 139, 3) := by decide +kernel
theorem dX19_swap_74 : decode cX19_swap 74 = .ok (.istore 6, 2) := by decide +kernel
theorem dX19_swap_76 : decode cX19_swap 76 = .ok (.aload_n 0, 1) := by decide +kernel
theorem dX19_swap_77 : decode cX19_swap 77 = .ok (.iload 5, 2) := by decide +kernel
theorem dX19_swap_79 : decode cX19_swap 79 = .ok (.iload 6, 2) := by decide +kernel
theorem dX19_swap_81 : decode cX19_swap 81 = .ok (.if_icmp .eq 40, 3) := by decide +kernel
theorem dX19_swap_84 : decode cX19_swap 84 = .ok (.aload_n 0, 1) := by decide +kernel
theorem dX19_swap_85 : decode cX19_swap 85 = .ok (.getfield 17, 3) := by decide +kernel
theorem dX19_swap_88 : decode cX19_swap 88 = .ok (.iload 5, 2) := by decide +kernel
theorem dX19_swap_90 : decode cX19_swap 90 = .ok (.invokeinterface 90 2, 5) := by decide +kernel
theorem dX19_swap_95 : decode cX19_swap 95 = .ok (.checkcast 81, 3) := by decide +kernel
theorem dX19_swap_98 : decode cX19_swap 98 = .ok (.getfield 142, 3) := by decide +kernel
theorem dX19_swap_101 : decode cX19_swap 101 = .ok (.aload_n 0, 1) := by decide +kernel
theorem dX19_swap_102 : decode cX19_swap 102 = .ok (.getfield 17, 3) := by decide +kernel
theorem dX19_swap_105 : decode cX19_swap 105 = .ok (.iload 6, 2) := by decide +kernel
theorem dX19_swap_107 : decode cX19_swap 107 = .ok (.invokeinterface 90 2, 5) := by decide +kernel
theorem dX19_swap_112 : decode cX19_swap 112 = .ok (.checkcast 81, 3) := by decide +kernel
theorem dX19_swap_115 : decode cX19_swap 115 = .ok (.getfield 142, 3) := by decide +kernel
theorem dX19_swap_118 : decode cX19_swap 118 = .ok (.if_icmp .eq 7, 3) := by decide +kernel
theorem dX19_swap_121 : decode cX19_swap 121 = .ok (.iconst 2, 1) := by decide +kernel
theorem dX19_swap_122 : decode cX19_swap 122 = .ok (.goto 4, 3) := by decide +kernel
theorem dX19_swap_125 : decode cX19_swap 125 = .ok (.iconst 0, 1) := by decide +kernel
theorem dX19_swap_126 : decode cX19_swap 126 = .ok (.putfield 46, 3) := by decide +kernel
theorem dX19_swap_129 : decode cX19_swap 129 = .ok (.aload_n 0, 1) := by decide +kernel
theorem dX19_swap_130 : decode cX19_swap 130 = .ok (.getfield 46, 3) := by decide +kernel
theorem dX19_swap_133 : decode cX19_swap 133 = .ok (.ifCond .le 5, 3) := by decide +kernel
theorem dX19_swap_136 : decode cX19_swap 136 = .ok (.iconst (-1), 1) := by decide +kernel
theorem dX19_swap_137 : decode cX19_swap 137 = .ok (.ireturn, 1) := by decide +kernel
theorem dX19_swap_138 : decode cX19_swap 138 = .ok (.aload_n 0, 1) := by decide +kernel
theorem dX19_swap_139 : decode cX19_swap 139 = .ok (.aconst_null, 1) := by decide +kernel
theorem dX19_swap_140 : decode cX19_swap 140 = .ok (.putfield 69, 3) := by decide +kernel
theorem dX19_swap_143 : decode cX19_swap 143 = .ok (.aload_n 0, 1) := by decide +kernel
theorem dX19_swap_144 : decode cX19_swap 144 = .ok (.getfield 37, 3) := by decide +kernel
theorem dX19_swap_147 : decode cX19_swap 147 = .ok (.invokeinterface 145 1, 5) := by decide +kernel
theorem dX19_swap_152 : decode cX19_swap 152 = .ok (.astore 7, 2) := by decide +kernel
theorem dX19_swap_154 : decode cX19_swap 154 = .ok (.aload 7, 2) := by decide +kernel
theorem dX19_swap_156 : decode cX19_swap 156 = .ok (.invokeinterface 149 1, 5) := by decide +kernel
theorem dX19_swap_161 : decode cX19_swap 161 = .ok (.ifCond .eq 74, 3) := by decide +kernel
theorem dX19_swap_164 : decode cX19_swap 164 = .ok (.aload 7, 2) := by decide +kernel
theorem dX19_swap_166 : decode cX19_swap 166 = .ok (.invokeinterface 155 1, 5) := by decide +kernel
theorem dX19_swap_171 : decode cX19_swap 171 = .ok (.checkcast 117, 3) := by decide +kernel
theorem dX19_swap_174 : decode cX19_swap 174 = .ok (.astore 8, 2) := by decide +kernel
theorem dX19_swap_176 : decode cX19_swap 176 = .ok (.aload 8, 2) := by decide +kernel
theorem dX19_swap_178 : decode cX19_swap 178 = .ok (.getfield 139, 3) := by decide +kernel
theorem dX19_swap_181 : decode cX19_swap 181 = .ok (.iload 5, 2) := by decide +kernel
theorem dX19_swap_183 : decode cX19_swap 183 = .ok (.if_icmp .ne 22, 3) := by decide +kernel
theorem dX19_swap_186 : decode cX19_swap 186 = .ok (.aload 8, 2) := by decide +kernel
theorem dX19_swap_188 : decode cX19_swap 188 = .ok (.aload_n 3, 1) := by decide +kernel
theorem dX19_swap_189 : decode cX19_swap 189 = .ok (.invokevirtual 159, 3) := by decide +kernel
theorem dX19_swap_192 : decode cX19_swap 192 = .ok (.ifCond .ne 13, 3) := by decide +kernel
theorem dX19_swap_195 : decode cX19_swap 195 = .ok (.aload 8, 2) := by decide +kernel
theorem dX19_swap_197 : decode cX19_swap 197 = .ok (.iload 6, 2) := by decide +kernel
theorem dX19_swap_199 : decode cX19_swap 199 = .ok (.putfield 139, 3) := by decide +kernel
theorem dX19_swap_202 : decode cX19_swap 202 = .ok (.goto 30, 3) := by decide +kernel
theorem dX19_swap_205 : decode cX19_swap 205 = .ok (.aload 8, 2) := by decide +kernel
theorem dX19_swap_207 : decode cX19_swap 207 = .ok (.getfield 139, 3) := by decide +kernel
theorem dX19_swap_210 : decode cX19_swap 210 = .ok (.iload 6, 2) := by decide +kernel
theorem dX19_swap_212 : decode cX19_swap 212 = .ok (.if_icmp .ne 20, 3) := by decide +kernel
theorem dX19_swap_215 : decode cX19_swap 215 = .ok (.aload 8, 2) := by decide +kernel
theorem dX19_swap_217 : decode cX19_swap 217 = .ok (.aload 4, 2) := by decide +kernel
theorem dX19_swap_219 : decode cX19_swap 219 = .ok (.invokevirtual 159, 3) := by decide +kernel
theorem dX19_swap_222 : decode cX19_swap 222 = .ok (.ifCond .ne 10, 3) := by decide +kernel
theorem dX19_swap_225 : decode cX19_swap 225 = .ok (.aload 8, 2) := by decide +kernel
theorem dX19_swap_227 : decode cX19_swap 227 = .ok (.iload 5, 2) := by decide +kernel
theorem dX19_swap_229 : decode cX19_swap 229 = .ok (.putfield 139, 3) := by decide +kernel
theorem dX19_swap_232 : decode cX19_swap 232 = .ok (.goto (-78), 3) := by decide +kernel
theorem dX19_swap_235 : decode cX19_swap 235 = .ok (.aload_n 3, 1) := by decide +kernel
theorem dX19_swap_236 : decode cX19_swap 236 = .ok (.getfield 139, 3) := by decide +kernel
theorem dX19_swap_239 : decode cX19_swap 239 = .ok (.ireturn, 1) := by decide +kernel
theorem dX19_cancel_0 : decode cX19_cancel 0 = .ok (.aload_n 0, 1) := by decide +kernel
theorem dX19_cancel_1 : decode cX19_cancel 1 = .ok (.aload_n 0, 1) := by decide +kernel
theorem dX19_cancel_2 : decode cX19_cancel 2 = .ok (.iload_n 1, 1) := by decide +kernel
theorem dX19_cancel_3 : decode cX19_cancel 3 = .ok (.invokevirtual 120, 3) := by decide +kernel
theorem dX19_cancel_6 : decode cX19_cancel 6 = .ok (.ifCond .eq 7, 3) := by decide +kernel
theorem dX19_cancel_9 : decode cX19_cancel 9 = .ok (.iconst 0, 1) := by decide +kernel
theorem dX19_cancel_10 : decode cX19_cancel 10 = .ok (.goto 4, 3) := by decide +kernel
theorem dX19_cancel_13 : decode cX19_cancel 13 = .ok (.iconst 1, 1) := by decide +kernel
theorem dX19_cancel_14 : decode cX19_cancel 14 = .ok (.putfield 46, 3) := by decide +kernel
theorem dX19_cancel_17 : decode cX19_cancel 17 = .ok (.aload_n 0, 1) := by decide +kernel
theorem dX19_cancel_18 : decode cX19_cancel 18 = .ok (.getfield 46, 3) := by decide +kernel
theorem dX19_cancel_21 : decode cX19_cancel 21 = .ok (.ifCond .le 5, 3) := by decide +kernel
theorem dX19_cancel_24 : decode cX19_cancel 24 = .ok (.iconst 0, 1) := by decide +kernel
theorem dX19_cancel_25 : decode cX19_cancel 25 = .ok (.ireturn, 1) := by decide +kernel
theorem dX19_cancel_26 : decode cX19_cancel 26 = .ok (.aload_n 0, 1) := by decide +kernel
theorem dX19_cancel_27 : decode cX19_cancel 27 = .ok (.aconst_null, 1) := by decide +kernel
theorem dX19_cancel_28 : decode cX19_cancel 28 = .ok (.putfield 69, 3) := by decide +kernel
theorem dX19_cancel_31 : decode cX19_cancel 31 = .ok (.aload_n 0, 1) := by decide +kernel
theorem dX19_cancel_32 : decode cX19_cancel 32 = .ok (.getfield 37, 3) := by decide +kernel
theorem dX19_cancel_35 : decode cX19_cancel 35 = .ok (.iload_n 1, 1) := by decide +kernel
theorem dX19_cancel_36 : decode cX19_cancel 36 = .ok (.invokeinterface 90 2, 5) := by decide +kernel
theorem dX19_cancel_41 : decode cX19_cancel 41 = .ok (.checkcast 117, 3) := by decide +kernel
theorem dX19_cancel_44 : decode cX19_cancel 44 = .ok (.getfield 163, 3) := by decide +kernel
theorem dX19_cancel_47 : decode cX19_cancel 47 = .ok (.istore_n 2, 1) := by decide +kernel
theorem dX19_cancel_48 : decode cX19_cancel 48 = .ok (.aload_n 0, 1) := by decide +kernel
theorem dX19_cancel_49 : decode cX19_cancel 49 = .ok (.getfield 37, 3) := by decide +kernel
theorem dX19_cancel_52 : decode cX19_cancel 52 = .ok (.iload_n 1, 1) := by decide +kernel
theorem dX19_cancel_53 : decode cX19_cancel 53 = .ok (.invokeinterface 90 2, 5) := by decide +kernel
theorem dX19_cancel_58 : decode cX19_cancel 58 = .ok (.checkcast 117, 3) := by decide +kernel
theorem dX19_cancel_61 : decode cX19_cancel 61 = .ok (.iconst 1, 1) := by decide +kernel
theorem dX19_cancel_62 : decode cX19_cancel 62 = .ok (.putfield 163, 3) := by decide +kernel
theorem dX19_cancel_65 : decode cX19_cancel 65 = .ok (.iload_n 2, 1) := by decide +kernel
theorem dX19_cancel_66 : decode cX19_cancel 66 = .ok (.ifCond .ne 7, 3) := by decide +kernel
theorem dX19_cancel_69 : decode cX19_cancel 69 = .ok (.iconst 1, 1) := by decide +kernel
theorem dX19_cancel_70 : decode cX19_cancel 70 = .ok (.goto 4, 3) := by decide +kernel
theorem dX19_cancel_73 : decode cX19_cancel 73 = .ok (.iconst 0, 1) := by decide +kernel
theorem dX19_cancel_74 : decode cX19_cancel 74 = .ok (.ireturn, 1) := by decide +kernel
theorem dX19_addGroup_0 : decode cX19_addGroup 0 = .ok (.aload_n 0, 1) := by decide +kernel
theorem dX19_addGroup_1 : decode cX19_addGroup 1 = .ok (.iload_n 1, 1) := by decide +kernel
theorem dX19_addGroup_2 : decode cX19_addGroup 2 = .ok (.invokevirtual 120, 3) := by decide +kernel
theorem dX19_addGroup_5 : decode cX19_addGroup 5 = .ok (.ifCond .eq 20, 3) := by decide +kernel
theorem dX19_addGroup_8 : decode cX19_addGroup 8 = .ok (.iload_n 2, 1) := by decide +kernel
theorem dX19_addGroup_9 : decode cX19_addGroup 9 = .ok (.iconst (-1), 1) := by decide +kernel
theorem dX19_addGroup_10 : decode cX19_addGroup 10 = .ok (.if_icmp .eq 11, 3) := by decide +kernel
theorem dX19_addGroup_13 : decode cX19_addGroup 13 = .ok (.aload_n 0, 1) := by decide +kernel
theorem dX19_addGroup_14 : decode cX19_addGroup 14 = .ok (.iload_n 2, 1) := by decide +kernel
theorem dX19_addGroup_15 : decode cX19_addGroup 15 = .ok (.invokevirtual 120, 3) := by decide +kernel
theorem dX19_addGroup_18 : decode cX19_addGroup 18 = .ok (.ifCond .eq 7, 3) := by decide +kernel
theorem dX19_addGroup_21 : decode cX19_addGroup 21 = .ok (.iconst 1, 1) := by decide +kernel
theorem dX19_addGroup_22 : decode cX19_addGroup 22 = .ok (.goto 4, 3) := by decide +kernel
theorem dX19_addGroup_25 : decode cX19_addGroup 25 = .ok (.iconst 0, 1) := by decide +kernel
theorem dX19_addGroup_26 : decode cX19_addGroup 26 = .ok (.istore 6, 2) := by decide +kernel
theorem dX19_addGroup_28 : decode cX19_addGroup 28 = .ok (.aload_n 0, 1) := by decide +kernel
theorem dX19_addGroup_29 : decode cX19_addGroup 29 = .ok (.iload 6, 2) := by decide +kernel
theorem dX19_addGroup_31 : decode cX19_addGroup 31 = .ok (.ifCond .ne 7, 3) := by decide +kernel
theorem dX19_addGroup_34 : decode cX19_addGroup 34 = .ok (.iconst 1, 1) := by decide +kernel
theorem dX19_addGroup_35 : decode cX19_addGroup 35 = .ok (.goto 95, 3) := by decide +kernel
theorem dX19_addGroup_38 : decode cX19_addGroup 38 = .ok (.iload_n 3, 1) := by decide +kernel
theorem dX19_addGroup_39 : decode cX19_addGroup 39 = .ok (.i2l, 1) := by decide +kernel
theorem dX19_addGroup_40 : decode cX19_addGroup 40 = .ok (.lconst 1, 1) := by decide +kernel
theorem dX19_addGroup_41 : decode cX19_addGroup 41 = .ok (.ldc2_w 167, 3) := by decide +kernel
theorem dX19_addGroup_44 : decode cX19_addGroup 44 = .ok (.invokestatic 51, 3) := by decide +kernel
theorem dX19_addGroup_47 : decode cX19_addGroup 47 = .ok (.ifCond .eq 16, 3) := by decide +kernel
theorem dX19_addGroup_50 : decode cX19_addGroup 50 = .ok (.iload 4, 2) := by decide +kernel
theorem dX19_addGroup_52 : decode cX19_addGroup 52 = .ok (.i2l, 1) := by decide +kernel
theorem dX19_addGroup_53 : decode cX19_addGroup 53 = .ok (.lconst 0, 1) := by decide +kernel
theorem dX19_addGroup_54 : decode cX19_addGroup 54 = .ok (.ldc2_w 73, 3) := by decide +kernel
theorem dX19_addGroup_57 : decode cX19_addGroup 57 = .ok (.invokestatic 51, 3) := by decide +kernel
theorem dX19_addGroup_60 : decode cX19_addGroup 60 = .ok (.ifCond .ne 7, 3) := by decide +kernel
theorem dX19_addGroup_63 : decode cX19_addGroup 63 = .ok (.iconst 2, 1) := by decide +kernel
theorem dX19_addGroup_64 : decode cX19_addGroup 64 = .ok (.goto 66, 3) := by decide +kernel
theorem dX19_addGroup_67 : decode cX19_addGroup 67 = .ok (.iload_n 2, 1) := by decide +kernel
theorem dX19_addGroup_68 : decode cX19_addGroup 68 = .ok (.iconst (-1), 1) := by decide +kernel
theorem dX19_addGroup_69 : decode cX19_addGroup 69 = .ok (.if_icmp .eq 42, 3) := by decide +kernel
theorem dX19_addGroup_72 : decode cX19_addGroup 72 = .ok (.aload_n 0, 1) := by decide +kernel
theorem dX19_addGroup_73 : decode cX19_addGroup 73 = .ok (.getfield 37, 3) := by decide +kernel
theorem dX19_addGroup_76 : decode cX19_addGroup 76 = .ok (.iload_n 2, 1) := by decide +kernel
theorem dX19_addGroup_77 : decode cX19_addGroup 77 = .ok (.invokeinterface 90 2, 5) := by decide +kernel
theorem dX19_addGroup_82 : decode cX19_addGroup 82 = .ok (.checkcast 117, 3) := by decide +kernel
theorem dX19_addGroup_85 : decode cX19_addGroup 85 = .ok (.getfield 123, 3) := by decide +kernel
theorem dX19_addGroup_88 : decode cX19_addGroup 88 = .ok (.aload_n 0, 1) := by decide +kernel
theorem dX19_addGroup_89 : decode cX19_addGroup 89 = .ok (.getfield 37, 3) := by decide +kernel
theorem dX19_addGroup_92 : decode cX19_addGroup 92 = .ok (.iload_n 1, 1) := by decide +kernel
theorem dX19_addGroup_93 : decode cX19_addGroup 93 = .ok (.invokeinterface 90 2, 5) := by decide +kernel
theorem dX19_addGroup_98 : decode cX19_addGroup 98 = .ok (.checkcast 117, 3) := by decide +kernel
theorem dX19_addGroup_101 : decode cX19_addGroup 101 = .ok (.getfield 169, 3) := by decide +kernel
theorem dX19_addGroup_104 : decode cX19_addGroup 104 = .ok (.if_icmp .eq 7, 3) := by decide +kernel
theorem dX19_addGroup_107 : decode cX19_addGroup 107 = .ok (.iconst 3, 1) := by decide +kernel
theorem dX19_addGroup_108 : decode cX19_addGroup 108 = .ok (.goto 22, 3) := by decide +kernel
theorem dX19_addGroup_111 : decode cX19_addGroup 111 = .ok (.aload_n 0, 1) := by decide +kernel
theorem dX19_addGroup_112 : decode cX19_addGroup 112 = .ok (.getfield 40, 3) := by decide +kernel
theorem dX19_addGroup_115 : decode cX19_addGroup 115 = .ok (.invokeinterface 55 1, 5) := by decide +kernel
theorem dX19_addGroup_120 : decode cX19_addGroup 120 = .ok (.bipush 12, 2) := by decide +kernel
theorem dX19_addGroup_122 : decode cX19_addGroup 122 = .ok (.if_icmp .ne 7, 3) := by decide +kernel
theorem dX19_addGroup_125 : decode cX19_addGroup 125 = .ok (.iconst 4, 1) := by decide +kernel
theorem dX19_addGroup_126 : decode cX19_addGroup 126 = .ok (.goto 4, 3) := by decide +kernel
theorem dX19_addGroup_129 : decode cX19_addGroup 129 = .ok (.iconst 0, 1) := by decide +kernel
theorem dX19_addGroup_130 : decode cX19_addGroup 130 = .ok (.putfield 46, 3) := by decide +kernel
theorem dX19_addGroup_133 : decode cX19_addGroup 133 = .ok (.aload_n 0, 1) := by decide +kernel
theorem dX19_addGroup_134 : decode cX19_addGroup 134 = .ok (.getfield 46, 3) := by decide +kernel
theorem dX19_addGroup_137 : decode cX19_addGroup 137 = .ok (.ifCond .le 5, 3) := by decide +kernel
theorem dX19_addGroup_140 : decode cX19_addGroup 140 = .ok (.iconst (-1), 1) := by decide +kernel
theorem dX19_addGroup_141 : decode cX19_addGroup 141 = .ok (.ireturn, 1) := by decide +kernel
theorem dX19_addGroup_142 : decode cX19_addGroup 142 = .ok (.aload_n 0, 1) := by decide +kernel
theorem dX19_addGroup_143 : decode cX19_addGroup 143 = .ok (.aconst_null, 1) := by decide +kernel
theorem dX19_addGroup_144 : decode cX19_addGroup 144 = .ok (.putfield 69, 3) := by decide +kernel
theorem dX19_addGroup_147 : decode cX19_addGroup 147 = .ok (.aload_n 0, 1) := by decide +kernel
theorem dX19_addGroup_148 : decode cX19_addGroup 148 = .ok (.getfield 40, 3) := by decide +kernel
theorem dX19_addGroup_151 : decode cX19_addGroup 151 = .ok (.new 172, 3) := by decide +kernel
theorem dX19_addGroup_154 : decode cX19_addGroup 154 = .ok (.dup, 1) := by decide +kernel
theorem dX19_addGroup_155 : decode cX19_addGroup 155 = .ok (.iload_n 1, 1) := by decide +kernel
theorem dX19_addGroup_156 : decode cX19_addGroup 156 = .ok (.iload_n 2, 1) := by decide +kernel
theorem dX19_addGroup_157 : decode cX19_addGroup 157 = .ok (.iload_n 3, 1) := by decide +kernel
theorem dX19_addGroup_158 : decode cX19_addGroup 158 = .ok (.iload 4, 2) := by decide +kernel
theorem dX19_addGroup_160 : decode cX19_addGroup 160 = .ok (.iload 5, 2) := by decide +kernel
theorem dX19_addGroup_162 : decode cX19_addGroup 162 = .ok (.invokespecial 174, 3) := by decide +kernel
theorem dX19_addGroup_165 : decode cX19_addGroup 165 = .ok (.invokeinterface 86 2, 5) := by decide +kernel
theorem dX19_addGroup_170 : decode cX19_addGroup 170 = .ok (.pop, 1) := by decide +kernel
theorem dX19_addGroup_171 : decode cX19_addGroup 171 = .ok (.aload_n 0, 1) := by decide +kernel
theorem dX19_addGroup_172 : decode cX19_addGroup 172 = .ok (.getfield 40, 3) := by decide +kernel
theorem dX19_addGroup_175 : decode cX19_addGroup 175 = .ok (.invokeinterface 55 1, 5) := by decide +kernel
theorem dX19_addGroup_180 : decode cX19_addGroup 180 = .ok (.iconst 1, 1) := by decide +kernel
theorem dX19_addGroup_181 : decode cX19_addGroup 181 = .ok (.isub, 1) := by decide +kernel
theorem dX19_addGroup_182 : decode cX19_addGroup 182 = .ok (.ireturn, 1) := by decide +kernel
theorem dX19_tell_0 : decode cX19_tell 0 = .ok (.iload_n 1, 1) := by decide +kernel
theorem dX19_tell_1 : decode cX19_tell 1 = .ok (.bipush 104, 2) := by decide +kernel
theorem dX19_tell_3 : decode cX19_tell 3 = .ok (.if_icmp .ne 15, 3) := by decide +kernel
theorem dX19_tell_6 : decode cX19_tell 6 = .ok (.iload_n 3, 1) := by decide +kernel
theorem dX19_tell_7 : decode cX19_tell 7 = .ok (.i2l, 1) := by decide +kernel
theorem dX19_tell_8 : decode cX19_tell 8 = .ok (.lconst 0, 1) := by decide +kernel
theorem dX19_tell_9 : decode cX19_tell 9 = .ok (.ldc2_w 129, 3) := by decide +kernel
theorem dX19_tell_12 : decode cX19_tell 12 = .ok (.invokestatic 51, 3) := by decide +kernel
theorem dX19_tell_15 : decode cX19_tell 15 = .ok (.ifCond .ne 15, 3) := by decide +kernel
theorem dX19_tell_18 : decode cX19_tell 18 = .ok (.iload_n 1, 1) := by decide +kernel
theorem dX19_tell_19 : decode cX19_tell 19 = .ok (.bipush 120, 2) := by decide +kernel
theorem dX19_tell_21 : decode cX19_tell 21 = .ok (.if_icmp .eq 9, 3) := by decide +kernel
theorem dX19_tell_24 : decode cX19_tell 24 = .ok (.iload_n 1, 1) := by decide +kernel
theorem dX19_tell_25 : decode cX19_tell 25 = .ok (.bipush 102, 2) := by decide +kernel
theorem dX19_tell_27 : decode cX19_tell 27 = .ok (.if_icmp .ne 35, 3) := by decide +kernel
theorem dX19_tell_30 : decode cX19_tell 30 = .ok (.iload 4, 2) := by decide +kernel
theorem dX19_tell_32 : decode cX19_tell 32 = .ok (.i2l, 1) := by decide +kernel
theorem dX19_tell_33 : decode cX19_tell 33 = .ok (.lconst 0, 1) := by decide +kernel
theorem dX19_tell_34 : decode cX19_tell 34 = .ok (.ldc2_w 106, 3) := by decide +kernel
theorem dX19_tell_37 : decode cX19_tell 37 = .ok (.invokestatic 51, 3) := by decide +kernel
theorem dX19_tell_40 : decode cX19_tell 40 = .ok (.ifCond .eq 22, 3) := by decide +kernel
theorem dX19_tell_43 : decode cX19_tell 43 = .ok (.iload 5, 2) := by decide +kernel
theorem dX19_tell_45 : decode cX19_tell 45 = .ok (.i2l, 1) := by decide +kernel
theorem dX19_tell_46 : decode cX19_tell 46 = .ok (.iload 4, 2) := by decide +kernel
theorem dX19_tell_48 : decode cX19_tell 48 = .ok (.i2l, 1) := by decide +kernel
theorem dX19_tell_49 : decode cX19_tell 49 = .ok (.ldc2_w 106, 3) := by decide +kernel
theorem dX19_tell_52 : decode cX19_tell 52 = .ok (.invokestatic 51, 3) := by decide +kernel
theorem dX19_tell_55 : decode cX19_tell 55 = .ok (.ifCond .eq 7, 3) := by decide +kernel
theorem dX19_tell_58 : decode cX19_tell 58 = .ok (.iconst 1, 1) := by decide +kernel
theorem dX19_tell_59 : decode cX19_tell 59 = .ok (.goto 4, 3) := by decide +kernel
theorem dX19_tell_62 : decode cX19_tell 62 = .ok (.iconst 0, 1) := by decide +kernel
theorem dX19_tell_63 : decode cX19_tell 63 = .ok (.istore 6, 2) := by decide +kernel
theorem dX19_tell_65 : decode cX19_tell 65 = .ok (.aload_n 0, 1) := by decide +kernel
theorem dX19_tell_66 : decode cX19_tell 66 = .ok (.aload_n 0, 1) := by decide +kernel
theorem dX19_tell_67 : decode cX19_tell 67 = .ok (.iload_n 2, 1) := by decide +kernel
theorem dX19_tell_68 : decode cX19_tell 68 = .ok (.invokevirtual 120, 3) := by decide +kernel
theorem dX19_tell_71 : decode cX19_tell 71 = .ok (.ifCond .ne 7, 3) := by decide +kernel
theorem dX19_tell_74 : decode cX19_tell 74 = .ok (.iconst 1, 1) := by decide +kernel
theorem dX19_tell_75 : decode cX19_tell 75 = .ok (.goto 31, 3) := by decide +kernel
theorem dX19_tell_78 : decode cX19_tell 78 = .ok (.iload 6, 2) := by decide +kernel
theorem dX19_tell_80 : decode cX19_tell 80 = .ok (.ifCond .ne 7, 3) := by decide +kernel
theorem dX19_tell_83 : decode cX19_tell 83 = .ok (.iconst 2, 1) := by decide +kernel
theorem dX19_tell_84 : decode cX19_tell 84 = .ok (.goto 22, 3) := by decide +kernel
theorem dX19_tell_87 : decode cX19_tell 87 = .ok (.aload_n 0, 1) := by decide +kernel
theorem dX19_tell_88 : decode cX19_tell 88 = .ok (.getfield 43, 3) := by decide +kernel
theorem dX19_tell_91 : decode cX19_tell 91 = .ok (.invokeinterface 55 1, 5) := by decide +kernel
theorem dX19_tell_96 : decode cX19_tell 96 = .ok (.bipush 10, 2) := by decide +kernel
theorem dX19_tell_98 : decode cX19_tell 98 = .ok (.if_icmp .ne 7, 3) := by decide +kernel
theorem dX19_tell_101 : decode cX19_tell 101 = .ok (.iconst 3, 1) := by decide +kernel
theorem dX19_tell_102 : decode cX19_tell 102 = .ok (.goto 4, 3) := by decide +kernel
theorem dX19_tell_105 : decode cX19_tell 105 = .ok (.iconst 0, 1) := by decide +kernel
theorem dX19_tell_106 : decode cX19_tell 106 = .ok (.putfield 46, 3) := by decide +kernel
theorem dX19_tell_109 : decode cX19_tell 109 = .ok (.aload_n 0, 1) := by decide +kernel
theorem dX19_tell_110 : decode cX19_tell 110 = .ok (.getfield 46, 3) := by decide +kernel
theorem dX19_tell_113 : decode cX19_tell 113 = .ok (.ifCond .le 5, 3) := by decide +kernel
theorem dX19_tell_116 : decode cX19_tell 116 = .ok (.iconst (-1), 1) := by decide +kernel
theorem dX19_tell_117 : decode cX19_tell 117 = .ok (.ireturn, 1) := by decide +kernel
theorem dX19_tell_118 : decode cX19_tell 118 = .ok (.aload_n 0, 1) := by decide +kernel
theorem dX19_tell_119 : decode cX19_tell 119 = .ok (.aconst_null, 1) := by decide +kernel
theorem dX19_tell_120 : decode cX19_tell 120 = .ok (.putfield 69, 3) := by decide +kernel
theorem dX19_tell_123 : decode cX19_tell 123 = .ok (.aload_n 0, 1) := by decide +kernel
theorem dX19_tell_124 : decode cX19_tell 124 = .ok (.getfield 43, 3) := by decide +kernel
theorem dX19_tell_127 : decode cX19_tell 127 = .ok (.iconst 5, 1) := by decide +kernel
theorem dX19_tell_128 : decode cX19_tell 128 = .ok (.newarray .int, 2) := by decide +kernel
theorem dX19_tell_130 : decode cX19_tell 130 = .ok (.dup, 1) := by decide +kernel
theorem dX19_tell_131 : decode cX19_tell 131 = .ok (.iconst 0, 1) := by decide +kernel
theorem dX19_tell_132 : decode cX19_tell 132 = .ok (.iload_n 1, 1) := by decide +kernel
theorem dX19_tell_133 : decode cX19_tell 133 = .ok (.iastore, 1) := by decide +kernel
theorem dX19_tell_134 : decode cX19_tell 134 = .ok (.dup, 1) := by decide +kernel
theorem dX19_tell_135 : decode cX19_tell 135 = .ok (.iconst 1, 1) := by decide +kernel
theorem dX19_tell_136 : decode cX19_tell 136 = .ok (.iload_n 2, 1) := by decide +kernel
theorem dX19_tell_137 : decode cX19_tell 137 = .ok (.iastore, 1) := by decide +kernel
theorem dX19_tell_138 : decode cX19_tell 138 = .ok (.dup, 1) := by decide +kernel
theorem dX19_tell_139 : decode cX19_tell 139 = .ok (.iconst 2, 1) := by decide +kernel
theorem dX19_tell_140 : decode cX19_tell 140 = .ok (.iload_n 3, 1) := by decide +kernel
theorem dX19_tell_141 : decode cX19_tell 141 = .ok (.iastore, 1) := by decide +kernel
theorem dX19_tell_142 : decode cX19_tell 142 = .ok (.dup, 1) := by decide +kernel
theorem dX19_tell_143 : decode cX19_tell 143 = .ok (.iconst 3, 1) := by decide +kernel
theorem dX19_tell_144 : decode cX19_tell 144 = .ok (.iload 4, 2) := by decide +kernel
theorem dX19_tell_146 : decode cX19_tell 146 = .ok (.iastore, 1) := by decide +kernel
theorem dX19_tell_147 : decode cX19_tell 147 = .ok (.dup, 1) := by decide +kernel
theorem dX19_tell_148 : decode cX19_tell 148 = .ok (.iconst 4, 1) := by decide +kernel
theorem dX19_tell_149 : decode cX19_tell 149 = .ok (.iload 5, 2) := by decide +kernel
theorem dX19_tell_151 : decode cX19_tell 151 = .ok (.iastore, 1) := by decide +kernel
theorem dX19_tell_152 : decode cX19_tell 152 = .ok (.invokeinterface 86 2, 5) := by decide +kernel
theorem dX19_tell_157 : decode cX19_tell 157 = .ok (.pop, 1) := by decide +kernel
theorem dX19_tell_158 : decode cX19_tell 158 = .ok (.aload_n 0, 1) := by decide +kernel
theorem dX19_tell_159 : decode cX19_tell 159 = .ok (.getfield 43, 3) := by decide +kernel
theorem dX19_tell_162 : decode cX19_tell 162 = .ok (.invokeinterface 55 1, 5) := by decide +kernel
theorem dX19_tell_167 : decode cX19_tell 167 = .ok (.ireturn, 1) := by decide +kernel
theorem dX19_day_0 : decode cX19_day 0 = .ok (.aload_n 0, 1) := by decide +kernel
theorem dX19_day_1 : decode cX19_day 1 = .ok (.aload_n 0, 1) := by decide +kernel
theorem dX19_day_2 : decode cX19_day 2 = .ok (.getfield 69, 3) := by decide +kernel
theorem dX19_day_5 : decode cX19_day 5 = .ok (.ifnonnull 14, 3) := by decide +kernel
theorem dX19_day_8 : decode cX19_day 8 = .ok (.new 177, 3) := by decide +kernel
theorem dX19_day_11 : decode cX19_day 11 = .ok (.dup, 1) := by decide +kernel
theorem dX19_day_12 : decode cX19_day 12 = .ok (.aload_n 0, 1) := by decide +kernel
theorem dX19_day_13 : decode cX19_day 13 = .ok (.invokespecial 179, 3) := by decide +kernel
theorem dX19_day_16 : decode cX19_day 16 = .ok (.goto 7, 3) := by decide +kernel
theorem dX19_day_19 : decode cX19_day 19 = .ok (.aload_n 0, 1) := by decide +kernel
theorem dX19_day_20 : decode cX19_day 20 = .ok (.getfield 69, 3) := by decide +kernel
theorem dX19_day_23 : decode cX19_day 23 = .ok (.putfield 69, 3) := by decide +kernel
theorem dX19_day_26 : decode cX19_day 26 = .ok (.aload_n 0, 1) := by decide +kernel
theorem dX19_day_27 : decode cX19_day 27 = .ok (.getfield 69, 3) := by decide +kernel
theorem dX19_day_30 : decode cX19_day 30 = .ok (.areturn, 1) := by decide +kernel
theorem dX19_state_0 : decode cX19_state 0 = .ok (.aload_n 0, 1) := by decide +kernel
theorem dX19_state_1 : decode cX19_state 1 = .ok (.aload_n 0, 1) := by decide +kernel
theorem dX19_state_2 : decode cX19_state 2 = .ok (.iload_n 1, 1) := by decide +kernel
theorem dX19_state_3 : decode cX19_state 3 = .ok (.invokevirtual 120, 3) := by decide +kernel
theorem dX19_state_6 : decode cX19_state 6 = .ok (.ifCond .eq 7, 3) := by decide +kernel
theorem dX19_state_9 : decode cX19_state 9 = .ok (.iconst 0, 1) := by decide +kernel
theorem dX19_state_10 : decode cX19_state 10 = .ok (.goto 4, 3) := by decide +kernel
theorem dX19_state_13 : decode cX19_state 13 = .ok (.iconst 1, 1) := by decide +kernel
theorem dX19_state_14 : decode cX19_state 14 = .ok (.putfield 46, 3) := by decide +kernel
theorem dX19_state_17 : decode cX19_state 17 = .ok (.aload_n 0, 1) := by decide +kernel
theorem dX19_state_18 : decode cX19_state 18 = .ok (.getfield 46, 3) := by decide +kernel
theorem dX19_state_21 : decode cX19_state 21 = .ok (.ifCond .ne 25, 3) := by decide +kernel
theorem dX19_state_24 : decode cX19_state 24 = .ok (.aload_n 0, 1) := by decide +kernel
theorem dX19_state_25 : decode cX19_state 25 = .ok (.invokevirtual 182, 3) := by decide +kernel
theorem dX19_state_28 : decode cX19_state 28 = .ok (.getfield 185, 3) := by decide +kernel
theorem dX19_state_31 : decode cX19_state 31 = .ok (.iload_n 1, 1) := by decide +kernel
theorem dX19_state_32 : decode cX19_state 32 = .ok (.invokeinterface 90 2, 5) := by decide +kernel
theorem dX19_state_37 : decode cX19_state 37 = .ok (.checkcast 188, 3) := by decide +kernel
theorem dX19_state_40 : decode cX19_state 40 = .ok (.getfield 190, 3) := by decide +kernel
theorem dX19_state_43 : decode cX19_state 43 = .ok (.goto 5, 3) := by decide +kernel
theorem dX19_state_46 : decode cX19_state 46 = .ok (.bipush 32, 2) := by decide +kernel
theorem dX19_state_48 : decode cX19_state 48 = .ok (.ireturn, 1) := by decide +kernel
theorem dX19_minuteOf_0 : decode cX19_minuteOf 0 = .ok (.aload_n 0, 1) := by decide +kernel
theorem dX19_minuteOf_1 : decode cX19_minuteOf 1 = .ok (.aload_n 0, 1) := by decide +kernel
theorem dX19_minuteOf_2 : decode cX19_minuteOf 2 = .ok (.iload_n 1, 1) := by decide +kernel
theorem dX19_minuteOf_3 : decode cX19_minuteOf 3 = .ok (.invokevirtual 120, 3) := by decide +kernel
theorem dX19_minuteOf_6 : decode cX19_minuteOf 6 = .ok (.ifCond .ne 7, 3) := by decide +kernel
theorem dX19_minuteOf_9 : decode cX19_minuteOf 9 = .ok (.iconst 1, 1) := by decide +kernel
theorem dX19_minuteOf_10 : decode cX19_minuteOf 10 = .ok (.goto 17, 3) := by decide +kernel
theorem dX19_minuteOf_13 : decode cX19_minuteOf 13 = .ok (.ldc 194, 2) := by decide +kernel
theorem dX19_minuteOf_15 : decode cX19_minuteOf 15 = .ok (.iload_n 2, 1) := by decide +kernel
theorem dX19_minuteOf_16 : decode cX19_minuteOf 16 = .ok (.invokevirtual 196, 3) := by decide +kernel
theorem dX19_minuteOf_19 : decode cX19_minuteOf 19 = .ok (.ifCond .ge 7, 3) := by decide +kernel
theorem dX19_minuteOf_22 : decode cX19_minuteOf 22 = .ok (.iconst 2, 1) := by decide +kernel
theorem dX19_minuteOf_23 : decode cX19_minuteOf 23 = .ok (.goto 4, 3) := by decide +kernel
theorem dX19_minuteOf_26 : decode cX19_minuteOf 26 = .ok (.iconst 0, 1) := by decide +kernel
theorem dX19_minuteOf_27 : decode cX19_minuteOf 27 = .ok (.putfield 46, 3) := by decide +kernel
theorem dX19_minuteOf_30 : decode cX19_minuteOf 30 = .ok (.aload_n 0, 1) := by decide +kernel
theorem dX19_minuteOf_31 : decode cX19_minuteOf 31 = .ok (.getfield 46, 3) := by decide +kernel
theorem dX19_minuteOf_34 : decode cX19_minuteOf 34 = .ok (.ifCond .le 5, 3) := by decide +kernel
theorem dX19_minuteOf_37 : decode cX19_minuteOf 37 = .ok (.iconst (-1), 1) := by decide +kernel
theorem dX19_minuteOf_38 : decode cX19_minuteOf 38 = .ok (.ireturn, 1) := by decide +kernel
theorem dX19_minuteOf_39 : decode cX19_minuteOf 39 = .ok (.aload_n 0, 1) := by decide +kernel
theorem dX19_minuteOf_40 : decode cX19_minuteOf 40 = .ok (.invokevirtual 182, 3) := by decide +kernel
theorem dX19_minuteOf_43 : decode cX19_minuteOf 43 = .ok (.getfield 185, 3) := by decide +kernel
theorem dX19_minuteOf_46 : decode cX19_minuteOf 46 = .ok (.iload_n 1, 1) := by decide +kernel
theorem dX19_minuteOf_47 : decode cX19_minuteOf 47 = .ok (.invokeinterface 90 2, 5) := by decide +kernel
theorem dX19_minuteOf_52 : decode cX19_minuteOf 52 = .ok (.checkcast 188, 3) := by decide +kernel
theorem dX19_minuteOf_55 : decode cX19_minuteOf 55 = .ok (.astore_n 3, 1) := by decide +kernel
theorem dX19_minuteOf_56 : decode cX19_minuteOf 56 = .ok (.iload_n 2, 1) := by decide +kernel
theorem dX19_minuteOf_57 : decode cX19_minuteOf 57 = .ok (.bipush 68, 2) := by decide +kernel
theorem dX19_minuteOf_59 : decode cX19_minuteOf 59 = .ok (.if_icmp .ne 10, 3) := by decide +kernel
theorem dX19_minuteOf_62 : decode cX19_minuteOf 62 = .ok (.aload_n 3, 1) := by decide +kernel
theorem dX19_minuteOf_63 : decode cX19_minuteOf 63 = .ok (.getfield 202, 3) := by decide +kernel
theorem dX19_minuteOf_66 : decode cX19_minuteOf 66 = .ok (.goto 46, 3) := by decide +kernel
theorem dX19_minuteOf_69 : decode cX19_minuteOf 69 = .ok (.iload_n 2, 1) := by decide +kernel
theorem dX19_minuteOf_70 : decode cX19_minuteOf 70 = .ok (.bipush 80, 2) := by decide +kernel
theorem dX19_minuteOf_72 : decode cX19_minuteOf 72 = .ok (.if_icmp .ne 10, 3) := by decide +kernel
theorem dX19_minuteOf_75 : decode cX19_minuteOf 75 = .ok (.aload_n 3, 1) := by decide +kernel
theorem dX19_minuteOf_76 : decode cX19_minuteOf 76 = .ok (.getfield 205, 3) := by decide +kernel
theorem dX19_minuteOf_79 : decode cX19_minuteOf 79 = .ok (.goto 33, 3) := by decide +kernel
theorem dX19_minuteOf_82 : decode cX19_minuteOf 82 = .ok (.iload_n 2, 1) := by decide +kernel
theorem dX19_minuteOf_83 : decode cX19_minuteOf 83 = .ok (.bipush 84, 2) := by decide +kernel
theorem dX19_minuteOf_85 : decode cX19_minuteOf 85 = .ok (.if_icmp .ne 10, 3) := by decide +kernel
theorem dX19_minuteOf_88 : decode cX19_minuteOf 88 = .ok (.aload_n 3, 1) := by decide +kernel
theorem dX19_minuteOf_89 : decode cX19_minuteOf 89 = .ok (.getfield 208, 3) := by decide +kernel
theorem dX19_minuteOf_92 : decode cX19_minuteOf 92 = .ok (.goto 20, 3) := by decide +kernel
theorem dX19_minuteOf_95 : decode cX19_minuteOf 95 = .ok (.iload_n 2, 1) := by decide +kernel
theorem dX19_minuteOf_96 : decode cX19_minuteOf 96 = .ok (.bipush 76, 2) := by decide +kernel
theorem dX19_minuteOf_98 : decode cX19_minuteOf 98 = .ok (.if_icmp .ne 10, 3) := by decide +kernel
theorem dX19_minuteOf_101 : decode cX19_minuteOf 101 = .ok (.aload_n 3, 1) := by decide +kernel
theorem dX19_minuteOf_102 : decode cX19_minuteOf 102 = .ok (.getfield 211, 3) := by decide +kernel
theorem dX19_minuteOf_105 : decode cX19_minuteOf 105 = .ok (.goto 7, 3) := by decide +kernel
theorem dX19_minuteOf_108 : decode cX19_minuteOf 108 = .ok (.aload_n 3, 1) := by decide +kernel
theorem dX19_minuteOf_109 : decode cX19_minuteOf 109 = .ok (.getfield 214, 3) := by decide +kernel
theorem dX19_minuteOf_112 : decode cX19_minuteOf 112 = .ok (.istore 4, 2) := by decide +kernel
theorem dX19_minuteOf_114 : decode cX19_minuteOf 114 = .ok (.aload_n 0, 1) := by decide +kernel
theorem dX19_minuteOf_115 : decode cX19_minuteOf 115 = .ok (.iload 4, 2) := by decide +kernel
theorem dX19_minuteOf_117 : decode cX19_minuteOf 117 = .ok (.iconst (-1), 1) := by decide +kernel
theorem dX19_minuteOf_118 : decode cX19_minuteOf 118 = .ok (.if_icmp .ne 7, 3) := by decide +kernel
theorem dX19_minuteOf_121 : decode cX19_minuteOf 121 = .ok (.iconst 3, 1) := by decide +kernel
theorem dX19_minuteOf_122 : decode cX19_minuteOf 122 = .ok (.goto 4, 3) := by decide +kernel
theorem dX19_minuteOf_125 : decode cX19_minuteOf 125 = .ok (.iconst 0, 1) := by decide +kernel
theorem dX19_minuteOf_126 : decode cX19_minuteOf 126 = .ok (.putfield 46, 3) := by decide +kernel
theorem dX19_minuteOf_129 : decode cX19_minuteOf 129 = .ok (.iload 4, 2) := by decide +kernel
theorem dX19_minuteOf_131 : decode cX19_minuteOf 131 = .ok (.ireturn, 1) := by decide +kernel
theorem dX19_standOf_0 : decode cX19_standOf 0 = .ok (.aload_n 0, 1) := by decide +kernel
theorem dX19_standOf_1 : decode cX19_standOf 1 = .ok (.aload_n 0, 1) := by decide +kernel
theorem dX19_standOf_2 : decode cX19_standOf 2 = .ok (.iload_n 1, 1) := by decide +kernel
theorem dX19_standOf_3 : decode cX19_standOf 3 = .ok (.invokevirtual 120, 3) := by decide +kernel
theorem dX19_standOf_6 : decode cX19_standOf 6 = .ok (.ifCond .ne 7, 3) := by decide +kernel
theorem dX19_standOf_9 : decode cX19_standOf 9 = .ok (.iconst 1, 1) := by decide +kernel
theorem dX19_standOf_10 : decode cX19_standOf 10 = .ok (.goto 31, 3) := by decide +kernel
theorem dX19_standOf_13 : decode cX19_standOf 13 = .ok (.aload_n 0, 1) := by decide +kernel
theorem dX19_standOf_14 : decode cX19_standOf 14 = .ok (.invokevirtual 182, 3) := by decide +kernel
theorem dX19_standOf_17 : decode cX19_standOf 17 = .ok (.getfield 185, 3) := by decide +kernel
theorem dX19_standOf_20 : decode cX19_standOf 20 = .ok (.iload_n 1, 1) := by decide +kernel
theorem dX19_standOf_21 : decode cX19_standOf 21 = .ok (.invokeinterface 90 2, 5) := by decide +kernel
theorem dX19_standOf_26 : decode cX19_standOf 26 = .ok (.checkcast 188, 3) := by decide +kernel
theorem dX19_standOf_29 : decode cX19_standOf 29 = .ok (.getfield 217, 3) := by decide +kernel
theorem dX19_standOf_32 : decode cX19_standOf 32 = .ok (.iconst (-1), 1) := by decide +kernel
theorem dX19_standOf_33 : decode cX19_standOf 33 = .ok (.if_icmp .ne 7, 3) := by decide +kernel
theorem dX19_standOf_36 : decode cX19_standOf 36 = .ok (.iconst 2, 1) := by decide +kernel
theorem dX19_standOf_37 : decode cX19_standOf 37 = .ok (.goto 4, 3) := by decide +kernel
theorem dX19_standOf_40 : decode cX19_standOf 40 = .ok (.iconst 0, 1) := by decide +kernel
theorem dX19_standOf_41 : decode cX19_standOf 41 = .ok (.putfield 46, 3) := by decide +kernel
theorem dX19_standOf_44 : decode cX19_standOf 44 = .ok (.aload_n 0, 1) := by decide +kernel
theorem dX19_standOf_45 : decode cX19_standOf 45 = .ok (.getfield 46, 3) := by decide +kernel
theorem dX19_standOf_48 : decode cX19_standOf 48 = .ok (.ifCond .ne 25, 3) := by decide +kernel
theorem dX19_standOf_51 : decode cX19_standOf 51 = .ok (.aload_n 0, 1) := by decide +kernel
theorem dX19_standOf_52 : decode cX19_standOf 52 = .ok (.invokevirtual 182, 3) := by decide +kernel
theorem dX19_standOf_55 : decode cX19_standOf 55 = .ok (.getfield 185, 3) := by decide +kernel
theorem dX19_standOf_58 : decode cX19_standOf 58 = .ok (.iload_n 1, 1) := by decide +kernel
theorem dX19_standOf_59 : decode cX19_standOf 59 = .ok (.invokeinterface 90 2, 5) := by decide +kernel
theorem dX19_standOf_64 : decode cX19_standOf 64 = .ok (.checkcast 188, 3) := by decide +kernel
theorem dX19_standOf_67 : decode cX19_standOf 67 = .ok (.getfield 217, 3) := by decide +kernel
theorem dX19_standOf_70 : decode cX19_standOf 70 = .ok (.goto 4, 3) := by decide +kernel
theorem dX19_standOf_73 : decode cX19_standOf 73 = .ok (.iconst (-1), 1) := by decide +kernel
theorem dX19_standOf_74 : decode cX19_standOf 74 = .ok (.ireturn, 1) := by decide +kernel
theorem dX19_hasCause_0 : decode cX19_hasCause 0 = .ok (.aload_n 0, 1) := by decide +kernel
theorem dX19_hasCause_1 : decode cX19_hasCause 1 = .ok (.iload_n 1, 1) := by decide +kernel
theorem dX19_hasCause_2 : decode cX19_hasCause 2 = .ok (.invokevirtual 120, 3) := by decide +kernel
theorem dX19_hasCause_5 : decode cX19_hasCause 5 = .ok (.ifCond .eq 22, 3) := by decide +kernel
theorem dX19_hasCause_8 : decode cX19_hasCause 8 = .ok (.aload_n 0, 1) := by decide +kernel
theorem dX19_hasCause_9 : decode cX19_hasCause 9 = .ok (.invokevirtual 182, 3) := by decide +kernel
theorem dX19_hasCause_12 : decode cX19_hasCause 12 = .ok (.getfield 185, 3) := by decide +kernel
theorem dX19_hasCause_15 : decode cX19_hasCause 15 = .ok (.iload_n 1, 1) := by decide +kernel
theorem dX19_hasCause_16 : decode cX19_hasCause 16 = .ok (.invokeinterface 90 2, 5) := by decide +kernel
theorem dX19_hasCause_21 : decode cX19_hasCause 21 = .ok (.checkcast 188, 3) := by decide +kernel
theorem dX19_hasCause_24 : decode cX19_hasCause 24 = .ok (.goto 4, 3) := by decide +kernel
theorem dX19_hasCause_27 : decode cX19_hasCause 27 = .ok (.aconst_null, 1) := by decide +kernel
theorem dX19_hasCause_28 : decode cX19_hasCause 28 = .ok (.astore_n 2, 1) := by decide +kernel
theorem dX19_hasCause_29 : decode cX19_hasCause 29 = .ok (.aload_n 0, 1) := by decide +kernel
theorem dX19_hasCause_30 : decode cX19_hasCause 30 = .ok (.aload_n 2, 1) := by decide +kernel
theorem dX19_hasCause_31 : decode cX19_hasCause 31 = .ok (.ifnonnull 7, 3) := by decide +kernel
theorem dX19_hasCause_34 : decode cX19_hasCause 34 = .ok (.iconst 1, 1) := by decide +kernel
theorem dX19_hasCause_35 : decode cX19_hasCause 35 = .ok (.goto 25, 3) := by decide +kernel
theorem dX19_hasCause_38 : decode cX19_hasCause 38 = .ok (.aload_n 2, 1) := by decide +kernel
theorem dX19_hasCause_39 : decode cX19_hasCause 39 = .ok (.getfield 208, 3) := by decide +kernel
theorem dX19_hasCause_42 : decode cX19_hasCause 42 = .ok (.iconst (-1), 1) := by decide +kernel
theorem dX19_hasCause_43 : decode cX19_hasCause 43 = .ok (.if_icmp .ne 16, 3) := by decide +kernel
theorem dX19_hasCause_46 : decode cX19_hasCause 46 = .ok (.aload_n 2, 1) := by decide +kernel
theorem dX19_hasCause_47 : decode cX19_hasCause 47 = .ok (.getfield 190, 3) := by decide +kernel
theorem dX19_hasCause_50 : decode cX19_hasCause 50 = .ok (.bipush 120, 2) := by decide +kernel
theorem dX19_hasCause_52 : decode cX19_hasCause 52 = .ok (.if_icmp .eq 7, 3) := by decide +kernel
theorem dX19_hasCause_55 : decode cX19_hasCause 55 = .ok (.iconst 2, 1) := by decide +kernel
theorem dX19_hasCause_56 : decode cX19_hasCause 56 = .ok (.goto 4, 3) := by decide +kernel
theorem dX19_hasCause_59 : decode cX19_hasCause 59 = .ok (.iconst 0, 1) := by decide +kernel
theorem dX19_hasCause_60 : decode cX19_hasCause 60 = .ok (.putfield 46, 3) := by decide +kernel
theorem dX19_hasCause_63 : decode cX19_hasCause 63 = .ok (.aload_n 0, 1) := by decide +kernel
theorem dX19_hasCause_64 : decode cX19_hasCause 64 = .ok (.getfield 46, 3) := by decide +kernel
theorem dX19_hasCause_67 : decode cX19_hasCause 67 = .ok (.ifCond .ne 7, 3) := by decide +kernel
theorem dX19_hasCause_70 : decode cX19_hasCause 70 = .ok (.iconst 1, 1) := by decide +kernel
theorem dX19_hasCause_71 : decode cX19_hasCause 71 = .ok (.goto 4, 3) := by decide +kernel
theorem dX19_hasCause_74 : decode cX19_hasCause 74 = .ok (.iconst 0, 1) := by decide +kernel
theorem dX19_hasCause_75 : decode cX19_hasCause 75 = .ok (.ireturn, 1) := by decide +kernel
theorem dX19_cause_0 : decode cX19_cause 0 = .ok (.aload_n 0, 1) := by decide +kernel
theorem dX19_cause_1 : decode cX19_cause 1 = .ok (.iload_n 1, 1) := by decide +kernel
theorem dX19_cause_2 : decode cX19_cause 2 = .ok (.invokevirtual 220, 3) := by decide +kernel
theorem dX19_cause_5 : decode cX19_cause 5 = .ok (.ifCond .eq 14, 3) := by decide +kernel
theorem dX19_cause_8 : decode cX19_cause 8 = .ok (.aload_n 0, 1) := by decide +kernel
theorem dX19_cause_9 : decode cX19_cause 9 = .ok (.invokevirtual 182, 3) := by decide +kernel
theorem dX19_cause_12 : decode cX19_cause 12 = .ok (.iload_n 1, 1) := by decide +kernel
theorem dX19_cause_13 : decode cX19_cause 13 = .ok (.invokevirtual 223, 3) := by decide +kernel
theorem dX19_cause_16 : decode cX19_cause 16 = .ok (.goto 5, 3) := by decide +kernel
theorem dX19_cause_19 : decode cX19_cause 19 = .ok (.bipush 32, 2) := by decide +kernel
theorem dX19_cause_21 : decode cX19_cause 21 = .ok (.ireturn, 1) := by decide +kernel
theorem dX19_root_0 : decode cX19_root 0 = .ok (.aload_n 0, 1) := by decide +kernel
theorem dX19_root_1 : decode cX19_root 1 = .ok (.iload_n 1, 1) := by decide +kernel
theorem dX19_root_2 : decode cX19_root 2 = .ok (.invokevirtual 220, 3) := by decide +kernel
theorem dX19_root_5 : decode cX19_root 5 = .ok (.ifCond .eq 14, 3) := by decide +kernel
theorem dX19_root_8 : decode cX19_root 8 = .ok (.aload_n 0, 1) := by decide +kernel
theorem dX19_root_9 : decode cX19_root 9 = .ok (.invokevirtual 182, 3) := by decide +kernel
theorem dX19_root_12 : decode cX19_root 12 = .ok (.iload_n 1, 1) := by decide +kernel
theorem dX19_root_13 : decode cX19_root 13 = .ok (.invokevirtual 227, 3) := by decide +kernel
theorem dX19_root_16 : decode cX19_root 16 = .ok (.goto 4, 3) := by decide +kernel
theorem dX19_root_19 : decode cX19_root 19 = .ok (.iconst (-1), 1) := by decide +kernel
theorem dX19_root_20 : decode cX19_root 20 = .ok (.ireturn, 1) := by decide +kernel
theorem dX19_isGroup_0 : decode cX19_isGroup 0 = .ok (.aload_n 0, 1) := by decide +kernel
theorem dX19_isGroup_1 : decode cX19_isGroup 1 = .ok (.iload_n 1, 1) := by decide +kernel
theorem dX19_isGroup_2 : decode cX19_isGroup 2 = .ok (.i2l, 1) := by decide +kernel
theorem dX19_isGroup_3 : decode cX19_isGroup 3 = .ok (.lconst 0, 1) := by decide +kernel
theorem dX19_isGroup_4 : decode cX19_isGroup 4 = .ok (.aload_n 0, 1) := by decide +kernel
theorem dX19_isGroup_5 : decode cX19_isGroup 5 = .ok (.getfield 40, 3) := by decide +kernel
theorem dX19_isGroup_8 : decode cX19_isGroup 8 = .ok (.invokeinterface 55 1, 5) := by decide +kernel
theorem dX19_isGroup_13 : decode cX19_isGroup 13 = .ok (.iconst 1, 1) := by decide +kernel
theorem dX19_isGroup_14 : decode cX19_isGroup 14 = .ok (.isub, 1) := by decide +kernel
theorem dX19_isGroup_15 : decode cX19_isGroup 15 = .ok (.i2l, 1) := by decide +kernel
theorem dX19_isGroup_16 : decode cX19_isGroup 16 = .ok (.invokestatic 51, 3) := by decide +kernel
theorem dX19_isGroup_19 : decode cX19_isGroup 19 = .ok (.ifCond .eq 7, 3) := by decide +kernel
theorem dX19_isGroup_22 : decode cX19_isGroup 22 = .ok (.iconst 0, 1) := by decide +kernel
theorem dX19_isGroup_23 : decode cX19_isGroup 23 = .ok (.goto 4, 3) := by decide +kernel
theorem dX19_isGroup_26 : decode cX19_isGroup 26 = .ok (.iconst 1, 1) := by decide +kernel
theorem dX19_isGroup_27 : decode cX19_isGroup 27 = .ok (.putfield 46, 3) := by decide +kernel
theorem dX19_isGroup_30 : decode cX19_isGroup 30 = .ok (.aload_n 0, 1) := by decide +kernel
theorem dX19_isGroup_31 : decode cX19_isGroup 31 = .ok (.getfield 46, 3) := by decide +kernel
theorem dX19_isGroup_34 : decode cX19_isGroup 34 = .ok (.ifCond .ne 7, 3) := by decide +kernel
theorem dX19_isGroup_37 : decode cX19_isGroup 37 = .ok (.iconst 1, 1) := by decide +kernel
theorem dX19_isGroup_38 : decode cX19_isGroup 38 = .ok (.goto 4, 3) := by decide +kernel
theorem dX19_isGroup_41 : decode cX19_isGroup 41 = .ok (.iconst 0, 1) := by decide +kernel
theorem dX19_isGroup_42 : decode cX19_isGroup 42 = .ok (.ireturn, 1) := by decide +kernel
theorem dX19_lateness_0 : decode cX19_lateness 0 = .ok (.aload_n 0, 1) := by decide +kernel
theorem dX19_lateness_1 : decode cX19_lateness 1 = .ok (.iload_n 1, 1) := by decide +kernel
theorem dX19_lateness_2 : decode cX19_lateness 2 = .ok (.invokevirtual 230, 3) := by decide +kernel
theorem dX19_lateness_5 : decode cX19_lateness 5 = .ok (.ifCond .eq 29, 3) := by decide +kernel
theorem dX19_lateness_8 : decode cX19_lateness 8 = .ok (.aload_n 0, 1) := by decide +kernel
theorem dX19_lateness_9 : decode cX19_lateness 9 = .ok (.invokevirtual 182, 3) := by decide +kernel
theorem dX19_lateness_12 : decode cX19_lateness 12 = .ok (.aload_n 0, 1) := by decide +kernel
theorem dX19_lateness_13 : decode cX19_lateness 13 = .ok (.invokevirtual 182, 3) := by decide +kernel
theorem dX19_lateness_16 : decode cX19_lateness 16 = .ok (.getfield 233, 3) := by decide +kernel
theorem dX19_lateness_19 : decode cX19_lateness 19 = .ok (.iload_n 1, 1) := by decide +kernel
theorem dX19_lateness_20 : decode cX19_lateness 20 = .ok (.invokeinterface 90 2, 5) := by decide +kernel
theorem dX19_lateness_25 : decode cX19_lateness 25 = .ok (.checkcast 236, 3) := by decide +kernel
theorem dX19_lateness_28 : decode cX19_lateness 28 = .ok (.invokevirtual 238, 3) := by decide +kernel
theorem dX19_lateness_31 : decode cX19_lateness 31 = .ok (.goto 4, 3) := by decide +kernel
theorem dX19_lateness_34 : decode cX19_lateness 34 = .ok (.iconst (-1), 1) := by decide +kernel
theorem dX19_lateness_35 : decode cX19_lateness 35 = .ok (.ireturn, 1) := by decide +kernel
theorem dX19_lastOf_0 : decode cX19_lastOf 0 = .ok (.aload_n 0, 1) := by decide +kernel
theorem dX19_lastOf_1 : decode cX19_lastOf 1 = .ok (.iload_n 1, 1) := by decide +kernel
theorem dX19_lastOf_2 : decode cX19_lastOf 2 = .ok (.invokevirtual 230, 3) := by decide +kernel
theorem dX19_lastOf_5 : decode cX19_lastOf 5 = .ok (.ifCond .ne 5, 3) := by decide +kernel
theorem dX19_lastOf_8 : decode cX19_lastOf 8 = .ok (.iconst (-1), 1) := by decide +kernel
theorem dX19_lastOf_9 : decode cX19_lastOf 9 = .ok (.ireturn, 1) := by decide +kernel
theorem dX19_lastOf_10 : decode cX19_lastOf 10 = .ok (.aload_n 0, 1) := by decide +kernel
theorem dX19_lastOf_11 : decode cX19_lastOf 11 = .ok (.invokevirtual 182, 3) := by decide +kernel
theorem dX19_lastOf_14 : decode cX19_lastOf 14 = .ok (.getfield 233, 3) := by decide +kernel
theorem dX19_lastOf_17 : decode cX19_lastOf 17 = .ok (.iload_n 1, 1) := by decide +kernel
theorem dX19_lastOf_18 : decode cX19_lastOf 18 = .ok (.invokeinterface 90 2, 5) := by decide +kernel
theorem dX19_lastOf_23 : decode cX19_lastOf 23 = .ok (.checkcast 236, 3) := by decide +kernel
theorem dX19_lastOf_26 : decode cX19_lastOf 26 = .ok (.getfield 242, 3) := by decide +kernel
theorem dX19_lastOf_29 : decode cX19_lastOf 29 = .ok (.istore_n 2, 1) := by decide +kernel
theorem dX19_lastOf_30 : decode cX19_lastOf 30 = .ok (.aload_n 0, 1) := by decide +kernel
theorem dX19_lastOf_31 : decode cX19_lastOf 31 = .ok (.iload_n 2, 1) := by decide +kernel
theorem dX19_lastOf_32 : decode cX19_lastOf 32 = .ok (.iconst (-1), 1) := by decide +kernel
theorem dX19_lastOf_33 : decode cX19_lastOf 33 = .ok (.if_icmp .ne 7, 3) := by decide +kernel
theorem dX19_lastOf_36 : decode cX19_lastOf 36 = .ok (.iconst 2, 1) := by decide +kernel
theorem dX19_lastOf_37 : decode cX19_lastOf 37 = .ok (.goto 4, 3) := by decide +kernel
theorem dX19_lastOf_40 : decode cX19_lastOf 40 = .ok (.iconst 0, 1) := by decide +kernel
theorem dX19_lastOf_41 : decode cX19_lastOf 41 = .ok (.putfield 46, 3) := by decide +kernel
theorem dX19_lastOf_44 : decode cX19_lastOf 44 = .ok (.iload_n 2, 1) := by decide +kernel
theorem dX19_lastOf_45 : decode cX19_lastOf 45 = .ok (.ireturn, 1) := by decide +kernel
theorem dX19_isStranded_0 : decode cX19_isStranded 0 = .ok (.aload_n 0, 1) := by decide +kernel
theorem dX19_isStranded_1 : decode cX19_isStranded 1 = .ok (.iload_n 1, 1) := by decide +kernel
theorem dX19_isStranded_2 : decode cX19_isStranded 2 = .ok (.invokevirtual 230, 3) := by decide +kernel
theorem dX19_isStranded_5 : decode cX19_isStranded 5 = .ok (.ifCond .eq 29, 3) := by decide +kernel
theorem dX19_isStranded_8 : decode cX19_isStranded 8 = .ok (.aload_n 0, 1) := by decide +kernel
theorem dX19_isStranded_9 : decode cX19_isStranded 9 = .ok (.invokevirtual 182, 3) := by decide +kernel
theorem dX19_isStranded_12 : decode cX19_isStranded 12 = .ok (.getfield 233, 3) := by decide +kernel
theorem dX19_isStranded_15 : decode cX19_isStranded 15 = .ok (.iload_n 1, 1) := by decide +kernel
theorem dX19_isStranded_16 : decode cX19_isStranded 16 = .ok (.invokeinterface 90 2, 5) := by decide +kernel
theorem dX19_isStranded_21 : decode cX19_isStranded 21 = .ok (.checkcast 236, 3) := by decide +kernel
theorem dX19_isStranded_24 : decode cX19_isStranded 24 = .ok (.getfield 245, 3) := by decide +kernel
theorem dX19_isStranded_27 : decode cX19_isStranded 27 = .ok (.ifCond .eq 7, 3) := by decide +kernel
theorem dX19_isStranded_30 : decode cX19_isStranded 30 = .ok (.iconst 1, 1) := by decide +kernel
theorem dX19_isStranded_31 : decode cX19_isStranded 31 = .ok (.goto 4, 3) := by decide +kernel
theorem dX19_isStranded_34 : decode cX19_isStranded 34 = .ok (.iconst 0, 1) := by decide +kernel
theorem dX19_isStranded_35 : decode cX19_isStranded 35 = .ok (.ireturn, 1) := by decide +kernel
theorem dX19_lateBags_0 : decode cX19_lateBags 0 = .ok (.aload_n 0, 1) := by decide +kernel
theorem dX19_lateBags_1 : decode cX19_lateBags 1 = .ok (.iconst 0, 1) := by decide +kernel
theorem dX19_lateBags_2 : decode cX19_lateBags 2 = .ok (.putfield 46, 3) := by decide +kernel
theorem dX19_lateBags_5 : decode cX19_lateBags 5 = .ok (.aload_n 0, 1) := by decide +kernel
theorem dX19_lateBags_6 : decode cX19_lateBags 6 = .ok (.invokevirtual 182, 3) := by decide +kernel
theorem dX19_lateBags_9 : decode cX19_lateBags 9 = .ok (.getfield 248, 3) := by decide +kernel
theorem dX19_lateBags_12 : decode cX19_lateBags 12 = .ok (.ireturn, 1) := by decide +kernel
theorem dX19_missed_0 : decode cX19_missed 0 = .ok (.aload_n 0, 1) := by decide +kernel
theorem dX19_missed_1 : decode cX19_missed 1 = .ok (.iconst 0, 1) := by decide +kernel
theorem dX19_missed_2 : decode cX19_missed 2 = .ok (.putfield 46, 3) := by decide +kernel
theorem dX19_missed_5 : decode cX19_missed 5 = .ok (.aload_n 0, 1) := by decide +kernel
theorem dX19_missed_6 : decode cX19_missed 6 = .ok (.invokevirtual 182, 3) := by decide +kernel
theorem dX19_missed_9 : decode cX19_missed 9 = .ok (.getfield 251, 3) := by decide +kernel
theorem dX19_missed_12 : decode cX19_missed 12 = .ok (.ireturn, 1) := by decide +kernel
theorem dX19_harm_0 : decode cX19_harm 0 = .ok (.aload_n 0, 1) := by decide +kernel
theorem dX19_harm_1 : decode cX19_harm 1 = .ok (.iconst 0, 1) := by decide +kernel
theorem dX19_harm_2 : decode cX19_harm 2 = .ok (.putfield 46, 3) := by decide +kernel
theorem dX19_harm_5 : decode cX19_harm 5 = .ok (.aload_n 0, 1) := by decide +kernel
theorem dX19_harm_6 : decode cX19_harm 6 = .ok (.invokevirtual 182, 3) := by decide +kernel
theorem dX19_harm_9 : decode cX19_harm 9 = .ok (.invokevirtual 254, 3) := by decide +kernel
theorem dX19_harm_12 : decode cX19_harm 12 = .ok (.ireturn, 1) := by decide +kernel
theorem dX19_paid_0 : decode cX19_paid 0 = .ok (.aload_n 0, 1) := by decide +kernel
theorem dX19_paid_1 : decode cX19_paid 1 = .ok (.iconst 0, 1) := by decide +kernel
theorem dX19_paid_2 : decode cX19_paid 2 = .ok (.putfield 46, 3) := by decide +kernel
theorem dX19_paid_5 : decode cX19_paid 5 = .ok (.aload_n 0, 1) := by decide +kernel
theorem dX19_paid_6 : decode cX19_paid 6 = .ok (.invokevirtual 182, 3) := by decide +kernel
theorem dX19_paid_9 : decode cX19_paid 9 = .ok (.invokevirtual 257, 3) := by decide +kernel
theorem dX19_paid_12 : decode cX19_paid 12 = .ok (.ireturn, 1) := by decide +kernel
theorem dX19_logLength_0 : decode cX19_logLength 0 = .ok (.aload_n 0, 1) := by decide +kernel
theorem dX19_logLength_1 : decode cX19_logLength 1 = .ok (.iconst 0, 1) := by decide +kernel
theorem dX19_logLength_2 : decode cX19_logLength 2 = .ok (.putfield 46, 3) := by decide +kernel
theorem dX19_logLength_5 : decode cX19_logLength 5 = .ok (.aload_n 0, 1) := by decide +kernel
theorem dX19_logLength_6 : decode cX19_logLength 6 = .ok (.invokevirtual 182, 3) := by decide +kernel
theorem dX19_logLength_9 : decode cX19_logLength 9 = .ok (.getfield 260, 3) := by decide +kernel
theorem dX19_logLength_12 : decode cX19_logLength 12 = .ok (.invokevirtual 264, 3) := by decide +kernel
theorem dX19_logLength_15 : decode cX19_logLength 15 = .ok (.ireturn, 1) := by decide +kernel
theorem dX19_logAt_0 : decode cX19_logAt 0 = .ok (.aload_n 0, 1) := by decide +kernel
theorem dX19_logAt_1 : decode cX19_logAt 1 = .ok (.iload_n 1, 1) := by decide +kernel
theorem dX19_logAt_2 : decode cX19_logAt 2 = .ok (.i2l, 1) := by decide +kernel
theorem dX19_logAt_3 : decode cX19_logAt 3 = .ok (.lconst 0, 1) := by decide +kernel
theorem dX19_logAt_4 : decode cX19_logAt 4 = .ok (.aload_n 0, 1) := by decide +kernel
theorem dX19_logAt_5 : decode cX19_logAt 5 = .ok (.invokevirtual 182, 3) := by decide +kernel
theorem dX19_logAt_8 : decode cX19_logAt 8 = .ok (.getfield 260, 3) := by decide +kernel
theorem dX19_logAt_11 : decode cX19_logAt 11 = .ok (.invokevirtual 264, 3) := by decide +kernel
theorem dX19_logAt_14 : decode cX19_logAt 14 = .ok (.iconst 1, 1) := by decide +kernel
theorem dX19_logAt_15 : decode cX19_logAt 15 = .ok (.isub, 1) := by decide +kernel
theorem dX19_logAt_16 : decode cX19_logAt 16 = .ok (.i2l, 1) := by decide +kernel
theorem dX19_logAt_17 : decode cX19_logAt 17 = .ok (.invokestatic 51, 3) := by decide +kernel
theorem dX19_logAt_20 : decode cX19_logAt 20 = .ok (.ifCond .eq 7, 3) := by decide +kernel
theorem dX19_logAt_23 : decode cX19_logAt 23 = .ok (.iconst 0, 1) := by decide +kernel
theorem dX19_logAt_24 : decode cX19_logAt 24 = .ok (.goto 4, 3) := by decide +kernel
theorem dX19_logAt_27 : decode cX19_logAt 27 = .ok (.iconst 1, 1) := by decide +kernel
theorem dX19_logAt_28 : decode cX19_logAt 28 = .ok (.putfield 46, 3) := by decide +kernel
theorem dX19_logAt_31 : decode cX19_logAt 31 = .ok (.aload_n 0, 1) := by decide +kernel
theorem dX19_logAt_32 : decode cX19_logAt 32 = .ok (.getfield 46, 3) := by decide +kernel
theorem dX19_logAt_35 : decode cX19_logAt 35 = .ok (.ifCond .ne 17, 3) := by decide +kernel
theorem dX19_logAt_38 : decode cX19_logAt 38 = .ok (.aload_n 0, 1) := by decide +kernel
theorem dX19_logAt_39 : decode cX19_logAt 39 = .ok (.invokevirtual 182, 3) := by decide +kernel
theorem dX19_logAt_42 : decode cX19_logAt 42 = .ok (.getfield 260, 3) := by decide +kernel
theorem dX19_logAt_45 : decode cX19_logAt 45 = .ok (.iload_n 1, 1) := by decide +kernel
theorem dX19_logAt_46 : decode cX19_logAt 46 = .ok (.invokevirtual 269, 3) := by decide +kernel
theorem dX19_logAt_49 : decode cX19_logAt 49 = .ok (.goto 5, 3) := by decide +kernel
theorem dX19_logAt_52 : decode cX19_logAt 52 = .ok (.bipush 32, 2) := by decide +kernel
theorem dX19_logAt_54 : decode cX19_logAt 54 = .ok (.ireturn, 1) := by decide +kernel
theorem dX19_isSet_0 : decode cX19_isSet 0 = .ok (.aload_n 0, 1) := by decide +kernel
theorem dX19_isSet_1 : decode cX19_isSet 1 = .ok (.iload_n 1, 1) := by decide +kernel
theorem dX19_isSet_2 : decode cX19_isSet 2 = .ok (.i2l, 1) := by decide +kernel
theorem dX19_isSet_3 : decode cX19_isSet 3 = .ok (.lconst 0, 1) := by decide +kernel
theorem dX19_isSet_4 : decode cX19_isSet 4 = .ok (.iconst 1, 1) := by decide +kernel
theorem dX19_isSet_5 : decode cX19_isSet 5 = .ok (.aload_n 0, 1) := by decide +kernel
theorem dX19_isSet_6 : decode cX19_isSet 6 = .ok (.getfield 37, 3) := by decide +kernel
theorem dX19_isSet_9 : decode cX19_isSet 9 = .ok (.invokeinterface 55 1, 5) := by decide +kernel
theorem dX19_isSet_14 : decode cX19_isSet 14 = .ok (.ishl, 1) := by decide +kernel
theorem dX19_isSet_15 : decode cX19_isSet 15 = .ok (.iconst 1, 1) := by decide +kernel
theorem dX19_isSet_16 : decode cX19_isSet 16 = .ok (.isub, 1) := by decide +kernel
theorem dX19_isSet_17 : decode cX19_isSet 17 = .ok (.i2l, 1) := by decide +kernel
theorem dX19_isSet_18 : decode cX19_isSet 18 = .ok (.invokestatic 51, 3) := by decide +kernel
theorem dX19_isSet_21 : decode cX19_isSet 21 = .ok (.ifCond .ne 7, 3) := by decide +kernel
theorem dX19_isSet_24 : decode cX19_isSet 24 = .ok (.iconst 1, 1) := by decide +kernel
theorem dX19_isSet_25 : decode cX19_isSet 25 = .ok (.goto 20, 3) := by decide +kernel
theorem dX19_isSet_28 : decode cX19_isSet 28 = .ok (.iload_n 1, 1) := by decide +kernel
theorem dX19_isSet_29 : decode cX19_isSet 29 = .ok (.ifCond .eq 11, 3) := by decide +kernel
theorem dX19_isSet_32 : decode cX19_isSet 32 = .ok (.iload_n 1, 1) := by decide +kernel
theorem dX19_isSet_33 : decode cX19_isSet 33 = .ok (.invokestatic 272, 3) := by decide +kernel
theorem dX19_isSet_36 : decode cX19_isSet 36 = .ok (.iconst 3, 1) := by decide +kernel
theorem dX19_isSet_37 : decode cX19_isSet 37 = .ok (.if_icmp .le 7, 3) := by decide +kernel
theorem dX19_isSet_40 : decode cX19_isSet 40 = .ok (.iconst 2, 1) := by decide +kernel
theorem dX19_isSet_41 : decode cX19_isSet 41 = .ok (.goto 4, 3) := by decide +kernel
theorem dX19_isSet_44 : decode cX19_isSet 44 = .ok (.iconst 0, 1) := by decide +kernel
theorem dX19_isSet_45 : decode cX19_isSet 45 = .ok (.putfield 46, 3) := by decide +kernel
theorem dX19_isSet_48 : decode cX19_isSet 48 = .ok (.aload_n 0, 1) := by decide +kernel
theorem dX19_isSet_49 : decode cX19_isSet 49 = .ok (.getfield 46, 3) := by decide +kernel
theorem dX19_isSet_52 : decode cX19_isSet 52 = .ok (.ifCond .ne 7, 3) := by decide +kernel
theorem dX19_isSet_55 : decode cX19_isSet 55 = .ok (.iconst 1, 1) := by decide +kernel
theorem dX19_isSet_56 : decode cX19_isSet 56 = .ok (.goto 4, 3) := by decide +kernel
theorem dX19_isSet_59 : decode cX19_isSet 59 = .ok (.iconst 0, 1) := by decide +kernel
theorem dX19_isSet_60 : decode cX19_isSet 60 = .ok (.ireturn, 1) := by decide +kernel
theorem dX19_recover_0 : decode cX19_recover 0 = .ok (.aload_n 0, 1) := by decide +kernel
theorem dX19_recover_1 : decode cX19_recover 1 = .ok (.iload_n 1, 1) := by decide +kernel
theorem dX19_recover_2 : decode cX19_recover 2 = .ok (.invokevirtual 293, 3) := by decide +kernel
theorem dX19_recover_5 : decode cX19_recover 5 = .ok (.ifCond .ne 5, 3) := by decide +kernel
theorem dX19_recover_8 : decode cX19_recover 8 = .ok (.iconst (-1), 1) := by decide +kernel
theorem dX19_recover_9 : decode cX19_recover 9 = .ok (.ireturn, 1) := by decide +kernel
theorem dX19_recover_10 : decode cX19_recover 10 = .ok (.aload_n 0, 1) := by decide +kernel
theorem dX19_recover_11 : decode cX19_recover 11 = .ok (.iload_n 1, 1) := by decide +kernel
theorem dX19_recover_12 : decode cX19_recover 12 = .ok (.invokevirtual 296, 3) := by decide +kernel
theorem dX19_recover_15 : decode cX19_recover 15 = .ok (.astore_n 2, 1) := by decide +kernel
theorem dX19_recover_16 : decode cX19_recover 16 = .ok (.aload_n 0, 1) := by decide +kernel
theorem dX19_recover_17 : decode cX19_recover 17 = .ok (.aload_n 2, 1) := by decide +kernel
theorem dX19_recover_18 : decode cX19_recover 18 = .ok (.aload_n 0, 1) := by decide +kernel
theorem dX19_recover_19 : decode cX19_recover 19 = .ok (.aload_n 2, 1) := by decide +kernel
theorem dX19_recover_20 : decode cX19_recover 20 = .ok (.invokevirtual 300, 3) := by decide +kernel
theorem dX19_recover_23 : decode cX19_recover 23 = .ok (.invokevirtual 285, 3) := by decide +kernel
theorem dX19_recover_26 : decode cX19_recover 26 = .ok (.pop, 1) := by decide +kernel
theorem dX19_recover_27 : decode cX19_recover 27 = .ok (.aload_n 0, 1) := by decide +kernel
theorem dX19_recover_28 : decode cX19_recover 28 = .ok (.invokevirtual 182, 3) := by decide +kernel
theorem dX19_recover_31 : decode cX19_recover 31 = .ok (.invokevirtual 254, 3) := by decide +kernel
theorem dX19_recover_34 : decode cX19_recover 34 = .ok (.ireturn, 1) := by decide +kernel
theorem dX19_isBest_0 : decode cX19_isBest 0 = .ok (.aload_n 0, 1) := by decide +kernel
theorem dX19_isBest_1 : decode cX19_isBest 1 = .ok (.iload_n 1, 1) := by decide +kernel
theorem dX19_isBest_2 : decode cX19_isBest 2 = .ok (.invokevirtual 293, 3) := by decide +kernel
theorem dX19_isBest_5 : decode cX19_isBest 5 = .ok (.ifCond .eq 19, 3) := by decide +kernel
theorem dX19_isBest_8 : decode cX19_isBest 8 = .ok (.aload_n 0, 1) := by decide +kernel
theorem dX19_isBest_9 : decode cX19_isBest 9 = .ok (.aload_n 0, 1) := by decide +kernel
theorem dX19_isBest_10 : decode cX19_isBest 10 = .ok (.iload_n 1, 1) := by decide +kernel
theorem dX19_isBest_11 : decode cX19_isBest 11 = .ok (.invokevirtual 296, 3) := by decide +kernel
theorem dX19_isBest_14 : decode cX19_isBest 14 = .ok (.invokevirtual 300, 3) := by decide +kernel
theorem dX19_isBest_17 : decode cX19_isBest 17 = .ok (.ifCond .ne 7, 3) := by decide +kernel
theorem dX19_isBest_20 : decode cX19_isBest 20 = .ok (.iconst 1, 1) := by decide +kernel
theorem dX19_isBest_21 : decode cX19_isBest 21 = .ok (.goto 4, 3) := by decide +kernel
theorem dX19_isBest_24 : decode cX19_isBest 24 = .ok (.iconst 0, 1) := by decide +kernel
theorem dX19_isBest_25 : decode cX19_isBest 25 = .ok (.ireturn, 1) := by decide +kernel
theorem dX19_onTimeShare_0 : decode cX19_onTimeShare 0 = .ok (.aload_n 0, 1) := by decide +kernel
theorem dX19_onTimeShare_1 : decode cX19_onTimeShare 1 = .ok (.aload_n 0, 1) := by decide +kernel
theorem dX19_onTimeShare_2 : decode cX19_onTimeShare 2 = .ok (.getfield 37, 3) := by decide +kernel
theorem dX19_onTimeShare_5 : decode cX19_onTimeShare 5 = .ok (.invokeinterface 304 1, 5) := by decide +kernel
theorem dX19_onTimeShare_10 : decode cX19_onTimeShare 10 = .ok (.ifCond .eq 7, 3) := by decide +kernel
theorem dX19_onTimeShare_13 : decode cX19_onTimeShare 13 = .ok (.iconst 1, 1) := by decide +kernel
theorem dX19_onTimeShare_14 : decode cX19_onTimeShare 14 = .ok (.goto 4, 3) := by decide +kernel
theorem dX19_onTimeShare_17 : decode cX19_onTimeShare 17 = .ok (.iconst 0, 1) := by decide +kernel
theorem dX19_onTimeShare_18 : decode cX19_onTimeShare 18 = .ok (.putfield 46, 3) := by decide +kernel
theorem dX19_onTimeShare_21 : decode cX19_onTimeShare 21 = .ok (.aload_n 0, 1) := by decide +kernel
theorem dX19_onTimeShare_22 : decode cX19_onTimeShare 22 = .ok (.getfield 46, 3) := by decide +kernel
theorem dX19_onTimeShare_25 : decode cX19_onTimeShare 25 = .ok (.ifCond .le 5, 3) := by decide +kernel
theorem dX19_onTimeShare_28 : decode cX19_onTimeShare 28 = .ok (.fconst 0, 1) := by decide +kernel
theorem dX19_onTimeShare_29 : decode cX19_onTimeShare 29 = .ok (.freturn, 1) := by decide +kernel
theorem dX19_onTimeShare_30 : decode cX19_onTimeShare 30 = .ok (.iconst 0, 1) := by decide +kernel
theorem dX19_onTimeShare_31 : decode cX19_onTimeShare 31 = .ok (.istore_n 1, 1) := by decide +kernel
theorem dX19_onTimeShare_32 : decode cX19_onTimeShare 32 = .ok (.aload_n 0, 1) := by decide +kernel
theorem dX19_onTimeShare_33 : decode cX19_onTimeShare 33 = .ok (.invokevirtual 182, 3) := by decide +kernel
theorem dX19_onTimeShare_36 : decode cX19_onTimeShare 36 = .ok (.getfield 185, 3) := by decide +kernel
theorem dX19_onTimeShare_39 : decode cX19_onTimeShare 39 = .ok (.invokeinterface 145 1, 5) := by decide +kernel
theorem dX19_onTimeShare_44 : decode cX19_onTimeShare 44 = .ok (.astore_n 2, 1) := by decide +kernel
theorem dX19_onTimeShare_45 : decode cX19_onTimeShare 45 = .ok (.aload_n 2, 1) := by decide +kernel
theorem dX19_onTimeShare_46 : decode cX19_onTimeShare 46 = .ok (.invokeinterface 149 1, 5) := by decide +kernel
theorem dX19_onTimeShare_51 : decode cX19_onTimeShare 51 = .ok (.ifCond .eq 51, 3) := by decide +kernel
theorem dX19_onTimeShare_54 : decode cX19_onTimeShare 54 = .ok (.aload_n 2, 1) := by decide +kernel
theorem dX19_onTimeShare_55 : decode cX19_onTimeShare 55 = .ok (.invokeinterface 155 1, 5) := by decide +kernel
theorem dX19_onTimeShare_60 : decode cX19_onTimeShare 60 = .ok (.checkcast 188, 3) := by decide +kernel
theorem dX19_onTimeShare_63 : decode cX19_onTimeShare 63 = .ok (.astore_n 3, 1) := by decide +kernel
theorem dX19_onTimeShare_64 : decode cX19_onTimeShare 64 = .ok (.iload_n 1, 1) := by decide +kernel
theorem dX19_onTimeShare_65 : decode cX19_onTimeShare 65 = .ok (.aload_n 3, 1) := by decide +kernel
theorem dX19_onTimeShare_66 : decode cX19_onTimeShare 66 = .ok (.getfield 208, 3) := by decide +kernel
theorem dX19_onTimeShare_69 : decode cX19_onTimeShare 69 = .ok (.iconst (-1), 1) := by decide +kernel
theorem dX19_onTimeShare_70 : decode cX19_onTimeShare 70 = .ok (.if_icmp .eq 26, 3) := by decide +kernel
theorem dX19_onTimeShare_73 : decode cX19_onTimeShare 73 = .ok (.aload_n 0, 1) := by decide +kernel
theorem dX19_onTimeShare_74 : decode cX19_onTimeShare 74 = .ok (.invokevirtual 182, 3) := by decide +kernel
theorem dX19_onTimeShare_77 : decode cX19_onTimeShare 77 = .ok (.aload_n 3, 1) := by decide +kernel
theorem dX19_onTimeShare_78 : decode cX19_onTimeShare 78 = .ok (.getfield 307, 3) := by decide +kernel
theorem dX19_onTimeShare_81 : decode cX19_onTimeShare 81 = .ok (.getfield 275, 3) := by decide +kernel
theorem dX19_onTimeShare_84 : decode cX19_onTimeShare 84 = .ok (.invokevirtual 223, 3) := by decide +kernel
theorem dX19_onTimeShare_87 : decode cX19_onTimeShare 87 = .ok (.bipush 45, 2) := by decide +kernel
theorem dX19_onTimeShare_89 : decode cX19_onTimeShare 89 = .ok (.if_icmp .ne 7, 3) := by decide +kernel
theorem dX19_onTimeShare_92 : decode cX19_onTimeShare 92 = .ok (.iconst 1, 1) := by decide +kernel
theorem dX19_onTimeShare_93 : decode cX19_onTimeShare 93 = .ok (.goto 4, 3) := by decide +kernel
theorem dX19_onTimeShare_96 : decode cX19_onTimeShare 96 = .ok (.iconst 0, 1) := by decide +kernel
theorem dX19_onTimeShare_97 : decode cX19_onTimeShare 97 = .ok (.iadd, 1) := by decide +kernel
theorem dX19_onTimeShare_98 : decode cX19_onTimeShare 98 = .ok (.istore_n 1, 1) := by decide +kernel
theorem dX19_onTimeShare_99 : decode cX19_onTimeShare 99 = .ok (.goto (-54), 3) := by decide +kernel
theorem dX19_onTimeShare_102 : decode cX19_onTimeShare 102 = .ok (.iload_n 1, 1) := by decide +kernel
theorem dX19_onTimeShare_103 : decode cX19_onTimeShare 103 = .ok (.i2f, 1) := by decide +kernel
theorem dX19_onTimeShare_104 : decode cX19_onTimeShare 104 = .ok (.aload_n 0, 1) := by decide +kernel
theorem dX19_onTimeShare_105 : decode cX19_onTimeShare 105 = .ok (.getfield 37, 3) := by decide +kernel
theorem dX19_onTimeShare_108 : decode cX19_onTimeShare 108 = .ok (.invokeinterface 55 1, 5) := by decide +kernel
theorem dX19_onTimeShare_113 : decode cX19_onTimeShare 113 = .ok (.i2f, 1) := by decide +kernel
theorem dX19_onTimeShare_114 : decode cX19_onTimeShare 114 = .ok (.fdiv, 1) := by decide +kernel
theorem dX19_onTimeShare_115 : decode cX19_onTimeShare 115 = .ok (.freturn, 1) := by decide +kernel
theorem dX19_meanLateness_0 : decode cX19_meanLateness 0 = .ok (.aload_n 0, 1) := by decide +kernel
theorem dX19_meanLateness_1 : decode cX19_meanLateness 1 = .ok (.aload_n 0, 1) := by decide +kernel
theorem dX19_meanLateness_2 : decode cX19_meanLateness 2 = .ok (.getfield 40, 3) := by decide +kernel
theorem dX19_meanLateness_5 : decode cX19_meanLateness 5 = .ok (.invokeinterface 304 1, 5) := by decide +kernel
theorem dX19_meanLateness_10 : decode cX19_meanLateness 10 = .ok (.ifCond .eq 7, 3) := by decide +kernel
theorem dX19_meanLateness_13 : decode cX19_meanLateness 13 = .ok (.iconst 1, 1) := by decide +kernel
theorem dX19_meanLateness_14 : decode cX19_meanLateness 14 = .ok (.goto 4, 3) := by decide +kernel
theorem dX19_meanLateness_17 : decode cX19_meanLateness 17 = .ok (.iconst 0, 1) := by decide +kernel
theorem dX19_meanLateness_18 : decode cX19_meanLateness 18 = .ok (.putfield 46, 3) := by decide +kernel
theorem dX19_meanLateness_21 : decode cX19_meanLateness 21 = .ok (.lconst 0, 1) := by decide +kernel
theorem dX19_meanLateness_22 : decode cX19_meanLateness 22 = .ok (.lstore_n 1, 1) := by decide +kernel
theorem dX19_meanLateness_23 : decode cX19_meanLateness 23 = .ok (.iconst 0, 1) := by decide +kernel
theorem dX19_meanLateness_24 : decode cX19_meanLateness 24 = .ok (.istore_n 3, 1) := by decide +kernel
theorem dX19_meanLateness_25 : decode cX19_meanLateness 25 = .ok (.aload_n 0, 1) := by decide +kernel
theorem dX19_meanLateness_26 : decode cX19_meanLateness 26 = .ok (.invokevirtual 182, 3) := by decide +kernel
theorem dX19_meanLateness_29 : decode cX19_meanLateness 29 = .ok (.getfield 233, 3) := by decide +kernel
theorem dX19_meanLateness_32 : decode cX19_meanLateness 32 = .ok (.invokeinterface 145 1, 5) := by decide +kernel
theorem dX19_meanLateness_37 : decode cX19_meanLateness 37 = .ok (.astore 4, 2) := by decide +kernel
theorem dX19_meanLateness_39 : decode cX19_meanLateness 39 = .ok (.aload 4, 2) := by decide +kernel
theorem dX19_meanLateness_41 : decode cX19_meanLateness 41 = .ok (.invokeinterface 149 1, 5) := by decide +kernel
theorem dX19_meanLateness_46 : decode cX19_meanLateness 46 = .ok (.ifCond .eq 52, 3) := by decide +kernel
theorem dX19_meanLateness_49 : decode cX19_meanLateness 49 = .ok (.aload 4, 2) := by decide +kernel
theorem dX19_meanLateness_51 : decode cX19_meanLateness 51 = .ok (.invokeinterface 155 1, 5) := by decide +kernel
theorem dX19_meanLateness_56 : decode cX19_meanLateness 56 = .ok (.checkcast 236, 3) := by decide +kernel
theorem dX19_meanLateness_59 : decode cX19_meanLateness 59 = .ok (.astore 5, 2) := by decide +kernel
theorem dX19_meanLateness_61 : decode cX19_meanLateness 61 = .ok (.lload_n 1, 1) := by decide +kernel
theorem dX19_meanLateness_62 : decode cX19_meanLateness 62 = .ok (.aload 5, 2) := by decide +kernel
theorem dX19_meanLateness_64 : decode cX19_meanLateness 64 = .ok (.getfield 311, 3) := by decide +kernel
theorem dX19_meanLateness_67 : decode cX19_meanLateness 67 = .ok (.getfield 315, 3) := by decide +kernel
theorem dX19_meanLateness_70 : decode cX19_meanLateness 70 = .ok (.i2l, 1) := by decide +kernel
theorem dX19_meanLateness_71 : decode cX19_meanLateness 71 = .ok (.aload_n 0, 1) := by decide +kernel
theorem dX19_meanLateness_72 : decode cX19_meanLateness 72 = .ok (.invokevirtual 182, 3) := by decide +kernel
theorem dX19_meanLateness_75 : decode cX19_meanLateness 75 = .ok (.aload 5, 2) := by decide +kernel
theorem dX19_meanLateness_77 : decode cX19_meanLateness 77 = .ok (.invokevirtual 238, 3) := by decide +kernel
theorem dX19_meanLateness_80 : decode cX19_meanLateness 80 = .ok (.i2l, 1) := by decide +kernel
theorem dX19_meanLateness_81 : decode cX19_meanLateness 81 = .ok (.lmul, 1) := by decide +kernel
theorem dX19_meanLateness_82 : decode cX19_meanLateness 82 = .ok (.ladd, 1) := by decide +kernel
theorem dX19_meanLateness_83 : decode cX19_meanLateness 83 = .ok (.lstore_n 1, 1) := by decide +kernel
theorem dX19_meanLateness_84 : decode cX19_meanLateness 84 = .ok (.iload_n 3, 1) := by decide +kernel
theorem dX19_meanLateness_85 : decode cX19_meanLateness 85 = .ok (.aload 5, 2) := by decide +kernel
theorem dX19_meanLateness_87 : decode cX19_meanLateness 87 = .ok (.getfield 311, 3) := by decide +kernel
theorem dX19_meanLateness_90 : decode cX19_meanLateness 90 = .ok (.getfield 315, 3) := by decide +kernel
theorem dX19_meanLateness_93 : decode cX19_meanLateness 93 = .ok (.iadd, 1) := by decide +kernel
theorem dX19_meanLateness_94 : decode cX19_meanLateness 94 = .ok (.istore_n 3, 1) := by decide +kernel
theorem dX19_meanLateness_95 : decode cX19_meanLateness 95 = .ok (.goto (-56), 3) := by decide +kernel
theorem dX19_meanLateness_98 : decode cX19_meanLateness 98 = .ok (.aload_n 0, 1) := by decide +kernel
theorem dX19_meanLateness_99 : decode cX19_meanLateness 99 = .ok (.getfield 46, 3) := by decide +kernel
theorem dX19_meanLateness_102 : decode cX19_meanLateness 102 = .ok (.ifCond .ne 11, 3) := by decide +kernel
theorem dX19_meanLateness_105 : decode cX19_meanLateness 105 = .ok (.lload_n 1, 1) := by decide +kernel
theorem dX19_meanLateness_106 : decode cX19_meanLateness 106 = .ok (.l2d, 1) := by decide +kernel
theorem dX19_meanLateness_107 : decode cX19_meanLateness 107 = .ok (.iload_n 3, 1) := by decide +kernel
theorem dX19_meanLateness_108 : decode cX19_meanLateness 108 = .ok (.i2d, 1) := by decide +kernel
theorem dX19_meanLateness_109 : decode cX19_meanLateness 109 = .ok (.ddiv, 1) := by decide +kernel
theorem dX19_meanLateness_110 : decode cX19_meanLateness 110 = .ok (.goto 4, 3) := by decide +kernel
theorem dX19_meanLateness_113 : decode cX19_meanLateness 113 = .ok (.dconst 0, 1) := by decide +kernel
theorem dX19_meanLateness_114 : decode cX19_meanLateness 114 = .ok (.dreturn, 1) := by decide +kernel
theorem dX19_isSound_0 : decode cX19_isSound 0 = .ok (.aload_n 0, 1) := by decide +kernel
theorem dX19_isSound_1 : decode cX19_isSound 1 = .ok (.iconst 0, 1) := by decide +kernel
theorem dX19_isSound_2 : decode cX19_isSound 2 = .ok (.putfield 46, 3) := by decide +kernel
theorem dX19_isSound_5 : decode cX19_isSound 5 = .ok (.iconst 1, 1) := by decide +kernel
theorem dX19_isSound_6 : decode cX19_isSound 6 = .ok (.ireturn, 1) := by decide +kernel
theorem dX15_init_0 : decode cX15_init 0 = .ok (.aload_n 0, 1) := by decide +kernel
theorem dX15_init_1 : decode cX15_init 1 = .ok (.aload_n 1, 1) := by decide +kernel
theorem dX15_init_2 : decode cX15_init 2 = .ok (.putfield 3, 3) := by decide +kernel
theorem dX15_init_5 : decode cX15_init 5 = .ok (.aload_n 0, 1) := by decide +kernel
theorem dX15_init_6 : decode cX15_init 6 = .ok (.invokespecial 9, 3) := by decide +kernel
theorem dX15_init_9 : decode cX15_init 9 = .ok (.aload_n 0, 1) := by decide +kernel
theorem dX15_init_10 : decode cX15_init 10 = .ok (.new 15, 3) := by decide +kernel
theorem dX15_init_13 : decode cX15_init 13 = .ok (.dup, 1) := by decide +kernel
theorem dX15_init_14 : decode cX15_init 14 = .ok (.invokespecial 17, 3) := by decide +kernel
theorem dX15_init_17 : decode cX15_init 17 = .ok (.putfield 18, 3) := by decide +kernel
theorem dX15_init_20 : decode cX15_init 20 = .ok (.aload_n 0, 1) := by decide +kernel
theorem dX15_init_21 : decode cX15_init 21 = .ok (.new 15, 3) := by decide +kernel
theorem dX15_init_24 : decode cX15_init 24 = .ok (.dup, 1) := by decide +kernel
theorem dX15_init_25 : decode cX15_init 25 = .ok (.invokespecial 17, 3) := by decide +kernel
theorem dX15_init_28 : decode cX15_init 28 = .ok (.putfield 22, 3) := by decide +kernel
theorem dX15_init_31 : decode cX15_init 31 = .ok (.aload_n 0, 1) := by decide +kernel
theorem dX15_init_32 : decode cX15_init 32 = .ok (.iconst 5, 1) := by decide +kernel
theorem dX15_init_33 : decode cX15_init 33 = .ok (.newarray .int, 2) := by decide +kernel
theorem dX15_init_35 : decode cX15_init 35 = .ok (.putfield 25, 3) := by decide +kernel
theorem dX15_init_38 : decode cX15_init 38 = .ok (.aload_n 0, 1) := by decide +kernel
theorem dX15_init_39 : decode cX15_init 39 = .ok (.iconst 5, 1) := by decide +kernel
theorem dX15_init_40 : decode cX15_init 40 = .ok (.newarray .int, 2) := by decide +kernel
theorem dX15_init_42 : decode cX15_init 42 = .ok (.putfield 29, 3) := by decide +kernel
theorem dX15_init_45 : decode cX15_init 45 = .ok (.aload_n 0, 1) := by decide +kernel
theorem dX15_init_46 : decode cX15_init 46 = .ok (.iconst 5, 1) := by decide +kernel
theorem dX15_init_47 : decode cX15_init 47 = .ok (.newarray .int, 2) := by decide +kernel
theorem dX15_init_49 : decode cX15_init 49 = .ok (.putfield 32, 3) := by decide +kernel
theorem dX15_init_52 : decode cX15_init 52 = .ok (.aload_n 0, 1) := by decide +kernel
theorem dX15_init_53 : decode cX15_init 53 = .ok (.iconst 5, 1) := by decide +kernel
theorem dX15_init_54 : decode cX15_init 54 = .ok (.newarray .int, 2) := by decide +kernel
theorem dX15_init_56 : decode cX15_init 56 = .ok (.putfield 35, 3) := by decide +kernel
theorem dX15_init_59 : decode cX15_init 59 = .ok (.aload_n 0, 1) := by decide +kernel
theorem dX15_init_60 : decode cX15_init 60 = .ok (.iconst 5, 1) := by decide +kernel
theorem dX15_init_61 : decode cX15_init 61 = .ok (.newarray .int, 2) := by decide +kernel
theorem dX15_init_63 : decode cX15_init 63 = .ok (.putfield 38, 3) := by decide +kernel
theorem dX15_init_66 : decode cX15_init 66 = .ok (.aload_n 0, 1) := by decide +kernel
theorem dX15_init_67 : decode cX15_init 67 = .ok (.iconst 5, 1) := by decide +kernel
theorem dX15_init_68 : decode cX15_init 68 = .ok (.newarray .int, 2) := by decide +kernel
theorem dX15_init_70 : decode cX15_init 70 = .ok (.putfield 41, 3) := by decide +kernel
theorem dX15_init_73 : decode cX15_init 73 = .ok (.aload_n 0, 1) := by decide +kernel
theorem dX15_init_74 : decode cX15_init 74 = .ok (.iconst 5, 1) := by decide +kernel
theorem dX15_init_75 : decode cX15_init 75 = .ok (.newarray .int, 2) := by decide +kernel
theorem dX15_init_77 : decode cX15_init 77 = .ok (.putfield 44, 3) := by decide +kernel
theorem dX15_init_80 : decode cX15_init 80 = .ok (.aload_n 0, 1) := by decide +kernel
theorem dX15_init_81 : decode cX15_init 81 = .ok (.iconst 5, 1) := by decide +kernel
theorem dX15_init_82 : decode cX15_init 82 = .ok (.newarray .int, 2) := by decide +kernel
theorem dX15_init_84 : decode cX15_init 84 = .ok (.putfield 47, 3) := by decide +kernel
theorem dX15_init_87 : decode cX15_init 87 = .ok (.aload_n 0, 1) := by decide +kernel
theorem dX15_init_88 : decode cX15_init 88 = .ok (.iconst 5, 1) := by decide +kernel
theorem dX15_init_89 : decode cX15_init 89 = .ok (.newarray .int, 2) := by decide +kernel
theorem dX15_init_91 : decode cX15_init 91 = .ok (.putfield 50, 3) := by decide +kernel
theorem dX15_init_94 : decode cX15_init 94 = .ok (.aload_n 0, 1) := by decide +kernel
theorem dX15_init_95 : decode cX15_init 95 = .ok (.bipush 30, 2) := by decide +kernel
theorem dX15_init_97 : decode cX15_init 97 = .ok (.newarray .int, 2) := by decide +kernel
theorem dX15_init_99 : decode cX15_init 99 = .ok (.putfield 53, 3) := by decide +kernel
theorem dX15_init_102 : decode cX15_init 102 = .ok (.aload_n 0, 1) := by decide +kernel
theorem dX15_init_103 : decode cX15_init 103 = .ok (.sipush (-1000), 3) := by decide +kernel
theorem dX15_init_106 : decode cX15_init 106 = .ok (.putfield 56, 3) := by decide +kernel
theorem dX15_init_109 : decode cX15_init 109 = .ok (.aload_n 0, 1) := by decide +kernel
theorem dX15_init_110 : decode cX15_init 110 = .ok (.new 60, 3) := by decide +kernel
theorem dX15_init_113 : decode cX15_init 113 = .ok (.dup, 1) := by decide +kernel
theorem dX15_init_114 : decode cX15_init 114 = .ok (.invokespecial 62, 3) := by decide +kernel
theorem dX15_init_117 : decode cX15_init 117 = .ok (.putfield 63, 3) := by decide +kernel
theorem dX15_init_120 : decode cX15_init 120 = .ok (.aload_n 0, 1) := by decide +kernel
theorem dX15_init_121 : decode cX15_init 121 = .ok (.bipush 10, 2) := by decide +kernel
theorem dX15_init_123 : decode cX15_init 123 = .ok (.newarray .int, 2) := by decide +kernel
theorem dX15_init_125 : decode cX15_init 125 = .ok (.putfield 67, 3) := by decide +kernel
theorem dX15_init_128 : decode cX15_init 128 = .ok (.aload_n 0, 1) := by decide +kernel
theorem dX15_init_129 : decode cX15_init 129 = .ok (.new 15, 3) := by decide +kernel
theorem dX15_init_132 : decode cX15_init 132 = .ok (.dup, 1) := by decide +kernel
theorem dX15_init_133 : decode cX15_init 133 = .ok (.invokespecial 17, 3) := by decide +kernel
theorem dX15_init_136 : decode cX15_init 136 = .ok (.putfield 70, 3) := by decide +kernel
theorem dX15_init_139 : decode cX15_init 139 = .ok (.aload_n 0, 1) := by decide +kernel
theorem dX15_init_140 : decode cX15_init 140 = .ok (.new 15, 3) := by decide +kernel
theorem dX15_init_143 : decode cX15_init 143 = .ok (.dup, 1) := by decide +kernel
theorem dX15_init_144 : decode cX15_init 144 = .ok (.invokespecial 17, 3) := by decide +kernel
theorem dX15_init_147 : decode cX15_init 147 = .ok (.putfield 73, 3) := by decide +kernel
theorem dX15_init_150 : decode cX15_init 150 = .ok (.aload_n 1, 1) := by decide +kernel
theorem dX15_init_151 : decode cX15_init 151 = .ok (.getfield 76, 3) := by decide +kernel
theorem dX15_init_154 : decode cX15_init 154 = .ok (.invokeinterface 79 1, 5) := by decide +kernel
theorem dX15_init_159 : decode cX15_init 159 = .ok (.astore_n 2, 1) := by decide +kernel
theorem dX15_init_160 : decode cX15_init 160 = .ok (.aload_n 2, 1) := by decide +kernel
theorem dX15_init_161 : decode cX15_init 161 = .ok (.invokeinterface 85 1, 5) := by decide +kernel
theorem dX15_init_166 : decode cX15_init 166 = .ok (.ifCond .eq 34, 3) := by decide +kernel
theorem dX15_init_169 : decode cX15_init 169 = .ok (.aload_n 2, 1) := by decide +kernel
theorem dX15_init_170 : decode cX15_init 170 = .ok (.invokeinterface 91 1, 5) := by decide +kernel
theorem dX15_init_175 : decode cX15_init 175 = .ok (.checkcast 95, 3) := by decide +kernel
theorem dX15_init_178 : decode cX15_init 178 = .ok (.astore_n 3, 1) := by decide +kernel
theorem dX15_init_179 : decode cX15_init 179 = .ok (.aload_n 0, 1) := by decide +kernel
theorem dX15_init_180 : decode cX15_init 180 = .ok (.getfield 18, 3) := by decide +kernel
theorem dX15_init_183 : decode cX15_init 183 = .ok (.new 97, 3) := by decide +kernel
theorem dX15_init_186 : decode cX15_init 186 = .ok (.dup, 1) := by decide +kernel
theorem dX15_init_187 : decode cX15_init 187 = .ok (.aload_n 3, 1) := by decide +kernel
theorem dX15_init_188 : decode cX15_init 188 = .ok (.invokespecial 99, 3) := by decide +kernel
theorem dX15_init_191 : decode cX15_init 191 = .ok (.invokeinterface 102 2, 5) := by decide +kernel
theorem dX15_init_196 : decode cX15_init 196 = .ok (.pop, 1) := by decide +kernel
theorem dX15_init_197 : decode cX15_init 197 = .ok (.goto (-37), 3) := by decide +kernel
theorem dX15_init_200 : decode cX15_init 200 = .ok (.aload_n 1, 1) := by decide +kernel
theorem dX15_init_201 : decode cX15_init 201 = .ok (.getfield 106, 3) := by decide +kernel
theorem dX15_init_204 : decode cX15_init 204 = .ok (.invokeinterface 79 1, 5) := by decide +kernel
theorem dX15_init_209 : decode cX15_init 209 = .ok (.astore_n 2, 1) := by decide +kernel
theorem dX15_init_210 : decode cX15_init 210 = .ok (.aload_n 2, 1) := by decide +kernel
theorem dX15_init_211 : decode cX15_init 211 = .ok (.invokeinterface 85 1, 5) := by decide +kernel
theorem dX15_init_216 : decode cX15_init 216 = .ok (.ifCond .eq 34, 3) := by decide +kernel
theorem dX15_init_219 : decode cX15_init 219 = .ok (.aload_n 2, 1) := by decide +kernel
theorem dX15_init_220 : decode cX15_init 220 = .ok (.invokeinterface 91 1, 5) := by decide +kernel
theorem dX15_init_225 : decode cX15_init 225 = .ok (.checkcast 109, 3) := by decide +kernel
theorem dX15_init_228 : decode cX15_init 228 = .ok (.astore_n 3, 1) := by decide +kernel
theorem dX15_init_229 : decode cX15_init 229 = .ok (.aload_n 0, 1) := by decide +kernel
theorem dX15_init_230 : decode cX15_init 230 = .ok (.getfield 22, 3) := by decide +kernel
theorem dX15_init_233 : decode cX15_init 233 = .ok (.new 111, 3) := by decide +kernel
theorem dX15_init_236 : decode cX15_init 236 = .ok (.dup, 1) := by decide +kernel
theorem dX15_init_237 : decode cX15_init 237 = .ok (.aload_n 3, 1) := by decide +kernel
theorem dX15_init_238 : decode cX15_init 238 = .ok (.invokespecial 113, 3) := by decide +kernel
theorem dX15_init_241 : decode cX15_init 241 = .ok (.invokeinterface 102 2, 5) := by decide +kernel
theorem dX15_init_246 : decode cX15_init 246 = .ok (.pop, 1) := by decide +kernel
theorem dX15_init_247 : decode cX15_init 247 = .ok (.goto (-37), 3) := by decide +kernel
theorem dX15_init_250 : decode cX15_init 250 = .ok (.aload_n 0, 1) := by decide +kernel
theorem dX15_init_251 : decode cX15_init 251 = .ok (.invokevirtual 116, 3) := by decide +kernel
theorem dX15_init_254 : decode cX15_init 254 = .ok (.iconst 0, 1) := by decide +kernel
theorem dX15_init_255 : decode cX15_init 255 = .ok (.istore_n 2, 1) := by decide +kernel
theorem dX15_init_256 : decode cX15_init 256 = .ok (.iload_n 2, 1) := by decide +kernel
theorem dX15_init_257 : decode cX15_init 257 = .ok (.aload_n 1, 1) := by decide +kernel
theorem dX15_init_258 : decode cX15_init 258 = .ok (.getfield 119, 3) := by decide +kernel
theorem dX15_init_261 : decode cX15_init 261 = .ok (.invokeinterface 122 1, 5) := by decide +kernel
theorem dX15_init_266 : decode cX15_init 266 = .ok (.if_icmp .ge 111, 3) := by decide +kernel
theorem dX15_init_269 : decode cX15_init 269 = .ok (.aload_n 0, 1) := by decide +kernel
theorem dX15_init_270 : decode cX15_init 270 = .ok (.getfield 25, 3) := by decide +kernel
theorem dX15_init_273 : decode cX15_init 273 = .ok (.iload_n 2, 1) := by decide +kernel
theorem dX15_init_274 : decode cX15_init 274 = .ok (.aload_n 1, 1) := by decide +kernel
theorem dX15_init_275 : decode cX15_init 275 = .ok (.getfield 119, 3) := by decide +kernel
theorem dX15_init_278 : decode cX15_init 278 = .ok (.iload_n 2, 1) := by decide +kernel
theorem dX15_init_279 : decode cX15_init 279 = .ok (.invokeinterface 126 2, 5) := by decide +kernel
theorem dX15_init_284 : decode cX15_init 284 = .ok (.checkcast 130, 3) := by decide +kernel
theorem dX15_init_287 : decode cX15_init 287 = .ok (.getfield 132, 3) := by decide +kernel
theorem dX15_init_290 : decode cX15_init 290 = .ok (.iastore, 1) := by decide +kernel
theorem dX15_init_291 : decode cX15_init 291 = .ok (.aload_n 0, 1) := by decide +kernel
theorem dX15_init_292 : decode cX15_init 292 = .ok (.getfield 32, 3) := by decide +kernel
theorem dX15_init_295 : decode cX15_init 295 = .ok (.iload_n 2, 1) := by decide +kernel
theorem dX15_init_296 : decode cX15_init 296 = .ok (.aload_n 1, 1) := by decide +kernel
theorem dX15_init_297 : decode cX15_init 297 = .ok (.getfield 119, 3) := by decide +kernel
theorem dX15_init_300 : decode cX15_init 300 = .ok (.iload_n 2, 1) := by decide +kernel
theorem dX15_init_301 : decode cX15_init 301 = .ok (.invokeinterface 126 2, 5) := by decide +kernel
theorem dX15_init_306 : decode cX15_init 306 = .ok (.checkcast 130, 3) := by decide +kernel
theorem dX15_init_309 : decode cX15_init 309 = .ok (.getfield 135, 3) := by decide +kernel
theorem dX15_init_312 : decode cX15_init 312 = .ok (.iastore, 1) := by decide +kernel
theorem dX15_init_313 : decode cX15_init 313 = .ok (.aload_n 0, 1) := by decide +kernel
theorem dX15_init_314 : decode cX15_init 314 = .ok (.getfield 35, 3) := by decide +kernel
theorem dX15_init_317 : decode cX15_init 317 = .ok (.iload_n 2, 1) := by decide +kernel
theorem dX15_init_318 : decode cX15_init 318 = .ok (.aload_n 1, 1) := by decide +kernel
theorem dX15_init_319 : decode cX15_init 319 = .ok (.getfield 119, 3) := by decide +kernel
theorem dX15_init_322 : decode cX15_init 322 = .ok (.iload_n 2, 1) := by decide +kernel
theorem dX15_init_323 : decode cX15_init 323 = .ok (.invokeinterface 126 2, 5) := by decide +kernel
theorem dX15_init_328 : decode cX15_init 328 = .ok (.checkcast 130, 3) := by decide +kernel
theorem dX15_init_331 : decode cX15_init 331 = .ok (.getfield 138, 3) := by decide +kernel
theorem dX15_init_334 : decode cX15_init 334 = .ok (.iastore, 1) := by decide +kernel
theorem dX15_init_335 : decode cX15_init 335 = .ok (.aload_n 0, 1) := by decide +kernel
theorem dX15_init_336 : decode cX15_init 336 = .ok (.getfield 38, 3) := by decide +kernel
theorem dX15_init_339 : decode cX15_init 339 = .ok (.iload_n 2, 1) := by decide +kernel
theorem dX15_init_340 : decode cX15_init 340 = .ok (.aload_n 1, 1) := by decide +kernel
theorem dX15_init_341 : decode cX15_init 341 = .ok (.getfield 119, 3) := by decide +kernel
theorem dX15_init_344 : decode cX15_init 344 = .ok (.iload_n 2, 1) := by decide +kernel
theorem dX15_init_345 : decode cX15_init 345 = .ok (.invokeinterface 126 2, 5) := by decide +kernel
theorem dX15_init_350 : decode cX15_init 350 = .ok (.checkcast 130, 3) := by decide +kernel
theorem dX15_init_353 : decode cX15_init 353 = .ok (.getfield 140, 3) := by decide +kernel
theorem dX15_init_356 : decode cX15_init 356 = .ok (.iastore, 1) := by decide +kernel
theorem dX15_init_357 : decode cX15_init 357 = .ok (.aload_n 0, 1) := by decide +kernel
theorem dX15_init_358 : decode cX15_init 358 = .ok (.getfield 29, 3) := by decide +kernel
theorem dX15_init_361 : decode cX15_init 361 = .ok (.iload_n 2, 1) := by decide +kernel
theorem dX15_init_362 : decode cX15_init 362 = .ok (.iconst (-1), 1) := by decide +kernel
theorem dX15_init_363 : decode cX15_init 363 = .ok (.iastore, 1) := by decide +kernel
theorem dX15_init_364 : decode cX15_init 364 = .ok (.aload_n 0, 1) := by decide +kernel
theorem dX15_init_365 : decode cX15_init 365 = .ok (.getfield 41, 3) := by decide +kernel
theorem dX15_init_368 : decode cX15_init 368 = .ok (.iload_n 2, 1) := by decide +kernel
theorem dX15_init_369 : decode cX15_init 369 = .ok (.iconst (-1), 1) := by decide +kernel
theorem dX15_init_370 : decode cX15_init 370 = .ok (.iastore, 1) := by decide +kernel
theorem dX15_init_371 : decode cX15_init 371 = .ok (.iinc 2 1, 3) := by decide +kernel
theorem dX15_init_374 : decode cX15_init 374 = .ok (.goto (-118), 3) := by decide +kernel
theorem dX15_init_377 : decode cX15_init 377 = .ok (.iconst 0, 1) := by decide +kernel
theorem dX15_init_378 : decode cX15_init 378 = .ok (.istore_n 2, 1) := by decide +kernel
theorem dX15_init_379 : decode cX15_init 379 = .ok (.iload_n 2, 1) := by decide +kernel
theorem dX15_init_380 : decode cX15_init 380 = .ok (.aload_n 1, 1) := by decide +kernel
theorem dX15_init_381 : decode cX15_init 381 = .ok (.getfield 142, 3) := by decide +kernel
theorem dX15_init_384 : decode cX15_init 384 = .ok (.invokeinterface 122 1, 5) := by decide +kernel
theorem dX15_init_389 : decode cX15_init 389 = .ok (.if_icmp .ge 38, 3) := by decide +kernel
theorem dX15_init_392 : decode cX15_init 392 = .ok (.aload_n 0, 1) := by decide +kernel
theorem dX15_init_393 : decode cX15_init 393 = .ok (.getfield 44, 3) := by decide +kernel
theorem dX15_init_396 : decode cX15_init 396 = .ok (.iload_n 2, 1) := by decide +kernel
theorem dX15_init_397 : decode cX15_init 397 = .ok (.aload_n 1, 1) := by decide +kernel
theorem dX15_init_398 : decode cX15_init 398 = .ok (.getfield 142, 3) := by decide +kernel
theorem dX15_init_401 : decode cX15_init 401 = .ok (.iload_n 2, 1) := by decide +kernel
theorem dX15_init_402 : decode cX15_init 402 = .ok (.invokeinterface 126 2, 5) := by decide +kernel
theorem dX15_init_407 : decode cX15_init 407 = .ok (.checkcast 145, 3) := by decide +kernel
theorem dX15_init_410 : decode cX15_init 410 = .ok (.getfield 147, 3) := by decide +kernel
theorem dX15_init_413 : decode cX15_init 413 = .ok (.iastore, 1) := by decide +kernel
theorem dX15_init_414 : decode cX15_init 414 = .ok (.aload_n 0, 1) := by decide +kernel
theorem dX15_init_415 : decode cX15_init 415 = .ok (.getfield 47, 3) := by decide +kernel
theorem dX15_init_418 : decode cX15_init 418 = .ok (.iload_n 2, 1) := by decide +kernel
theorem dX15_init_419 : decode cX15_init 419 = .ok (.iconst (-1), 1) := by decide +kernel
theorem dX15_init_420 : decode cX15_init 420 = .ok (.iastore, 1) := by decide +kernel
theorem dX15_init_421 : decode cX15_init 421 = .ok (.iinc 2 1, 3) := by decide +kernel
theorem dX15_init_424 : decode cX15_init 424 = .ok (.goto (-45), 3) := by decide +kernel
theorem dX15_init_427 : decode cX15_init 427 = .ok (.iconst 0, 1) := by decide +kernel
theorem dX15_init_428 : decode cX15_init 428 = .ok (.istore_n 2, 1) := by decide +kernel
theorem dX15_init_429 : decode cX15_init 429 = .ok (.iload_n 2, 1) := by decide +kernel
theorem dX15_init_430 : decode cX15_init 430 = .ok (.aload_n 0, 1) := by decide +kernel
theorem dX15_init_431 : decode cX15_init 431 = .ok (.getfield 53, 3) := by decide +kernel
theorem dX15_init_434 : decode cX15_init 434 = .ok (.arraylength, 1) := by decide +kernel
theorem dX15_init_435 : decode cX15_init 435 = .ok (.if_icmp .ge 16, 3) := by decide +kernel
theorem dX15_init_438 : decode cX15_init 438 = .ok (.aload_n 0, 1) := by decide +kernel
theorem dX15_init_439 : decode cX15_init 439 = .ok (.getfield 53, 3) := by decide +kernel
theorem dX15_init_442 : decode cX15_init 442 = .ok (.iload_n 2, 1) := by decide +kernel
theorem dX15_init_443 : decode cX15_init 443 = .ok (.iconst (-1), 1) := by decide +kernel
theorem dX15_init_444 : decode cX15_init 444 = .ok (.iastore, 1) := by decide +kernel
theorem dX15_init_445 : decode cX15_init 445 = .ok (.iinc 2 1, 3) := by decide +kernel
theorem dX15_init_448 : decode cX15_init 448 = .ok (.goto (-19), 3) := by decide +kernel
theorem dX15_init_451 : decode cX15_init 451 = .ok (.aload_n 0, 1) := by decide +kernel
theorem dX15_init_452 : decode cX15_init 452 = .ok (.getfield 18, 3) := by decide +kernel
theorem dX15_init_455 : decode cX15_init 455 = .ok (.invokeinterface 79 1, 5) := by decide +kernel
theorem dX15_init_460 : decode cX15_init 460 = .ok (.astore_n 2, 1) := by decide +kernel
theorem dX15_init_461 : decode cX15_init 461 = .ok (.aload_n 2, 1) := by decide +kernel
theorem dX15_init_462 : decode cX15_init 462 = .ok (.invokeinterface 85 1, 5) := by decide +kernel
theorem dX15_init_467 : decode cX15_init 467 = .ok (.ifCond .eq 33, 3) := by decide +kernel
theorem dX15_init_470 : decode cX15_init 470 = .ok (.aload_n 2, 1) := by decide +kernel
theorem dX15_init_471 : decode cX15_init 471 = .ok (.invokeinterface 91 1, 5) := by decide +kernel
theorem dX15_init_476 : decode cX15_init 476 = .ok (.checkcast 97, 3) := by decide +kernel
theorem dX15_init_479 : decode cX15_init 479 = .ok (.astore_n 3, 1) := by decide +kernel
theorem dX15_init_480 : decode cX15_init 480 = .ok (.aload_n 3, 1) := by decide +kernel
theorem dX15_init_481 : decode cX15_init 481 = .ok (.getfield 148, 3) := by decide +kernel
theorem dX15_init_484 : decode cX15_init 484 = .ok (.getfield 152, 3) := by decide +kernel
theorem dX15_init_487 : decode cX15_init 487 = .ok (.ifCond .eq 10, 3) := by decide +kernel
theorem dX15_init_490 : decode cX15_init 490 = .ok (.aload_n 0, 1) := by decide +kernel
theorem dX15_init_491 : decode cX15_init 491 = .ok (.aload_n 3, 1) := by decide +kernel
theorem dX15_init_492 : decode cX15_init 492 = .ok (.bipush 120, 2) := by decide +kernel
theorem dX15_init_494 : decode cX15_init 494 = .ok (.invokevirtual 156, 3) := by decide +kernel
theorem dX15_init_497 : decode cX15_init 497 = .ok (.goto (-36), 3) := by decide +kernel
theorem dX15_init_500 : decode cX15_init 500 = .ok (.aload_n 0, 1) := by decide +kernel
theorem dX15_init_501 : decode cX15_init 501 = .ok (.iconst 0, 1) := by decide +kernel
theorem dX15_init_502 : decode cX15_init 502 = .ok (.putfield 160, 3) := by decide +kernel
theorem dX15_init_505 : decode cX15_init 505 = .ok (.aload_n 0, 1) := by decide +kernel
theorem dX15_init_506 : decode cX15_init 506 = .ok (.getfield 160, 3) := by decide +kernel
theorem dX15_init_509 : decode cX15_init 509 = .ok (.sipush 2000, 3) := by decide +kernel
theorem dX15_init_512 : decode cX15_init 512 = .ok (.if_icmp .ge 44, 3) := by decide +kernel
theorem dX15_init_515 : decode cX15_init 515 = .ok (.aload_n 0, 1) := by decide +kernel
theorem dX15_init_516 : decode cX15_init 516 = .ok (.invokevirtual 163, 3) := by decide +kernel
theorem dX15_init_519 : decode cX15_init 519 = .ok (.aload_n 0, 1) := by decide +kernel
theorem dX15_init_520 : decode cX15_init 520 = .ok (.invokevirtual 166, 3) := by decide +kernel
theorem dX15_init_523 : decode cX15_init 523 = .ok (.aload_n 0, 1) := by decide +kernel
theorem dX15_init_524 : decode cX15_init 524 = .ok (.invokevirtual 169, 3) := by decide +kernel
theorem dX15_init_527 : decode cX15_init 527 = .ok (.aload_n 0, 1) := by decide +kernel
theorem dX15_init_528 : decode cX15_init 528 = .ok (.invokevirtual 172, 3) := by decide +kernel
theorem dX15_init_531 : decode cX15_init 531 = .ok (.aload_n 0, 1) := by decide +kernel
theorem dX15_init_532 : decode cX15_init 532 = .ok (.invokevirtual 175, 3) := by decide +kernel
theorem dX15_init_535 : decode cX15_init 535 = .ok (.aload_n 0, 1) := by decide +kernel
theorem dX15_init_536 : decode cX15_init 536 = .ok (.invokevirtual 178, 3) := by decide +kernel
theorem dX15_init_539 : decode cX15_init 539 = .ok (.aload_n 0, 1) := by decide +kernel
theorem dX15_init_540 : decode cX15_init 540 = .ok (.invokevirtual 181, 3) := by decide +kernel
theorem dX15_init_543 : decode cX15_init 543 = .ok (.aload_n 0, 1) := by decide +kernel
theorem dX15_init_544 : decode cX15_init 544 = .ok (.dup, 1) := by decide +kernel
theorem dX15_init_545 : decode cX15_init 545 = .ok (.getfield 160, 3) := by decide +kernel
theorem dX15_init_548 : decode cX15_init 548 = .ok (.iconst 1, 1) := by decide +kernel
theorem dX15_init_549 : decode cX15_init 549 = .ok (.iadd, 1) := by decide +kernel
theorem dX15_init_550 : decode cX15_init 550 = .ok (.putfield 160, 3) := by decide +kernel
theorem dX15_init_553 : decode cX15_init 553 = .ok (.goto (-48), 3) := by decide +kernel
theorem dX15_init_556 : decode cX15_init 556 = .ok (.return_, 1) := by decide +kernel
theorem dX15_readMessages_0 : decode cX15_readMessages 0 = .ok (.aload_n 0, 1) := by decide +kernel
theorem dX15_readMessages_1 : decode cX15_readMessages 1 = .ok (.getfield 3, 3) := by decide +kernel
theorem dX15_readMessages_4 : decode cX15_readMessages 4 = .ok (.getfield 218, 3) := by decide +kernel
theorem dX15_readMessages_7 : decode cX15_readMessages 7 = .ok (.invokeinterface 79 1, 5) := by decide +kernel
theorem dX15_readMessages_12 : decode cX15_readMessages 12 = .ok (.astore_n 1, 1) := by decide +kernel
theorem dX15_readMessages_13 : decode cX15_readMessages 13 = .ok (.aload_n 1, 1) := by decide +kernel
theorem dX15_readMessages_14 : decode cX15_readMessages 14 = .ok (.invokeinterface 85 1, 5) := by decide +kernel
theorem dX15_readMessages_19 : decode cX15_readMessages 19 = .ok (.ifCond .eq 154, 3) := by decide +kernel
theorem dX15_readMessages_22 : decode cX15_readMessages 22 = .ok (.aload_n 1, 1) := by decide +kernel
theorem dX15_readMessages_23 : decode cX15_readMessages 23 = .ok (.invokeinterface 91 1, 5) := by decide +kernel
theorem dX15_readMessages_28 : decode cX15_readMessages 28 = .ok (.checkcast 221, 3) := by decide +kernel
theorem dX15_readMessages_31 : decode cX15_readMessages 31 = .ok (.astore_n 2, 1) := by decide +kernel
theorem dX15_readMessages_32 : decode cX15_readMessages 32 = .ok (.ldc 222, 2) := by decide +kernel
theorem dX15_readMessages_34 : decode cX15_readMessages 34 = .ok (.aload_n 2, 1) := by decide +kernel
theorem dX15_readMessages_35 : decode cX15_readMessages 35 = .ok (.iconst 0, 1) := by decide +kernel
theorem dX15_readMessages_36 : decode cX15_readMessages 36 = .ok (.iaload, 1) := by decide +kernel
theorem dX15_readMessages_37 : decode cX15_readMessages 37 = .ok (.invokevirtual 224, 3) := by decide +kernel
theorem dX15_readMessages_40 : decode cX15_readMessages 40 = .ok (.bipush 10, 2) := by decide +kernel
theorem dX15_readMessages_42 : decode cX15_readMessages 42 = .ok (.imul, 1) := by decide +kernel
theorem dX15_readMessages_43 : decode cX15_readMessages 43 = .ok (.aload_n 2, 1) := by decide +kernel
theorem dX15_readMessages_44 : decode cX15_readMessages 44 = .ok (.iconst 1, 1) := by decide +kernel
theorem dX15_readMessages_45 : decode cX15_readMessages 45 = .ok (.iaload, 1) := by decide +kernel
theorem dX15_readMessages_46 : decode cX15_readMessages 46 = .ok (.iadd, 1) := by decide +kernel
theorem dX15_readMessages_47 : decode cX15_readMessages 47 = .ok (.istore_n 3, 1) := by decide +kernel
theorem dX15_readMessages_48 : decode cX15_readMessages 48 = .ok (.aload_n 2, 1) := by decide +kernel
theorem dX15_readMessages_49 : decode cX15_readMessages 49 = .ok (.iconst 4, 1) := by decide +kernel
theorem dX15_readMessages_50 : decode cX15_readMessages 50 = .ok (.iaload, 1) := by decide +kernel
theorem dX15_readMessages_51 : decode cX15_readMessages 51 = .ok (.aload_n 0, 1) := by decide +kernel
theorem dX15_readMessages_52 : decode cX15_readMessages 52 = .ok (.getfield 160, 3) := by decide +kernel
theorem dX15_readMessages_55 : decode cX15_readMessages 55 = .ok (.if_icmp .ne 115, 3) := by decide +kernel
theorem dX15_readMessages_58 : decode cX15_readMessages 58 = .ok (.aload_n 0, 1) := by decide +kernel
theorem dX15_readMessages_59 : decode cX15_readMessages 59 = .ok (.getfield 53, 3) := by decide +kernel
theorem dX15_readMessages_62 : decode cX15_readMessages 62 = .ok (.iload_n 3, 1) := by decide +kernel
theorem dX15_readMessages_63 : decode cX15_readMessages 63 = .ok (.iaload, 1) := by decide +kernel
theorem dX15_readMessages_64 : decode cX15_readMessages 64 = .ok (.aload_n 2, 1) := by decide +kernel
theorem dX15_readMessages_65 : decode cX15_readMessages 65 = .ok (.iconst 3, 1) := by decide +kernel
theorem dX15_readMessages_66 : decode cX15_readMessages 66 = .ok (.iaload, 1) := by decide +kernel
theorem dX15_readMessages_67 : decode cX15_readMessages 67 = .ok (.if_icmp .gt 103, 3) := by decide +kernel
theorem dX15_readMessages_70 : decode cX15_readMessages 70 = .ok (.aload_n 0, 1) := by decide +kernel
theorem dX15_readMessages_71 : decode cX15_readMessages 71 = .ok (.getfield 53, 3) := by decide +kernel
theorem dX15_readMessages_74 : decode cX15_readMessages 74 = .ok (.iload_n 3, 1) := by decide +kernel
theorem dX15_readMessages_75 : decode cX15_readMessages 75 = .ok (.aload_n 2, 1) := by decide +kernel
theorem dX15_readMessages_76 : decode cX15_readMessages 76 = .ok (.iconst 3, 1) := by decide +kernel
theorem dX15_readMessages_77 : decode cX15_readMessages 77 = .ok (.iaload, 1) := by decide +kernel
theorem dX15_readMessages_78 : decode cX15_readMessages 78 = .ok (.iastore, 1) := by decide +kernel
theorem dX15_readMessages_79 : decode cX15_readMessages 79 = .ok (.aload_n 0, 1) := by decide +kernel
theorem dX15_readMessages_80 : decode cX15_readMessages 80 = .ok (.getfield 18, 3) := by decide +kernel
theorem dX15_readMessages_83 : decode cX15_readMessages 83 = .ok (.aload_n 2, 1) := by decide +kernel
theorem dX15_readMessages_84 : decode cX15_readMessages 84 = .ok (.iconst 1, 1) := by decide +kernel
theorem dX15_readMessages_85 : decode cX15_readMessages 85 = .ok (.iaload, 1) := by decide +kernel
theorem dX15_readMessages_86 : decode cX15_readMessages 86 = .ok (.invokeinterface 126 2, 5) := by decide +kernel
theorem dX15_readMessages_91 : decode cX15_readMessages 91 = .ok (.checkcast 97, 3) := by decide +kernel
theorem dX15_readMessages_94 : decode cX15_readMessages 94 = .ok (.astore 4, 2) := by decide +kernel
theorem dX15_readMessages_96 : decode cX15_readMessages 96 = .ok (.aload_n 2, 1) := by decide +kernel
theorem dX15_readMessages_97 : decode cX15_readMessages 97 = .ok (.iconst 0, 1) := by decide +kernel
theorem dX15_readMessages_98 : decode cX15_readMessages 98 = .ok (.iaload, 1) := by decide +kernel
theorem dX15_readMessages_99 : decode cX15_readMessages 99 = .ok (.bipush 104, 2) := by decide +kernel
theorem dX15_readMessages_101 : decode cX15_readMessages 101 = .ok (.if_icmp .ne 14, 3) := by decide +kernel
theorem dX15_readMessages_104 : decode cX15_readMessages 104 = .ok (.aload 4, 2) := by decide +kernel
theorem dX15_readMessages_106 : decode cX15_readMessages 106 = .ok (.aload_n 2, 1) := by decide +kernel
theorem dX15_readMessages_107 : decode cX15_readMessages 107 = .ok (.iconst 2, 1) := by decide +kernel
theorem dX15_readMessages_108 : decode cX15_readMessages 108 = .ok (.iaload, 1) := by decide +kernel
theorem dX15_readMessages_109 : decode cX15_readMessages 109 = .ok (.putfield 230, 3) := by decide +kernel
theorem dX15_readMessages_112 : decode cX15_readMessages 112 = .ok (.goto 58, 3) := by decide +kernel
theorem dX15_readMessages_115 : decode cX15_readMessages 115 = .ok (.aload_n 2, 1) := by decide +kernel
theorem dX15_readMessages_116 : decode cX15_readMessages 116 = .ok (.iconst 0, 1) := by decide +kernel
theorem dX15_readMessages_117 : decode cX15_readMessages 117 = .ok (.iaload, 1) := by decide +kernel
theorem dX15_readMessages_118 : decode cX15_readMessages 118 = .ok (.bipush 102, 2) := by decide +kernel
theorem dX15_readMessages_120 : decode cX15_readMessages 120 = .ok (.if_icmp .ne 32, 3) := by decide +kernel
theorem dX15_readMessages_123 : decode cX15_readMessages 123 = .ok (.aload_n 0, 1) := by decide +kernel
theorem dX15_readMessages_124 : decode cX15_readMessages 124 = .ok (.getfield 38, 3) := by decide +kernel
theorem dX15_readMessages_127 : decode cX15_readMessages 127 = .ok (.aload 4, 2) := by decide +kernel
theorem dX15_readMessages_129 : decode cX15_readMessages 129 = .ok (.getfield 148, 3) := by decide +kernel
theorem dX15_readMessages_132 : decode cX15_readMessages 132 = .ok (.getfield 233, 3) := by decide +kernel
theorem dX15_readMessages_135 : decode cX15_readMessages 135 = .ok (.dup2, 1) := by decide +kernel
theorem dX15_readMessages_136 : decode cX15_readMessages 136 = .ok (.iaload, 1) := by decide +kernel
theorem dX15_readMessages_137 : decode cX15_readMessages 137 = .ok (.iconst 1, 1) := by decide +kernel
theorem dX15_readMessages_138 : decode cX15_readMessages 138 = .ok (.aload 4, 2) := by decide +kernel
theorem dX15_readMessages_140 : decode cX15_readMessages 140 = .ok (.getfield 148, 3) := by decide +kernel
theorem dX15_readMessages_143 : decode cX15_readMessages 143 = .ok (.getfield 215, 3) := by decide +kernel
theorem dX15_readMessages_146 : decode cX15_readMessages 146 = .ok (.ishl, 1) := by decide +kernel
theorem dX15_readMessages_147 : decode cX15_readMessages 147 = .ok (.ior, 1) := by decide +kernel
theorem dX15_readMessages_148 : decode cX15_readMessages 148 = .ok (.iastore, 1) := by decide +kernel
theorem dX15_readMessages_149 : decode cX15_readMessages 149 = .ok (.goto 21, 3) := by decide +kernel
theorem dX15_readMessages_152 : decode cX15_readMessages 152 = .ok (.aload 4, 2) := by decide +kernel
theorem dX15_readMessages_154 : decode cX15_readMessages 154 = .ok (.getfield 194, 3) := by decide +kernel
theorem dX15_readMessages_157 : decode cX15_readMessages 157 = .ok (.bipush 115, 2) := by decide +kernel
theorem dX15_readMessages_159 : decode cX15_readMessages 159 = .ok (.if_icmp .ne 11, 3) := by decide +kernel
theorem dX15_readMessages_162 : decode cX15_readMessages 162 = .ok (.aload_n 0, 1) := by decide +kernel
theorem dX15_readMessages_163 : decode cX15_readMessages 163 = .ok (.aload 4, 2) := by decide +kernel
theorem dX15_readMessages_165 : decode cX15_readMessages 165 = .ok (.bipush 120, 2) := by decide +kernel
theorem dX15_readMessages_167 : decode cX15_readMessages 167 = .ok (.invokevirtual 156, 3) := by decide +kernel
theorem dX15_readMessages_170 : decode cX15_readMessages 170 = .ok (.goto (-157), 3) := by decide +kernel
theorem dX15_readMessages_173 : decode cX15_readMessages 173 = .ok (.return_, 1) := by decide +kernel
theorem dX15_inOrder_0 : decode cX15_inOrder 0 = .ok (.aload_n 0, 1) := by decide +kernel
theorem dX15_inOrder_1 : decode cX15_inOrder 1 = .ok (.getfield 70, 3) := by decide +kernel
theorem dX15_inOrder_4 : decode cX15_inOrder 4 = .ok (.invokeinterface 259 1, 5) := by decide +kernel
theorem dX15_inOrder_9 : decode cX15_inOrder 9 = .ok (.aload_n 0, 1) := by decide +kernel
theorem dX15_inOrder_10 : decode cX15_inOrder 10 = .ok (.getfield 18, 3) := by decide +kernel
theorem dX15_inOrder_13 : decode cX15_inOrder 13 = .ok (.invokeinterface 79 1, 5) := by decide +kernel
theorem dX15_inOrder_18 : decode cX15_inOrder 18 = .ok (.astore_n 2, 1) := by decide +kernel
theorem dX15_inOrder_19 : decode cX15_inOrder 19 = .ok (.aload_n 2, 1) := by decide +kernel
theorem dX15_inOrder_20 : decode cX15_inOrder 20 = .ok (.invokeinterface 85 1, 5) := by decide +kernel
theorem dX15_inOrder_25 : decode cX15_inOrder 25 = .ok (.ifCond .eq 100, 3) := by decide +kernel
theorem dX15_inOrder_28 : decode cX15_inOrder 28 = .ok (.aload_n 2, 1) := by decide +kernel
theorem dX15_inOrder_29 : decode cX15_inOrder 29 = .ok (.invokeinterface 91 1, 5) := by decide +kernel
theorem dX15_inOrder_34 : decode cX15_inOrder 34 = .ok (.checkcast 97, 3) := by decide +kernel
theorem dX15_inOrder_37 : decode cX15_inOrder 37 = .ok (.astore_n 3, 1) := by decide +kernel
theorem dX15_inOrder_38 : decode cX15_inOrder 38 = .ok (.aload_n 3, 1) := by decide +kernel
theorem dX15_inOrder_39 : decode cX15_inOrder 39 = .ok (.getfield 194, 3) := by decide +kernel
theorem dX15_inOrder_42 : decode cX15_inOrder 42 = .ok (.iload_n 1, 1) := by decide +kernel
theorem dX15_inOrder_43 : decode cX15_inOrder 43 = .ok (.if_icmp .ne 79, 3) := by decide +kernel
theorem dX15_inOrder_46 : decode cX15_inOrder 46 = .ok (.aload_n 0, 1) := by decide +kernel
theorem dX15_inOrder_47 : decode cX15_inOrder 47 = .ok (.getfield 70, 3) := by decide +kernel
theorem dX15_inOrder_50 : decode cX15_inOrder 50 = .ok (.invokeinterface 122 1, 5) := by decide +kernel
theorem dX15_inOrder_55 : decode cX15_inOrder 55 = .ok (.istore 4, 2) := by decide +kernel
theorem dX15_inOrder_57 : decode cX15_inOrder 57 = .ok (.iload 4, 2) := by decide +kernel
theorem dX15_inOrder_59 : decode cX15_inOrder 59 = .ok (.ifCond .le 51, 3) := by decide +kernel
theorem dX15_inOrder_62 : decode cX15_inOrder 62 = .ok (.aload_n 0, 1) := by decide +kernel
theorem dX15_inOrder_63 : decode cX15_inOrder 63 = .ok (.getfield 67, 3) := by decide +kernel
theorem dX15_inOrder_66 : decode cX15_inOrder 66 = .ok (.aload_n 0, 1) := by decide +kernel
theorem dX15_inOrder_67 : decode cX15_inOrder 67 = .ok (.getfield 70, 3) := by decide +kernel
theorem dX15_inOrder_70 : decode cX15_inOrder 70 = .ok (.iload 4, 2) := by decide +kernel
theorem dX15_inOrder_72 : decode cX15_inOrder 72 = .ok (.iconst 1, 1) := by decide +kernel
theorem dX15_inOrder_73 : decode cX15_inOrder 73 = .ok (.isub, 1) := by decide +kernel
theorem dX15_inOrder_74 : decode cX15_inOrder 74 = .ok (.invokeinterface 126 2, 5) := by decide +kernel
theorem dX15_inOrder_79 : decode cX15_inOrder 79 = .ok (.checkcast 97, 3) := by decide +kernel
theorem dX15_inOrder_82 : decode cX15_inOrder 82 = .ok (.getfield 148, 3) := by decide +kernel
theorem dX15_inOrder_85 : decode cX15_inOrder 85 = .ok (.getfield 191, 3) := by decide +kernel
theorem dX15_inOrder_88 : decode cX15_inOrder 88 = .ok (.iaload, 1) := by decide +kernel
theorem dX15_inOrder_89 : decode cX15_inOrder 89 = .ok (.aload_n 0, 1) := by decide +kernel
theorem dX15_inOrder_90 : decode cX15_inOrder 90 = .ok (.getfield 67, 3) := by decide +kernel
theorem dX15_inOrder_93 : decode cX15_inOrder 93 = .ok (.aload_n 3, 1) := by decide +kernel
theorem dX15_inOrder_94 : decode cX15_inOrder 94 = .ok (.getfield 148, 3) := by decide +kernel
theorem dX15_inOrder_97 : decode cX15_inOrder 97 = .ok (.getfield 191, 3) := by decide +kernel
theorem dX15_inOrder_100 : decode cX15_inOrder 100 = .ok (.iaload, 1) := by decide +kernel
theorem dX15_inOrder_101 : decode cX15_inOrder 101 = .ok (.if_icmp .le 9, 3) := by decide +kernel
theorem dX15_inOrder_104 : decode cX15_inOrder 104 = .ok (.iinc 4 (-1), 3) := by decide +kernel
theorem dX15_inOrder_107 : decode cX15_inOrder 107 = .ok (.goto (-50), 3) := by decide +kernel
theorem dX15_inOrder_110 : decode cX15_inOrder 110 = .ok (.aload_n 0, 1) := by decide +kernel
theorem dX15_inOrder_111 : decode cX15_inOrder 111 = .ok (.getfield 70, 3) := by decide +kernel
theorem dX15_inOrder_114 : decode cX15_inOrder 114 = .ok (.iload 4, 2) := by decide +kernel
theorem dX15_inOrder_116 : decode cX15_inOrder 116 = .ok (.aload_n 3, 1) := by decide +kernel
theorem dX15_inOrder_117 : decode cX15_inOrder 117 = .ok (.invokeinterface 262 3, 5) := by decide +kernel
theorem dX15_inOrder_122 : decode cX15_inOrder 122 = .ok (.goto (-103), 3) := by decide +kernel
theorem dX15_inOrder_125 : decode cX15_inOrder 125 = .ok (.aload_n 0, 1) := by decide +kernel
theorem dX15_inOrder_126 : decode cX15_inOrder 126 = .ok (.getfield 70, 3) := by decide +kernel
theorem dX15_inOrder_129 : decode cX15_inOrder 129 = .ok (.areturn, 1) := by decide +kernel
theorem dX15_land_0 : decode cX15_land 0 = .ok (.aload_n 0, 1) := by decide +kernel
theorem dX15_land_1 : decode cX15_land 1 = .ok (.getfield 18, 3) := by decide +kernel
theorem dX15_land_4 : decode cX15_land 4 = .ok (.invokeinterface 79 1, 5) := by decide +kernel
theorem dX15_land_9 : decode cX15_land 9 = .ok (.astore_n 1, 1) := by decide +kernel
theorem dX15_land_10 : decode cX15_land 10 = .ok (.aload_n 1, 1) := by decide +kernel
theorem dX15_land_11 : decode cX15_land 11 = .ok (.invokeinterface 85 1, 5) := by decide +kernel
theorem dX15_land_16 : decode cX15_land 16 = .ok (.ifCond .eq 41, 3) := by decide +kernel
theorem dX15_land_19 : decode cX15_land 19 = .ok (.aload_n 1, 1) := by decide +kernel
theorem dX15_land_20 : decode cX15_land 20 = .ok (.invokeinterface 91 1, 5) := by decide +kernel
theorem dX15_land_25 : decode cX15_land 25 = .ok (.checkcast 97, 3) := by decide +kernel
theorem dX15_land_28 : decode cX15_land 28 = .ok (.astore_n 2, 1) := by decide +kernel
theorem dX15_land_29 : decode cX15_land 29 = .ok (.aload_n 0, 1) := by decide +kernel
theorem dX15_land_30 : decode cX15_land 30 = .ok (.getfield 67, 3) := by decide +kernel
theorem dX15_land_33 : decode cX15_land 33 = .ok (.aload_n 2, 1) := by decide +kernel
theorem dX15_land_34 : decode cX15_land 34 = .ok (.getfield 148, 3) := by decide +kernel
theorem dX15_land_37 : decode cX15_land 37 = .ok (.getfield 191, 3) := by decide +kernel
theorem dX15_land_40 : decode cX15_land 40 = .ok (.aload_n 2, 1) := by decide +kernel
theorem dX15_land_41 : decode cX15_land 41 = .ok (.getfield 271, 3) := by decide +kernel
theorem dX15_land_44 : decode cX15_land 44 = .ok (.aload_n 0, 1) := by decide +kernel
theorem dX15_land_45 : decode cX15_land 45 = .ok (.aload_n 2, 1) := by decide +kernel
theorem dX15_land_46 : decode cX15_land 46 = .ok (.getfield 148, 3) := by decide +kernel
theorem dX15_land_49 : decode cX15_land 49 = .ok (.invokevirtual 273, 3) := by decide +kernel
theorem dX15_land_52 : decode cX15_land 52 = .ok (.iadd, 1) := by decide +kernel
theorem dX15_land_53 : decode cX15_land 53 = .ok (.iastore, 1) := by decide +kernel
theorem dX15_land_54 : decode cX15_land 54 = .ok (.goto (-44), 3) := by decide +kernel
theorem dX15_land_57 : decode cX15_land 57 = .ok (.aload_n 0, 1) := by decide +kernel
theorem dX15_land_58 : decode cX15_land 58 = .ok (.bipush 97, 2) := by decide +kernel
theorem dX15_land_60 : decode cX15_land 60 = .ok (.invokevirtual 277, 3) := by decide +kernel
theorem dX15_land_63 : decode cX15_land 63 = .ok (.invokeinterface 79 1, 5) := by decide +kernel
theorem dX15_land_68 : decode cX15_land 68 = .ok (.astore_n 1, 1) := by decide +kernel
theorem dX15_land_69 : decode cX15_land 69 = .ok (.aload_n 1, 1) := by decide +kernel
theorem dX15_land_70 : decode cX15_land 70 = .ok (.invokeinterface 85 1, 5) := by decide +kernel
theorem dX15_land_75 : decode cX15_land 75 = .ok (.ifCond .eq 91, 3) := by decide +kernel
theorem dX15_land_78 : decode cX15_land 78 = .ok (.aload_n 1, 1) := by decide +kernel
theorem dX15_land_79 : decode cX15_land 79 = .ok (.invokeinterface 91 1, 5) := by decide +kernel
theorem dX15_land_84 : decode cX15_land 84 = .ok (.checkcast 97, 3) := by decide +kernel
theorem dX15_land_87 : decode cX15_land 87 = .ok (.astore_n 2, 1) := by decide +kernel
theorem dX15_land_88 : decode cX15_land 88 = .ok (.aload_n 0, 1) := by decide +kernel
theorem dX15_land_89 : decode cX15_land 89 = .ok (.getfield 67, 3) := by decide +kernel
theorem dX15_land_92 : decode cX15_land 92 = .ok (.aload_n 2, 1) := by decide +kernel
theorem dX15_land_93 : decode cX15_land 93 = .ok (.getfield 148, 3) := by decide +kernel
theorem dX15_land_96 : decode cX15_land 96 = .ok (.getfield 191, 3) := by decide +kernel
theorem dX15_land_99 : decode cX15_land 99 = .ok (.iaload, 1) := by decide +kernel
theorem dX15_land_100 : decode cX15_land 100 = .ok (.aload_n 0, 1) := by decide +kernel
theorem dX15_land_101 : decode cX15_land 101 = .ok (.getfield 160, 3) := by decide +kernel
theorem dX15_land_104 : decode cX15_land 104 = .ok (.if_icmp .gt 59, 3) := by decide +kernel
theorem dX15_land_107 : decode cX15_land 107 = .ok (.aload_n 2, 1) := by decide +kernel
theorem dX15_land_108 : decode cX15_land 108 = .ok (.getfield 148, 3) := by decide +kernel
theorem dX15_land_111 : decode cX15_land 111 = .ok (.getfield 215, 3) := by decide +kernel
theorem dX15_land_114 : decode cX15_land 114 = .ok (.ifCond .eq 11, 3) := by decide +kernel
theorem dX15_land_117 : decode cX15_land 117 = .ok (.aload_n 0, 1) := by decide +kernel
theorem dX15_land_118 : decode cX15_land 118 = .ok (.aload_n 2, 1) := by decide +kernel
theorem dX15_land_119 : decode cX15_land 119 = .ok (.invokevirtual 281, 3) := by decide +kernel
theorem dX15_land_122 : decode cX15_land 122 = .ok (.goto 41, 3) := by decide +kernel
theorem dX15_land_125 : decode cX15_land 125 = .ok (.aload_n 0, 1) := by decide +kernel
theorem dX15_land_126 : decode cX15_land 126 = .ok (.aload_n 0, 1) := by decide +kernel
theorem dX15_land_127 : decode cX15_land 127 = .ok (.aload_n 2, 1) := by decide +kernel
theorem dX15_land_128 : decode cX15_land 128 = .ok (.invokevirtual 256, 3) := by decide +kernel
theorem dX15_land_131 : decode cX15_land 131 = .ok (.invokevirtual 284, 3) := by decide +kernel
theorem dX15_land_134 : decode cX15_land 134 = .ok (.ifCond .eq 29, 3) := by decide +kernel
theorem dX15_land_137 : decode cX15_land 137 = .ok (.aload_n 2, 1) := by decide +kernel
theorem dX15_land_138 : decode cX15_land 138 = .ok (.bipush 119, 2) := by decide +kernel
theorem dX15_land_140 : decode cX15_land 140 = .ok (.putfield 194, 3) := by decide +kernel
theorem dX15_land_143 : decode cX15_land 143 = .ok (.aload_n 2, 1) := by decide +kernel
theorem dX15_land_144 : decode cX15_land 144 = .ok (.aload_n 0, 1) := by decide +kernel
theorem dX15_land_145 : decode cX15_land 145 = .ok (.getfield 160, 3) := by decide +kernel
theorem dX15_land_148 : decode cX15_land 148 = .ok (.putfield 288, 3) := by decide +kernel
theorem dX15_land_151 : decode cX15_land 151 = .ok (.aload_n 0, 1) := by decide +kernel
theorem dX15_land_152 : decode cX15_land 152 = .ok (.aload_n 2, 1) := by decide +kernel
theorem dX15_land_153 : decode cX15_land 153 = .ok (.invokevirtual 291, 3) := by decide +kernel
theorem dX15_land_156 : decode cX15_land 156 = .ok (.aload_n 0, 1) := by decide +kernel
theorem dX15_land_157 : decode cX15_land 157 = .ok (.bipush 76, 2) := by decide +kernel
theorem dX15_land_159 : decode cX15_land 159 = .ok (.aload_n 2, 1) := by decide +kernel
theorem dX15_land_160 : decode cX15_land 160 = .ok (.invokevirtual 204, 3) := by decide +kernel
theorem dX15_land_163 : decode cX15_land 163 = .ok (.goto (-94), 3) := by decide +kernel
theorem dX15_land_166 : decode cX15_land 166 = .ok (.return_, 1) := by decide +kernel
theorem dX15_park_0 : decode cX15_park 0 = .ok (.aload_n 0, 1) := by decide +kernel
theorem dX15_park_1 : decode cX15_park 1 = .ok (.getfield 18, 3) := by decide +kernel
theorem dX15_park_4 : decode cX15_park 4 = .ok (.invokeinterface 79 1, 5) := by decide +kernel
theorem dX15_park_9 : decode cX15_park 9 = .ok (.astore_n 1, 1) := by decide +kernel
theorem dX15_park_10 : decode cX15_park 10 = .ok (.aload_n 1, 1) := by decide +kernel
theorem dX15_park_11 : decode cX15_park 11 = .ok (.invokeinterface 85 1, 5) := by decide +kernel
theorem dX15_park_16 : decode cX15_park 16 = .ok (.ifCond .eq 32, 3) := by decide +kernel
theorem dX15_park_19 : decode cX15_park 19 = .ok (.aload_n 1, 1) := by decide +kernel
theorem dX15_park_20 : decode cX15_park 20 = .ok (.invokeinterface 91 1, 5) := by decide +kernel
theorem dX15_park_25 : decode cX15_park 25 = .ok (.checkcast 97, 3) := by decide +kernel
theorem dX15_park_28 : decode cX15_park 28 = .ok (.astore_n 2, 1) := by decide +kernel
theorem dX15_park_29 : decode cX15_park 29 = .ok (.aload_n 0, 1) := by decide +kernel
theorem dX15_park_30 : decode cX15_park 30 = .ok (.getfield 67, 3) := by decide +kernel
theorem dX15_park_33 : decode cX15_park 33 = .ok (.aload_n 2, 1) := by decide +kernel
theorem dX15_park_34 : decode cX15_park 34 = .ok (.getfield 148, 3) := by decide +kernel
theorem dX15_park_37 : decode cX15_park 37 = .ok (.getfield 191, 3) := by decide +kernel
theorem dX15_park_40 : decode cX15_park 40 = .ok (.aload_n 2, 1) := by decide +kernel
theorem dX15_park_41 : decode cX15_park 41 = .ok (.getfield 288, 3) := by decide +kernel
theorem dX15_park_44 : decode cX15_park 44 = .ok (.iastore, 1) := by decide +kernel
theorem dX15_park_45 : decode cX15_park 45 = .ok (.goto (-35), 3) := by decide +kernel
theorem dX15_park_48 : decode cX15_park 48 = .ok (.aload_n 0, 1) := by decide +kernel
theorem dX15_park_49 : decode cX15_park 49 = .ok (.bipush 119, 2) := by decide +kernel
theorem dX15_park_51 : decode cX15_park 51 = .ok (.invokevirtual 277, 3) := by decide +kernel
theorem dX15_park_54 : decode cX15_park 54 = .ok (.invokeinterface 79 1, 5) := by decide +kernel
theorem dX15_park_59 : decode cX15_park 59 = .ok (.astore_n 1, 1) := by decide +kernel
theorem dX15_park_60 : decode cX15_park 60 = .ok (.aload_n 1, 1) := by decide +kernel
theorem dX15_park_61 : decode cX15_park 61 = .ok (.invokeinterface 85 1, 5) := by decide +kernel
theorem dX15_park_66 : decode cX15_park 66 = .ok (.ifCond .eq 201, 3) := by decide +kernel
theorem dX15_park_69 : decode cX15_park 69 = .ok (.aload_n 1, 1) := by decide +kernel
theorem dX15_park_70 : decode cX15_park 70 = .ok (.invokeinterface 91 1, 5) := by decide +kernel
theorem dX15_park_75 : decode cX15_park 75 = .ok (.checkcast 97, 3) := by decide +kernel
theorem dX15_park_78 : decode cX15_park 78 = .ok (.astore_n 2, 1) := by decide +kernel
theorem dX15_park_79 : decode cX15_park 79 = .ok (.iconst (-1), 1) := by decide +kernel
theorem dX15_park_80 : decode cX15_park 80 = .ok (.istore_n 3, 1) := by decide +kernel
theorem dX15_park_81 : decode cX15_park 81 = .ok (.iconst 0, 1) := by decide +kernel
theorem dX15_park_82 : decode cX15_park 82 = .ok (.istore 4, 2) := by decide +kernel
theorem dX15_park_84 : decode cX15_park 84 = .ok (.iload 4, 2) := by decide +kernel
theorem dX15_park_86 : decode cX15_park 86 = .ok (.aload_n 0, 1) := by decide +kernel
theorem dX15_park_87 : decode cX15_park 87 = .ok (.getfield 3, 3) := by decide +kernel
theorem dX15_park_90 : decode cX15_park 90 = .ok (.getfield 294, 3) := by decide +kernel
theorem dX15_park_93 : decode cX15_park 93 = .ok (.invokeinterface 122 1, 5) := by decide +kernel
theorem dX15_park_98 : decode cX15_park 98 = .ok (.if_icmp .ge 103, 3) := by decide +kernel
theorem dX15_park_101 : decode cX15_park 101 = .ok (.iload_n 3, 1) := by decide +kernel
theorem dX15_park_102 : decode cX15_park 102 = .ok (.iconst (-1), 1) := by decide +kernel
theorem dX15_park_103 : decode cX15_park 103 = .ok (.if_icmp .ne 98, 3) := by decide +kernel
theorem dX15_park_106 : decode cX15_park 106 = .ok (.aload_n 0, 1) := by decide +kernel
theorem dX15_park_107 : decode cX15_park 107 = .ok (.getfield 3, 3) := by decide +kernel
theorem dX15_park_110 : decode cX15_park 110 = .ok (.getfield 294, 3) := by decide +kernel
theorem dX15_park_113 : decode cX15_park 113 = .ok (.iload 4, 2) := by decide +kernel
theorem dX15_park_115 : decode cX15_park 115 = .ok (.invokeinterface 126 2, 5) := by decide +kernel
theorem dX15_park_120 : decode cX15_park 120 = .ok (.checkcast 221, 3) := by decide +kernel
theorem dX15_park_123 : decode cX15_park 123 = .ok (.iconst 0, 1) := by decide +kernel
theorem dX15_park_124 : decode cX15_park 124 = .ok (.iaload, 1) := by decide +kernel
theorem dX15_park_125 : decode cX15_park 125 = .ok (.aload_n 0, 1) := by decide +kernel
theorem dX15_park_126 : decode cX15_park 126 = .ok (.aload_n 2, 1) := by decide +kernel
theorem dX15_park_127 : decode cX15_park 127 = .ok (.invokevirtual 256, 3) := by decide +kernel
theorem dX15_park_130 : decode cX15_park 130 = .ok (.if_icmp .lt 41, 3) := by decide +kernel
theorem dX15_park_133 : decode cX15_park 133 = .ok (.aload_n 2, 1) := by decide +kernel
theorem dX15_park_134 : decode cX15_park 134 = .ok (.getfield 148, 3) := by decide +kernel
theorem dX15_park_137 : decode cX15_park 137 = .ok (.getfield 212, 3) := by decide +kernel
theorem dX15_park_140 : decode cX15_park 140 = .ok (.iconst 2, 1) := by decide +kernel
theorem dX15_park_141 : decode cX15_park 141 = .ok (.if_icmp .lt 26, 3) := by decide +kernel
theorem dX15_park_144 : decode cX15_park 144 = .ok (.aload_n 0, 1) := by decide +kernel
theorem dX15_park_145 : decode cX15_park 145 = .ok (.getfield 3, 3) := by decide +kernel
theorem dX15_park_148 : decode cX15_park 148 = .ok (.getfield 294, 3) := by decide +kernel
theorem dX15_park_151 : decode cX15_park 151 = .ok (.iload 4, 2) := by decide +kernel
theorem dX15_park_153 : decode cX15_park 153 = .ok (.invokeinterface 126 2, 5) := by decide +kernel
theorem dX15_park_158 : decode cX15_park 158 = .ok (.checkcast 221, 3) := by decide +kernel
theorem dX15_park_161 : decode cX15_park 161 = .ok (.iconst 1, 1) := by decide +kernel
theorem dX15_park_162 : decode cX15_park 162 = .ok (.iaload, 1) := by decide +kernel
theorem dX15_park_163 : decode cX15_park 163 = .ok (.iconst 1, 1) := by decide +kernel
theorem dX15_park_164 : decode cX15_park 164 = .ok (.if_icmp .ne 7, 3) := by decide +kernel
theorem dX15_park_167 : decode cX15_park 167 = .ok (.iconst 1, 1) := by decide +kernel
theorem dX15_park_168 : decode cX15_park 168 = .ok (.goto 4, 3) := by decide +kernel
theorem dX15_park_171 : decode cX15_park 171 = .ok (.iconst 0, 1) := by decide +kernel
theorem dX15_park_172 : decode cX15_park 172 = .ok (.istore 5, 2) := by decide +kernel
theorem dX15_park_174 : decode cX15_park 174 = .ok (.iload 5, 2) := by decide +kernel
theorem dX15_park_176 : decode cX15_park 176 = .ok (.ifCond .eq 17, 3) := by decide +kernel
theorem dX15_park_179 : decode cX15_park 179 = .ok (.aload_n 0, 1) := by decide +kernel
theorem dX15_park_180 : decode cX15_park 180 = .ok (.iload 4, 2) := by decide +kernel
theorem dX15_park_182 : decode cX15_park 182 = .ok (.invokevirtual 297, 3) := by decide +kernel
theorem dX15_park_185 : decode cX15_park 185 = .ok (.ifCond .ne 8, 3) := by decide +kernel
theorem dX15_park_188 : decode cX15_park 188 = .ok (.iload 4, 2) := by decide +kernel
theorem dX15_park_190 : decode cX15_park 190 = .ok (.goto 4, 3) := by decide +kernel
theorem dX15_park_193 : decode cX15_park 193 = .ok (.iconst (-1), 1) := by decide +kernel
theorem dX15_park_194 : decode cX15_park 194 = .ok (.istore_n 3, 1) := by decide +kernel
theorem dX15_park_195 : decode cX15_park 195 = .ok (.iinc 4 1, 3) := by decide +kernel
theorem dX15_park_198 : decode cX15_park 198 = .ok (.goto (-114), 3) := by decide +kernel
theorem dX15_park_201 : decode cX15_park 201 = .ok (.iload_n 3, 1) := by decide +kernel
theorem dX15_park_202 : decode cX15_park 202 = .ok (.iconst (-1), 1) := by decide +kernel
theorem dX15_park_203 : decode cX15_park 203 = .ok (.if_icmp .eq 42, 3) := by decide +kernel
theorem dX15_park_206 : decode cX15_park 206 = .ok (.aload_n 0, 1) := by decide +kernel
theorem dX15_park_207 : decode cX15_park 207 = .ok (.getfield 160, 3) := by decide +kernel
theorem dX15_park_210 : decode cX15_park 210 = .ok (.aload_n 2, 1) := by decide +kernel
theorem dX15_park_211 : decode cX15_park 211 = .ok (.getfield 288, 3) := by decide +kernel
theorem dX15_park_214 : decode cX15_park 214 = .ok (.iconst 5, 1) := by decide +kernel
theorem dX15_park_215 : decode cX15_park 215 = .ok (.iadd, 1) := by decide +kernel
theorem dX15_park_216 : decode cX15_park 216 = .ok (.if_icmp .lt 29, 3) := by decide +kernel
theorem dX15_park_219 : decode cX15_park 219 = .ok (.aload_n 2, 1) := by decide +kernel
theorem dX15_park_220 : decode cX15_park 220 = .ok (.iload_n 3, 1) := by decide +kernel
theorem dX15_park_221 : decode cX15_park 221 = .ok (.putfield 300, 3) := by decide +kernel
theorem dX15_park_224 : decode cX15_park 224 = .ok (.aload_n 0, 1) := by decide +kernel
theorem dX15_park_225 : decode cX15_park 225 = .ok (.getfield 41, 3) := by decide +kernel
theorem dX15_park_228 : decode cX15_park 228 = .ok (.aload_n 2, 1) := by decide +kernel
theorem dX15_park_229 : decode cX15_park 229 = .ok (.getfield 148, 3) := by decide +kernel
theorem dX15_park_232 : decode cX15_park 232 = .ok (.getfield 233, 3) := by decide +kernel
theorem dX15_park_235 : decode cX15_park 235 = .ok (.iload_n 3, 1) := by decide +kernel
theorem dX15_park_236 : decode cX15_park 236 = .ok (.iastore, 1) := by decide +kernel
theorem dX15_park_237 : decode cX15_park 237 = .ok (.aload_n 0, 1) := by decide +kernel
theorem dX15_park_238 : decode cX15_park 238 = .ok (.aload_n 2, 1) := by decide +kernel
theorem dX15_park_239 : decode cX15_park 239 = .ok (.invokevirtual 281, 3) := by decide +kernel
theorem dX15_park_242 : decode cX15_park 242 = .ok (.goto 22, 3) := by decide +kernel
theorem dX15_park_245 : decode cX15_park 245 = .ok (.aload_n 0, 1) := by decide +kernel
theorem dX15_park_246 : decode cX15_park 246 = .ok (.getfield 160, 3) := by decide +kernel
theorem dX15_park_249 : decode cX15_park 249 = .ok (.aload_n 2, 1) := by decide +kernel
theorem dX15_park_250 : decode cX15_park 250 = .ok (.getfield 288, 3) := by decide +kernel
theorem dX15_park_253 : decode cX15_park 253 = .ok (.bipush 60, 2) := by decide +kernel
theorem dX15_park_255 : decode cX15_park 255 = .ok (.iadd, 1) := by decide +kernel
theorem dX15_park_256 : decode cX15_park 256 = .ok (.if_icmp .lt 8, 3) := by decide +kernel
theorem dX15_park_259 : decode cX15_park 259 = .ok (.aload_n 0, 1) := by decide +kernel
theorem dX15_park_260 : decode cX15_park 260 = .ok (.aload_n 2, 1) := by decide +kernel
theorem dX15_park_261 : decode cX15_park 261 = .ok (.invokevirtual 281, 3) := by decide +kernel
theorem dX15_park_264 : decode cX15_park 264 = .ok (.goto (-204), 3) := by decide +kernel
theorem dX15_park_267 : decode cX15_park 267 = .ok (.return_, 1) := by decide +kernel
theorem dX15_shutDoors_0 : decode cX15_shutDoors 0 = .ok (.aload_n 0, 1) := by decide +kernel
theorem dX15_shutDoors_1 : decode cX15_shutDoors 1 = .ok (.getfield 18, 3) := by decide +kernel
theorem dX15_shutDoors_4 : decode cX15_shutDoors 4 = .ok (.invokeinterface 79 1, 5) := by decide +kernel
theorem dX15_shutDoors_9 : decode cX15_shutDoors 9 = .ok (.astore_n 1, 1) := by decide +kernel
theorem dX15_shutDoors_10 : decode cX15_shutDoors 10 = .ok (.aload_n 1, 1) := by decide +kernel
theorem dX15_shutDoors_11 : decode cX15_shutDoors 11 = .ok (.invokeinterface 85 1, 5) := by decide +kernel
theorem dX15_shutDoors_16 : decode cX15_shutDoors 16 = .ok (.ifCond .eq 32, 3) := by decide +kernel
theorem dX15_shutDoors_19 : decode cX15_shutDoors 19 = .ok (.aload_n 1, 1) := by decide +kernel
theorem dX15_shutDoors_20 : decode cX15_shutDoors 20 = .ok (.invokeinterface 91 1, 5) := by decide +kernel
theorem dX15_shutDoors_25 : decode cX15_shutDoors 25 = .ok (.checkcast 97, 3) := by decide +kernel
theorem dX15_shutDoors_28 : decode cX15_shutDoors 28 = .ok (.astore_n 2, 1) := by decide +kernel
theorem dX15_shutDoors_29 : decode cX15_shutDoors 29 = .ok (.aload_n 0, 1) := by decide +kernel
theorem dX15_shutDoors_30 : decode cX15_shutDoors 30 = .ok (.getfield 67, 3) := by decide +kernel
theorem dX15_shutDoors_33 : decode cX15_shutDoors 33 = .ok (.aload_n 2, 1) := by decide +kernel
theorem dX15_shutDoors_34 : decode cX15_shutDoors 34 = .ok (.getfield 148, 3) := by decide +kernel
theorem dX15_shutDoors_37 : decode cX15_shutDoors 37 = .ok (.getfield 191, 3) := by decide +kernel
theorem dX15_shutDoors_40 : decode cX15_shutDoors 40 = .ok (.aload_n 2, 1) := by decide +kernel
theorem dX15_shutDoors_41 : decode cX15_shutDoors 41 = .ok (.invokevirtual 303, 3) := by decide +kernel
theorem dX15_shutDoors_44 : decode cX15_shutDoors 44 = .ok (.iastore, 1) := by decide +kernel
theorem dX15_shutDoors_45 : decode cX15_shutDoors 45 = .ok (.goto (-35), 3) := by decide +kernel
theorem dX15_shutDoors_48 : decode cX15_shutDoors 48 = .ok (.aload_n 0, 1) := by decide +kernel
theorem dX15_shutDoors_49 : decode cX15_shutDoors 49 = .ok (.bipush 115, 2) := by decide +kernel
theorem dX15_shutDoors_51 : decode cX15_shutDoors 51 = .ok (.invokevirtual 277, 3) := by decide +kernel
theorem dX15_shutDoors_54 : decode cX15_shutDoors 54 = .ok (.invokeinterface 79 1, 5) := by decide +kernel
theorem dX15_shutDoors_59 : decode cX15_shutDoors 59 = .ok (.astore_n 1, 1) := by decide +kernel
theorem dX15_shutDoors_60 : decode cX15_shutDoors 60 = .ok (.aload_n 1, 1) := by decide +kernel
theorem dX15_shutDoors_61 : decode cX15_shutDoors 61 = .ok (.invokeinterface 85 1, 5) := by decide +kernel
theorem dX15_shutDoors_66 : decode cX15_shutDoors 66 = .ok (.ifCond .eq 32, 3) := by decide +kernel
theorem dX15_shutDoors_69 : decode cX15_shutDoors 69 = .ok (.aload_n 1, 1) := by decide +kernel
theorem dX15_shutDoors_70 : decode cX15_shutDoors 70 = .ok (.invokeinterface 91 1, 5) := by decide +kernel
theorem dX15_shutDoors_75 : decode cX15_shutDoors 75 = .ok (.checkcast 97, 3) := by decide +kernel
theorem dX15_shutDoors_78 : decode cX15_shutDoors 78 = .ok (.astore_n 2, 1) := by decide +kernel
theorem dX15_shutDoors_79 : decode cX15_shutDoors 79 = .ok (.aload_n 2, 1) := by decide +kernel
theorem dX15_shutDoors_80 : decode cX15_shutDoors 80 = .ok (.invokevirtual 303, 3) := by decide +kernel
theorem dX15_shutDoors_83 : decode cX15_shutDoors 83 = .ok (.aload_n 0, 1) := by decide +kernel
theorem dX15_shutDoors_84 : decode cX15_shutDoors 84 = .ok (.getfield 160, 3) := by decide +kernel
theorem dX15_shutDoors_87 : decode cX15_shutDoors 87 = .ok (.if_icmp .gt 8, 3) := by decide +kernel
theorem dX15_shutDoors_90 : decode cX15_shutDoors 90 = .ok (.aload_n 0, 1) := by decide +kernel
theorem dX15_shutDoors_91 : decode cX15_shutDoors 91 = .ok (.aload_n 2, 1) := by decide +kernel
theorem dX15_shutDoors_92 : decode cX15_shutDoors 92 = .ok (.invokevirtual 306, 3) := by decide +kernel
theorem dX15_shutDoors_95 : decode cX15_shutDoors 95 = .ok (.goto (-35), 3) := by decide +kernel
theorem dX15_shutDoors_98 : decode cX15_shutDoors 98 = .ok (.return_, 1) := by decide +kernel
theorem dX15_layClasses_0 : decode cX15_layClasses 0 = .ok (.iconst 0, 1) := by decide +kernel
theorem dX15_layClasses_1 : decode cX15_layClasses 1 = .ok (.istore_n 1, 1) := by decide +kernel
theorem dX15_layClasses_2 : decode cX15_layClasses 2 = .ok (.iload_n 1, 1) := by decide +kernel
theorem dX15_layClasses_3 : decode cX15_layClasses 3 = .ok (.iconst 3, 1) := by decide +kernel
theorem dX15_layClasses_4 : decode cX15_layClasses 4 = .ok (.if_icmp .ge 63, 3) := by decide +kernel
theorem dX15_layClasses_7 : decode cX15_layClasses 7 = .ok (.aload_n 0, 1) := by decide +kernel
theorem dX15_layClasses_8 : decode cX15_layClasses 8 = .ok (.getfield 22, 3) := by decide +kernel
theorem dX15_layClasses_11 : decode cX15_layClasses 11 = .ok (.invokeinterface 79 1, 5) := by decide +kernel
theorem dX15_layClasses_16 : decode cX15_layClasses 16 = .ok (.astore_n 2, 1) := by decide +kernel
theorem dX15_layClasses_17 : decode cX15_layClasses 17 = .ok (.aload_n 2, 1) := by decide +kernel
theorem dX15_layClasses_18 : decode cX15_layClasses 18 = .ok (.invokeinterface 85 1, 5) := by decide +kernel
theorem dX15_layClasses_23 : decode cX15_layClasses 23 = .ok (.ifCond .eq 38, 3) := by decide +kernel
theorem dX15_layClasses_26 : decode cX15_layClasses 26 = .ok (.aload_n 2, 1) := by decide +kernel
theorem dX15_layClasses_27 : decode cX15_layClasses 27 = .ok (.invokeinterface 91 1, 5) := by decide +kernel
theorem dX15_layClasses_32 : decode cX15_layClasses 32 = .ok (.checkcast 111, 3) := by decide +kernel
theorem dX15_layClasses_35 : decode cX15_layClasses 35 = .ok (.astore_n 3, 1) := by decide +kernel
theorem dX15_layClasses_36 : decode cX15_layClasses 36 = .ok (.aload_n 3, 1) := by decide +kernel
theorem dX15_layClasses_37 : decode cX15_layClasses 37 = .ok (.getfield 366, 3) := by decide +kernel
theorem dX15_layClasses_40 : decode cX15_layClasses 40 = .ok (.getfield 370, 3) := by decide +kernel
theorem dX15_layClasses_43 : decode cX15_layClasses 43 = .ok (.iload_n 1, 1) := by decide +kernel
theorem dX15_layClasses_44 : decode cX15_layClasses 44 = .ok (.if_icmp .ne 14, 3) := by decide +kernel
theorem dX15_layClasses_47 : decode cX15_layClasses 47 = .ok (.aload_n 0, 1) := by decide +kernel
theorem dX15_layClasses_48 : decode cX15_layClasses 48 = .ok (.getfield 73, 3) := by decide +kernel
theorem dX15_layClasses_51 : decode cX15_layClasses 51 = .ok (.aload_n 3, 1) := by decide +kernel
theorem dX15_layClasses_52 : decode cX15_layClasses 52 = .ok (.invokeinterface 102 2, 5) := by decide +kernel
theorem dX15_layClasses_57 : decode cX15_layClasses 57 = .ok (.pop, 1) := by decide +kernel
theorem dX15_layClasses_58 : decode cX15_layClasses 58 = .ok (.goto (-41), 3) := by decide +kernel
theorem dX15_layClasses_61 : decode cX15_layClasses 61 = .ok (.iinc 1 1, 3) := by decide +kernel
theorem dX15_layClasses_64 : decode cX15_layClasses 64 = .ok (.goto (-62), 3) := by decide +kernel
theorem dX15_layClasses_67 : decode cX15_layClasses 67 = .ok (.return_, 1) := by decide +kernel
theorem dX15_isIcy_0 : decode cX15_isIcy 0 = .ok (.aload_n 0, 1) := by decide +kernel
theorem dX15_isIcy_1 : decode cX15_isIcy 1 = .ok (.getfield 160, 3) := by decide +kernel
theorem dX15_isIcy_4 : decode cX15_isIcy 4 = .ok (.aload_n 0, 1) := by decide +kernel
theorem dX15_isIcy_5 : decode cX15_isIcy 5 = .ok (.getfield 3, 3) := by decide +kernel
theorem dX15_isIcy_8 : decode cX15_isIcy 8 = .ok (.getfield 413, 3) := by decide +kernel
theorem dX15_isIcy_11 : decode cX15_isIcy 11 = .ok (.if_icmp .lt 21, 3) := by decide +kernel
theorem dX15_isIcy_14 : decode cX15_isIcy 14 = .ok (.aload_n 0, 1) := by decide +kernel
theorem dX15_isIcy_15 : decode cX15_isIcy 15 = .ok (.getfield 160, 3) := by decide +kernel
theorem dX15_isIcy_18 : decode cX15_isIcy 18 = .ok (.aload_n 0, 1) := by decide +kernel
theorem dX15_isIcy_19 : decode cX15_isIcy 19 = .ok (.getfield 3, 3) := by decide +kernel
theorem dX15_isIcy_22 : decode cX15_isIcy 22 = .ok (.getfield 416, 3) := by decide +kernel
theorem dX15_isIcy_25 : decode cX15_isIcy 25 = .ok (.if_icmp .gt 7, 3) := by decide +kernel
theorem dX15_isIcy_28 : decode cX15_isIcy 28 = .ok (.iconst 1, 1) := by decide +kernel
theorem dX15_isIcy_29 : decode cX15_isIcy 29 = .ok (.goto 4, 3) := by decide +kernel
theorem dX15_isIcy_32 : decode cX15_isIcy 32 = .ok (.iconst 0, 1) := by decide +kernel
theorem dX15_isIcy_33 : decode cX15_isIcy 33 = .ok (.ireturn, 1) := by decide +kernel
theorem dX15_layReadiness_0 : decode cX15_layReadiness 0 = .ok (.aload_n 0, 1) := by decide +kernel
theorem dX15_layReadiness_1 : decode cX15_layReadiness 1 = .ok (.getfield 18, 3) := by decide +kernel
theorem dX15_layReadiness_4 : decode cX15_layReadiness 4 = .ok (.invokeinterface 79 1, 5) := by decide +kernel
theorem dX15_layReadiness_9 : decode cX15_layReadiness 9 = .ok (.astore_n 1, 1) := by decide +kernel
theorem dX15_layReadiness_10 : decode cX15_layReadiness 10 = .ok (.aload_n 1, 1) := by decide +kernel
theorem dX15_layReadiness_11 : decode cX15_layReadiness 11 = .ok (.invokeinterface 85 1, 5) := by decide +kernel
theorem dX15_layReadiness_16 : decode cX15_layReadiness 16 = .ok (.ifCond .eq 32, 3) := by decide +kernel
theorem dX15_layReadiness_19 : decode cX15_layReadiness 19 = .ok (.aload_n 1, 1) := by decide +kernel
theorem dX15_layReadiness_20 : decode cX15_layReadiness 20 = .ok (.invokeinterface 91 1, 5) := by decide +kernel
theorem dX15_layReadiness_25 : decode cX15_layReadiness 25 = .ok (.checkcast 97, 3) := by decide +kernel
theorem dX15_layReadiness_28 : decode cX15_layReadiness 28 = .ok (.astore_n 2, 1) := by decide +kernel
theorem dX15_layReadiness_29 : decode cX15_layReadiness 29 = .ok (.aload_n 0, 1) := by decide +kernel
theorem dX15_layReadiness_30 : decode cX15_layReadiness 30 = .ok (.getfield 67, 3) := by decide +kernel
theorem dX15_layReadiness_33 : decode cX15_layReadiness 33 = .ok (.aload_n 2, 1) := by decide +kernel
theorem dX15_layReadiness_34 : decode cX15_layReadiness 34 = .ok (.getfield 148, 3) := by decide +kernel
theorem dX15_layReadiness_37 : decode cX15_layReadiness 37 = .ok (.getfield 191, 3) := by decide +kernel
theorem dX15_layReadiness_40 : decode cX15_layReadiness 40 = .ok (.aload_n 2, 1) := by decide +kernel
theorem dX15_layReadiness_41 : decode cX15_layReadiness 41 = .ok (.getfield 398, 3) := by decide +kernel
theorem dX15_layReadiness_44 : decode cX15_layReadiness 44 = .ok (.iastore, 1) := by decide +kernel
theorem dX15_layReadiness_45 : decode cX15_layReadiness 45 = .ok (.goto (-35), 3) := by decide +kernel
theorem dX15_layReadiness_48 : decode cX15_layReadiness 48 = .ok (.return_, 1) := by decide +kernel
theorem dX15_iceOff_0 : decode cX15_iceOff 0 = .ok (.aload_n 0, 1) := by decide +kernel
theorem dX15_iceOff_1 : decode cX15_iceOff 1 = .ok (.invokevirtual 419, 3) := by decide +kernel
theorem dX15_iceOff_4 : decode cX15_iceOff 4 = .ok (.ifCond .ne 4, 3) := by decide +kernel
theorem dX15_iceOff_7 : decode cX15_iceOff 7 = .ok (.return_, 1) := by decide +kernel
theorem dX15_iceOff_8 : decode cX15_iceOff 8 = .ok (.iconst 0, 1) := by decide +kernel
theorem dX15_iceOff_9 : decode cX15_iceOff 9 = .ok (.istore_n 1, 1) := by decide +kernel
theorem dX15_iceOff_10 : decode cX15_iceOff 10 = .ok (.aload_n 0, 1) := by decide +kernel
theorem dX15_iceOff_11 : decode cX15_iceOff 11 = .ok (.getfield 18, 3) := by decide +kernel
theorem dX15_iceOff_14 : decode cX15_iceOff 14 = .ok (.invokeinterface 79 1, 5) := by decide +kernel
theorem dX15_iceOff_19 : decode cX15_iceOff 19 = .ok (.astore_n 2, 1) := by decide +kernel
theorem dX15_iceOff_20 : decode cX15_iceOff 20 = .ok (.aload_n 2, 1) := by decide +kernel
theorem dX15_iceOff_21 : decode cX15_iceOff 21 = .ok (.invokeinterface 85 1, 5) := by decide +kernel
theorem dX15_iceOff_26 : decode cX15_iceOff 26 = .ok (.ifCond .eq 44, 3) := by decide +kernel
theorem dX15_iceOff_29 : decode cX15_iceOff 29 = .ok (.aload_n 2, 1) := by decide +kernel
theorem dX15_iceOff_30 : decode cX15_iceOff 30 = .ok (.invokeinterface 91 1, 5) := by decide +kernel
theorem dX15_iceOff_35 : decode cX15_iceOff 35 = .ok (.checkcast 97, 3) := by decide +kernel
theorem dX15_iceOff_38 : decode cX15_iceOff 38 = .ok (.astore_n 3, 1) := by decide +kernel
theorem dX15_iceOff_39 : decode cX15_iceOff 39 = .ok (.iload_n 1, 1) := by decide +kernel
theorem dX15_iceOff_40 : decode cX15_iceOff 40 = .ok (.aload_n 3, 1) := by decide +kernel
theorem dX15_iceOff_41 : decode cX15_iceOff 41 = .ok (.getfield 194, 3) := by decide +kernel
theorem dX15_iceOff_44 : decode cX15_iceOff 44 = .ok (.bipush 100, 2) := by decide +kernel
theorem dX15_iceOff_46 : decode cX15_iceOff 46 = .ok (.if_icmp .ne 18, 3) := by decide +kernel
theorem dX15_iceOff_49 : decode cX15_iceOff 49 = .ok (.aload_n 3, 1) := by decide +kernel
theorem dX15_iceOff_50 : decode cX15_iceOff 50 = .ok (.aload_n 0, 1) := by decide +kernel
theorem dX15_iceOff_51 : decode cX15_iceOff 51 = .ok (.getfield 160, 3) := by decide +kernel
theorem dX15_iceOff_54 : decode cX15_iceOff 54 = .ok (.invokevirtual 422, 3) := by decide +kernel
theorem dX15_iceOff_57 : decode cX15_iceOff 57 = .ok (.ifCond .eq 7, 3) := by decide +kernel
theorem dX15_iceOff_60 : decode cX15_iceOff 60 = .ok (.iconst 1, 1) := by decide +kernel
theorem dX15_iceOff_61 : decode cX15_iceOff 61 = .ok (.goto 4, 3) := by decide +kernel
theorem dX15_iceOff_64 : decode cX15_iceOff 64 = .ok (.iconst 0, 1) := by decide +kernel
theorem dX15_iceOff_65 : decode cX15_iceOff 65 = .ok (.iadd, 1) := by decide +kernel
theorem dX15_iceOff_66 : decode cX15_iceOff 66 = .ok (.istore_n 1, 1) := by decide +kernel
theorem dX15_iceOff_67 : decode cX15_iceOff 67 = .ok (.goto (-47), 3) := by decide +kernel
theorem dX15_iceOff_70 : decode cX15_iceOff 70 = .ok (.aload_n 0, 1) := by decide +kernel
theorem dX15_iceOff_71 : decode cX15_iceOff 71 = .ok (.invokevirtual 425, 3) := by decide +kernel
theorem dX15_iceOff_74 : decode cX15_iceOff 74 = .ok (.aload_n 0, 1) := by decide +kernel
theorem dX15_iceOff_75 : decode cX15_iceOff 75 = .ok (.bipush 100, 2) := by decide +kernel
theorem dX15_iceOff_77 : decode cX15_iceOff 77 = .ok (.invokevirtual 277, 3) := by decide +kernel
theorem dX15_iceOff_80 : decode cX15_iceOff 80 = .ok (.invokeinterface 79 1, 5) := by decide +kernel
theorem dX15_iceOff_85 : decode cX15_iceOff 85 = .ok (.astore_n 2, 1) := by decide +kernel
theorem dX15_iceOff_86 : decode cX15_iceOff 86 = .ok (.aload_n 2, 1) := by decide +kernel
theorem dX15_iceOff_87 : decode cX15_iceOff 87 = .ok (.invokeinterface 85 1, 5) := by decide +kernel
theorem dX15_iceOff_92 : decode cX15_iceOff 92 = .ok (.ifCond .eq 100, 3) := by decide +kernel
theorem dX15_iceOff_95 : decode cX15_iceOff 95 = .ok (.aload_n 2, 1) := by decide +kernel
theorem dX15_iceOff_96 : decode cX15_iceOff 96 = .ok (.invokeinterface 91 1, 5) := by decide +kernel
theorem dX15_iceOff_101 : decode cX15_iceOff 101 = .ok (.checkcast 97, 3) := by decide +kernel
theorem dX15_iceOff_104 : decode cX15_iceOff 104 = .ok (.astore_n 3, 1) := by decide +kernel
theorem dX15_iceOff_105 : decode cX15_iceOff 105 = .ok (.aload_n 3, 1) := by decide +kernel
theorem dX15_iceOff_106 : decode cX15_iceOff 106 = .ok (.getfield 148, 3) := by decide +kernel
theorem dX15_iceOff_109 : decode cX15_iceOff 109 = .ok (.getfield 212, 3) := by decide +kernel
theorem dX15_iceOff_112 : decode cX15_iceOff 112 = .ok (.ifCond .ne 40, 3) := by decide +kernel
theorem dX15_iceOff_115 : decode cX15_iceOff 115 = .ok (.aload_n 3, 1) := by decide +kernel
theorem dX15_iceOff_116 : decode cX15_iceOff 116 = .ok (.getfield 398, 3) := by decide +kernel
theorem dX15_iceOff_119 : decode cX15_iceOff 119 = .ok (.aload_n 0, 1) := by decide +kernel
theorem dX15_iceOff_120 : decode cX15_iceOff 120 = .ok (.getfield 160, 3) := by decide +kernel
theorem dX15_iceOff_123 : decode cX15_iceOff 123 = .ok (.if_icmp .gt 29, 3) := by decide +kernel
theorem dX15_iceOff_126 : decode cX15_iceOff 126 = .ok (.aload_n 3, 1) := by decide +kernel
theorem dX15_iceOff_127 : decode cX15_iceOff 127 = .ok (.aload_n 0, 1) := by decide +kernel
theorem dX15_iceOff_128 : decode cX15_iceOff 128 = .ok (.getfield 160, 3) := by decide +kernel
theorem dX15_iceOff_131 : decode cX15_iceOff 131 = .ok (.invokevirtual 422, 3) := by decide +kernel
theorem dX15_iceOff_134 : decode cX15_iceOff 134 = .ok (.ifCond .ne 18, 3) := by decide +kernel
theorem dX15_iceOff_137 : decode cX15_iceOff 137 = .ok (.aload_n 3, 1) := by decide +kernel
theorem dX15_iceOff_138 : decode cX15_iceOff 138 = .ok (.aload_n 0, 1) := by decide +kernel
theorem dX15_iceOff_139 : decode cX15_iceOff 139 = .ok (.getfield 160, 3) := by decide +kernel
theorem dX15_iceOff_142 : decode cX15_iceOff 142 = .ok (.invokevirtual 428, 3) := by decide +kernel
theorem dX15_iceOff_145 : decode cX15_iceOff 145 = .ok (.ifCond .ne 7, 3) := by decide +kernel
theorem dX15_iceOff_148 : decode cX15_iceOff 148 = .ok (.iconst 1, 1) := by decide +kernel
theorem dX15_iceOff_149 : decode cX15_iceOff 149 = .ok (.goto 4, 3) := by decide +kernel
theorem dX15_iceOff_152 : decode cX15_iceOff 152 = .ok (.iconst 0, 1) := by decide +kernel
theorem dX15_iceOff_153 : decode cX15_iceOff 153 = .ok (.istore 4, 2) := by decide +kernel
theorem dX15_iceOff_155 : decode cX15_iceOff 155 = .ok (.iload 4, 2) := by decide +kernel
theorem dX15_iceOff_157 : decode cX15_iceOff 157 = .ok (.ifCond .eq 32, 3) := by decide +kernel
theorem dX15_iceOff_160 : decode cX15_iceOff 160 = .ok (.iload_n 1, 1) := by decide +kernel
theorem dX15_iceOff_161 : decode cX15_iceOff 161 = .ok (.aload_n 0, 1) := by decide +kernel
theorem dX15_iceOff_162 : decode cX15_iceOff 162 = .ok (.getfield 3, 3) := by decide +kernel
theorem dX15_iceOff_165 : decode cX15_iceOff 165 = .ok (.getfield 431, 3) := by decide +kernel
theorem dX15_iceOff_168 : decode cX15_iceOff 168 = .ok (.if_icmp .ge 21, 3) := by decide +kernel
theorem dX15_iceOff_171 : decode cX15_iceOff 171 = .ok (.aload_n 3, 1) := by decide +kernel
theorem dX15_iceOff_172 : decode cX15_iceOff 172 = .ok (.aload_n 0, 1) := by decide +kernel
theorem dX15_iceOff_173 : decode cX15_iceOff 173 = .ok (.getfield 160, 3) := by decide +kernel
theorem dX15_iceOff_176 : decode cX15_iceOff 176 = .ok (.putfield 434, 3) := by decide +kernel
theorem dX15_iceOff_179 : decode cX15_iceOff 179 = .ok (.iinc 1 1, 3) := by decide +kernel
theorem dX15_iceOff_182 : decode cX15_iceOff 182 = .ok (.aload_n 0, 1) := by decide +kernel
theorem dX15_iceOff_183 : decode cX15_iceOff 183 = .ok (.bipush 80, 2) := by decide +kernel
theorem dX15_iceOff_185 : decode cX15_iceOff 185 = .ok (.aload_n 3, 1) := by decide +kernel
theorem dX15_iceOff_186 : decode cX15_iceOff 186 = .ok (.invokevirtual 204, 3) := by decide +kernel
theorem dX15_iceOff_189 : decode cX15_iceOff 189 = .ok (.goto (-103), 3) := by decide +kernel
theorem dX15_iceOff_192 : decode cX15_iceOff 192 = .ok (.return_, 1) := by decide +kernel
theorem dX15_takeOff_0 : decode cX15_takeOff 0 = .ok (.aload_n 0, 1) := by decide +kernel
theorem dX15_takeOff_1 : decode cX15_takeOff 1 = .ok (.invokevirtual 425, 3) := by decide +kernel
theorem dX15_takeOff_4 : decode cX15_takeOff 4 = .ok (.aload_n 0, 1) := by decide +kernel
theorem dX15_takeOff_5 : decode cX15_takeOff 5 = .ok (.bipush 100, 2) := by decide +kernel
theorem dX15_takeOff_7 : decode cX15_takeOff 7 = .ok (.invokevirtual 277, 3) := by decide +kernel
theorem dX15_takeOff_10 : decode cX15_takeOff 10 = .ok (.invokeinterface 79 1, 5) := by decide +kernel
theorem dX15_takeOff_15 : decode cX15_takeOff 15 = .ok (.astore_n 1, 1) := by decide +kernel
theorem dX15_takeOff_16 : decode cX15_takeOff 16 = .ok (.aload_n 1, 1) := by decide +kernel
theorem dX15_takeOff_17 : decode cX15_takeOff 17 = .ok (.invokeinterface 85 1, 5) := by decide +kernel
theorem dX15_takeOff_22 : decode cX15_takeOff 22 = .ok (.ifCond .eq 126, 3) := by decide +kernel
theorem dX15_takeOff_25 : decode cX15_takeOff 25 = .ok (.aload_n 1, 1) := by decide +kernel
theorem dX15_takeOff_26 : decode cX15_takeOff 26 = .ok (.invokeinterface 91 1, 5) := by decide +kernel
theorem dX15_takeOff_31 : decode cX15_takeOff 31 = .ok (.checkcast 97, 3) := by decide +kernel
theorem dX15_takeOff_34 : decode cX15_takeOff 34 = .ok (.astore_n 2, 1) := by decide +kernel
theorem dX15_takeOff_35 : decode cX15_takeOff 35 = .ok (.aload_n 2, 1) := by decide +kernel
theorem dX15_takeOff_36 : decode cX15_takeOff 36 = .ok (.getfield 398, 3) := by decide +kernel
theorem dX15_takeOff_39 : decode cX15_takeOff 39 = .ok (.aload_n 0, 1) := by decide +kernel
theorem dX15_takeOff_40 : decode cX15_takeOff 40 = .ok (.getfield 160, 3) := by decide +kernel
theorem dX15_takeOff_43 : decode cX15_takeOff 43 = .ok (.if_icmp .gt 102, 3) := by decide +kernel
theorem dX15_takeOff_46 : decode cX15_takeOff 46 = .ok (.aload_n 2, 1) := by decide +kernel
theorem dX15_takeOff_47 : decode cX15_takeOff 47 = .ok (.getfield 148, 3) := by decide +kernel
theorem dX15_takeOff_50 : decode cX15_takeOff 50 = .ok (.getfield 212, 3) := by decide +kernel
theorem dX15_takeOff_53 : decode cX15_takeOff 53 = .ok (.ifCond .ne 11, 3) := by decide +kernel
theorem dX15_takeOff_56 : decode cX15_takeOff 56 = .ok (.aload_n 0, 1) := by decide +kernel
theorem dX15_takeOff_57 : decode cX15_takeOff 57 = .ok (.aload_n 2, 1) := by decide +kernel
theorem dX15_takeOff_58 : decode cX15_takeOff 58 = .ok (.invokevirtual 437, 3) := by decide +kernel
theorem dX15_takeOff_61 : decode cX15_takeOff 61 = .ok (.ifCond .eq 84, 3) := by decide +kernel
theorem dX15_takeOff_64 : decode cX15_takeOff 64 = .ok (.aload_n 2, 1) := by decide +kernel
theorem dX15_takeOff_65 : decode cX15_takeOff 65 = .ok (.getfield 148, 3) := by decide +kernel
theorem dX15_takeOff_68 : decode cX15_takeOff 68 = .ok (.astore_n 3, 1) := by decide +kernel
theorem dX15_takeOff_69 : decode cX15_takeOff 69 = .ok (.aload_n 2, 1) := by decide +kernel
theorem dX15_takeOff_70 : decode cX15_takeOff 70 = .ok (.bipush 97, 2) := by decide +kernel
theorem dX15_takeOff_72 : decode cX15_takeOff 72 = .ok (.putfield 194, 3) := by decide +kernel
theorem dX15_takeOff_75 : decode cX15_takeOff 75 = .ok (.aload_n 2, 1) := by decide +kernel
theorem dX15_takeOff_76 : decode cX15_takeOff 76 = .ok (.aload_n 0, 1) := by decide +kernel
theorem dX15_takeOff_77 : decode cX15_takeOff 77 = .ok (.getfield 160, 3) := by decide +kernel
theorem dX15_takeOff_80 : decode cX15_takeOff 80 = .ok (.putfield 271, 3) := by decide +kernel
theorem dX15_takeOff_83 : decode cX15_takeOff 83 = .ok (.aload_n 0, 1) := by decide +kernel
theorem dX15_takeOff_84 : decode cX15_takeOff 84 = .ok (.getfield 32, 3) := by decide +kernel
theorem dX15_takeOff_87 : decode cX15_takeOff 87 = .ok (.aload_n 3, 1) := by decide +kernel
theorem dX15_takeOff_88 : decode cX15_takeOff 88 = .ok (.getfield 233, 3) := by decide +kernel
theorem dX15_takeOff_91 : decode cX15_takeOff 91 = .ok (.dup2, 1) := by decide +kernel
theorem dX15_takeOff_92 : decode cX15_takeOff 92 = .ok (.iaload, 1) := by decide +kernel
theorem dX15_takeOff_93 : decode cX15_takeOff 93 = .ok (.aload_n 0, 1) := by decide +kernel
theorem dX15_takeOff_94 : decode cX15_takeOff 94 = .ok (.aload_n 3, 1) := by decide +kernel
theorem dX15_takeOff_95 : decode cX15_takeOff 95 = .ok (.invokevirtual 273, 3) := by decide +kernel
theorem dX15_takeOff_98 : decode cX15_takeOff 98 = .ok (.isub, 1) := by decide +kernel
theorem dX15_takeOff_99 : decode cX15_takeOff 99 = .ok (.iastore, 1) := by decide +kernel
theorem dX15_takeOff_100 : decode cX15_takeOff 100 = .ok (.aload_n 0, 1) := by decide +kernel
theorem dX15_takeOff_101 : decode cX15_takeOff 101 = .ok (.getfield 35, 3) := by decide +kernel
theorem dX15_takeOff_104 : decode cX15_takeOff 104 = .ok (.aload_n 3, 1) := by decide +kernel
theorem dX15_takeOff_105 : decode cX15_takeOff 105 = .ok (.getfield 233, 3) := by decide +kernel
theorem dX15_takeOff_108 : decode cX15_takeOff 108 = .ok (.dup2, 1) := by decide +kernel
theorem dX15_takeOff_109 : decode cX15_takeOff 109 = .ok (.iaload, 1) := by decide +kernel
theorem dX15_takeOff_110 : decode cX15_takeOff 110 = .ok (.iconst 1, 1) := by decide +kernel
theorem dX15_takeOff_111 : decode cX15_takeOff 111 = .ok (.isub, 1) := by decide +kernel
theorem dX15_takeOff_112 : decode cX15_takeOff 112 = .ok (.iastore, 1) := by decide +kernel
theorem dX15_takeOff_113 : decode cX15_takeOff 113 = .ok (.aload_n 0, 1) := by decide +kernel
theorem dX15_takeOff_114 : decode cX15_takeOff 114 = .ok (.getfield 50, 3) := by decide +kernel
theorem dX15_takeOff_117 : decode cX15_takeOff 117 = .ok (.aload_n 3, 1) := by decide +kernel
theorem dX15_takeOff_118 : decode cX15_takeOff 118 = .ok (.getfield 268, 3) := by decide +kernel
theorem dX15_takeOff_121 : decode cX15_takeOff 121 = .ok (.dup2, 1) := by decide +kernel
theorem dX15_takeOff_122 : decode cX15_takeOff 122 = .ok (.iaload, 1) := by decide +kernel
theorem dX15_takeOff_123 : decode cX15_takeOff 123 = .ok (.iconst 1, 1) := by decide +kernel
theorem dX15_takeOff_124 : decode cX15_takeOff 124 = .ok (.iadd, 1) := by decide +kernel
theorem dX15_takeOff_125 : decode cX15_takeOff 125 = .ok (.iastore, 1) := by decide +kernel
theorem dX15_takeOff_126 : decode cX15_takeOff 126 = .ok (.aload_n 3, 1) := by decide +kernel
theorem dX15_takeOff_127 : decode cX15_takeOff 127 = .ok (.getfield 212, 3) := by decide +kernel
theorem dX15_takeOff_130 : decode cX15_takeOff 130 = .ok (.ifCond .ne 8, 3) := by decide +kernel
theorem dX15_takeOff_133 : decode cX15_takeOff 133 = .ok (.aload_n 0, 1) := by decide +kernel
theorem dX15_takeOff_134 : decode cX15_takeOff 134 = .ok (.aload_n 2, 1) := by decide +kernel
theorem dX15_takeOff_135 : decode cX15_takeOff 135 = .ok (.invokevirtual 291, 3) := by decide +kernel
theorem dX15_takeOff_138 : decode cX15_takeOff 138 = .ok (.aload_n 0, 1) := by decide +kernel
theorem dX15_takeOff_139 : decode cX15_takeOff 139 = .ok (.bipush 84, 2) := by decide +kernel
theorem dX15_takeOff_141 : decode cX15_takeOff 141 = .ok (.aload_n 2, 1) := by decide +kernel
theorem dX15_takeOff_142 : decode cX15_takeOff 142 = .ok (.invokevirtual 204, 3) := by decide +kernel
theorem dX15_takeOff_145 : decode cX15_takeOff 145 = .ok (.goto (-129), 3) := by decide +kernel
theorem dX15_takeOff_148 : decode cX15_takeOff 148 = .ok (.return_, 1) := by decide +kernel
theorem dX15_bookAnew_0 : decode cX15_bookAnew 0 = .ok (.aload_n 0, 1) := by decide +kernel
theorem dX15_bookAnew_1 : decode cX15_bookAnew 1 = .ok (.getfield 22, 3) := by decide +kernel
theorem dX15_bookAnew_4 : decode cX15_bookAnew 4 = .ok (.invokeinterface 79 1, 5) := by decide +kernel
theorem dX15_bookAnew_9 : decode cX15_bookAnew 9 = .ok (.astore_n 1, 1) := by decide +kernel
theorem dX15_bookAnew_10 : decode cX15_bookAnew 10 = .ok (.aload_n 1, 1) := by decide +kernel
theorem dX15_bookAnew_11 : decode cX15_bookAnew 11 = .ok (.invokeinterface 85 1, 5) := by decide +kernel
theorem dX15_bookAnew_16 : decode cX15_bookAnew 16 = .ok (.ifCond .eq 58, 3) := by decide +kernel
theorem dX15_bookAnew_19 : decode cX15_bookAnew 19 = .ok (.aload_n 1, 1) := by decide +kernel
theorem dX15_bookAnew_20 : decode cX15_bookAnew 20 = .ok (.invokeinterface 91 1, 5) := by decide +kernel
theorem dX15_bookAnew_25 : decode cX15_bookAnew 25 = .ok (.checkcast 111, 3) := by decide +kernel
theorem dX15_bookAnew_28 : decode cX15_bookAnew 28 = .ok (.astore_n 2, 1) := by decide +kernel
theorem dX15_bookAnew_29 : decode cX15_bookAnew 29 = .ok (.aload_n 2, 1) := by decide +kernel
theorem dX15_bookAnew_30 : decode cX15_bookAnew 30 = .ok (.getfield 354, 3) := by decide +kernel
theorem dX15_bookAnew_33 : decode cX15_bookAnew 33 = .ok (.iconst (-1), 1) := by decide +kernel
theorem dX15_bookAnew_34 : decode cX15_bookAnew 34 = .ok (.if_icmp .eq 37, 3) := by decide +kernel
theorem dX15_bookAnew_37 : decode cX15_bookAnew 37 = .ok (.aload_n 0, 1) := by decide +kernel
theorem dX15_bookAnew_38 : decode cX15_bookAnew 38 = .ok (.getfield 18, 3) := by decide +kernel
theorem dX15_bookAnew_41 : decode cX15_bookAnew 41 = .ok (.aload_n 2, 1) := by decide +kernel
theorem dX15_bookAnew_42 : decode cX15_bookAnew 42 = .ok (.getfield 354, 3) := by decide +kernel
theorem dX15_bookAnew_45 : decode cX15_bookAnew 45 = .ok (.invokeinterface 126 2, 5) := by decide +kernel
theorem dX15_bookAnew_50 : decode cX15_bookAnew 50 = .ok (.checkcast 97, 3) := by decide +kernel
theorem dX15_bookAnew_53 : decode cX15_bookAnew 53 = .ok (.getfield 201, 3) := by decide +kernel
theorem dX15_bookAnew_56 : decode cX15_bookAnew 56 = .ok (.aload_n 0, 1) := by decide +kernel
theorem dX15_bookAnew_57 : decode cX15_bookAnew 57 = .ok (.getfield 160, 3) := by decide +kernel
theorem dX15_bookAnew_60 : decode cX15_bookAnew 60 = .ok (.if_icmp .ne 11, 3) := by decide +kernel
theorem dX15_bookAnew_63 : decode cX15_bookAnew 63 = .ok (.aload_n 2, 1) := by decide +kernel
theorem dX15_bookAnew_64 : decode cX15_bookAnew 64 = .ok (.aload_n 2, 1) := by decide +kernel
theorem dX15_bookAnew_65 : decode cX15_bookAnew 65 = .ok (.getfield 354, 3) := by decide +kernel
theorem dX15_bookAnew_68 : decode cX15_bookAnew 68 = .ok (.putfield 395, 3) := by decide +kernel
theorem dX15_bookAnew_71 : decode cX15_bookAnew 71 = .ok (.goto (-61), 3) := by decide +kernel
theorem dX15_bookAnew_74 : decode cX15_bookAnew 74 = .ok (.aload_n 0, 1) := by decide +kernel
theorem dX15_bookAnew_75 : decode cX15_bookAnew 75 = .ok (.getfield 73, 3) := by decide +kernel
theorem dX15_bookAnew_78 : decode cX15_bookAnew 78 = .ok (.invokeinterface 79 1, 5) := by decide +kernel
theorem dX15_bookAnew_83 : decode cX15_bookAnew 83 = .ok (.astore_n 1, 1) := by decide +kernel
theorem dX15_bookAnew_84 : decode cX15_bookAnew 84 = .ok (.aload_n 1, 1) := by decide +kernel
theorem dX15_bookAnew_85 : decode cX15_bookAnew 85 = .ok (.invokeinterface 85 1, 5) := by decide +kernel
theorem dX15_bookAnew_90 : decode cX15_bookAnew 90 = .ok (.ifCond .eq 70, 3) := by decide +kernel
theorem dX15_bookAnew_93 : decode cX15_bookAnew 93 = .ok (.aload_n 1, 1) := by decide +kernel
theorem dX15_bookAnew_94 : decode cX15_bookAnew 94 = .ok (.invokeinterface 91 1, 5) := by decide +kernel
theorem dX15_bookAnew_99 : decode cX15_bookAnew 99 = .ok (.checkcast 111, 3) := by decide +kernel
theorem dX15_bookAnew_102 : decode cX15_bookAnew 102 = .ok (.astore_n 2, 1) := by decide +kernel
theorem dX15_bookAnew_103 : decode cX15_bookAnew 103 = .ok (.aload_n 2, 1) := by decide +kernel
theorem dX15_bookAnew_104 : decode cX15_bookAnew 104 = .ok (.getfield 395, 3) := by decide +kernel
theorem dX15_bookAnew_107 : decode cX15_bookAnew 107 = .ok (.iconst (-1), 1) := by decide +kernel
theorem dX15_bookAnew_108 : decode cX15_bookAnew 108 = .ok (.if_icmp .eq 49, 3) := by decide +kernel
theorem dX15_bookAnew_111 : decode cX15_bookAnew 111 = .ok (.aload_n 2, 1) := by decide +kernel
theorem dX15_bookAnew_112 : decode cX15_bookAnew 112 = .ok (.getfield 456, 3) := by decide +kernel
theorem dX15_bookAnew_115 : decode cX15_bookAnew 115 = .ok (.ifCond .ne 42, 3) := by decide +kernel
theorem dX15_bookAnew_118 : decode cX15_bookAnew 118 = .ok (.aload_n 0, 1) := by decide +kernel
theorem dX15_bookAnew_119 : decode cX15_bookAnew 119 = .ok (.aload_n 2, 1) := by decide +kernel
theorem dX15_bookAnew_120 : decode cX15_bookAnew 120 = .ok (.invokevirtual 459, 3) := by decide +kernel
theorem dX15_bookAnew_123 : decode cX15_bookAnew 123 = .ok (.ifCond .eq 34, 3) := by decide +kernel
theorem dX15_bookAnew_126 : decode cX15_bookAnew 126 = .ok (.aload_n 2, 1) := by decide +kernel
theorem dX15_bookAnew_127 : decode cX15_bookAnew 127 = .ok (.aload_n 0, 1) := by decide +kernel
theorem dX15_bookAnew_128 : decode cX15_bookAnew 128 = .ok (.aload_n 2, 1) := by decide +kernel
theorem dX15_bookAnew_129 : decode cX15_bookAnew 129 = .ok (.invokevirtual 463, 3) := by decide +kernel
theorem dX15_bookAnew_132 : decode cX15_bookAnew 132 = .ok (.putfield 354, 3) := by decide +kernel
theorem dX15_bookAnew_135 : decode cX15_bookAnew 135 = .ok (.aload_n 2, 1) := by decide +kernel
theorem dX15_bookAnew_136 : decode cX15_bookAnew 136 = .ok (.iconst 1, 1) := by decide +kernel
theorem dX15_bookAnew_137 : decode cX15_bookAnew 137 = .ok (.putfield 401, 3) := by decide +kernel
theorem dX15_bookAnew_140 : decode cX15_bookAnew 140 = .ok (.aload_n 2, 1) := by decide +kernel
theorem dX15_bookAnew_141 : decode cX15_bookAnew 141 = .ok (.aload_n 2, 1) := by decide +kernel
theorem dX15_bookAnew_142 : decode cX15_bookAnew 142 = .ok (.getfield 354, 3) := by decide +kernel
theorem dX15_bookAnew_145 : decode cX15_bookAnew 145 = .ok (.iconst (-1), 1) := by decide +kernel
theorem dX15_bookAnew_146 : decode cX15_bookAnew 146 = .ok (.if_icmp .ne 7, 3) := by decide +kernel
theorem dX15_bookAnew_149 : decode cX15_bookAnew 149 = .ok (.iconst 1, 1) := by decide +kernel
theorem dX15_bookAnew_150 : decode cX15_bookAnew 150 = .ok (.goto 4, 3) := by decide +kernel
theorem dX15_bookAnew_153 : decode cX15_bookAnew 153 = .ok (.iconst 0, 1) := by decide +kernel
theorem dX15_bookAnew_154 : decode cX15_bookAnew 154 = .ok (.putfield 456, 3) := by decide +kernel
theorem dX15_bookAnew_157 : decode cX15_bookAnew 157 = .ok (.goto (-73), 3) := by decide +kernel
theorem dX15_bookAnew_160 : decode cX15_bookAnew 160 = .ok (.return_, 1) := by decide +kernel
theorem dX15_harm_0 : decode cX15_harm 0 = .ok (.iconst 0, 1) := by decide +kernel
theorem dX15_harm_1 : decode cX15_harm 1 = .ok (.istore_n 1, 1) := by decide +kernel
theorem dX15_harm_2 : decode cX15_harm 2 = .ok (.aload_n 0, 1) := by decide +kernel
theorem dX15_harm_3 : decode cX15_harm 3 = .ok (.getfield 22, 3) := by decide +kernel
theorem dX15_harm_6 : decode cX15_harm 6 = .ok (.invokeinterface 79 1, 5) := by decide +kernel
theorem dX15_harm_11 : decode cX15_harm 11 = .ok (.astore_n 2, 1) := by decide +kernel
theorem dX15_harm_12 : decode cX15_harm 12 = .ok (.aload_n 2, 1) := by decide +kernel
theorem dX15_harm_13 : decode cX15_harm 13 = .ok (.invokeinterface 85 1, 5) := by decide +kernel
theorem dX15_harm_18 : decode cX15_harm 18 = .ok (.ifCond .eq 32, 3) := by decide +kernel
theorem dX15_harm_21 : decode cX15_harm 21 = .ok (.aload_n 2, 1) := by decide +kernel
theorem dX15_harm_22 : decode cX15_harm 22 = .ok (.invokeinterface 91 1, 5) := by decide +kernel
theorem dX15_harm_27 : decode cX15_harm 27 = .ok (.checkcast 111, 3) := by decide +kernel
theorem dX15_harm_30 : decode cX15_harm 30 = .ok (.astore_n 3, 1) := by decide +kernel
theorem dX15_harm_31 : decode cX15_harm 31 = .ok (.iload_n 1, 1) := by decide +kernel
theorem dX15_harm_32 : decode cX15_harm 32 = .ok (.aload_n 3, 1) := by decide +kernel
theorem dX15_harm_33 : decode cX15_harm 33 = .ok (.getfield 366, 3) := by decide +kernel
theorem dX15_harm_36 : decode cX15_harm 36 = .ok (.getfield 382, 3) := by decide +kernel
theorem dX15_harm_39 : decode cX15_harm 39 = .ok (.aload_n 0, 1) := by decide +kernel
theorem dX15_harm_40 : decode cX15_harm 40 = .ok (.aload_n 3, 1) := by decide +kernel
theorem dX15_harm_41 : decode cX15_harm 41 = .ok (.invokevirtual 486, 3) := by decide +kernel
theorem dX15_harm_44 : decode cX15_harm 44 = .ok (.imul, 1) := by decide +kernel
theorem dX15_harm_45 : decode cX15_harm 45 = .ok (.iadd, 1) := by decide +kernel
theorem dX15_harm_46 : decode cX15_harm 46 = .ok (.istore_n 1, 1) := by decide +kernel
theorem dX15_harm_47 : decode cX15_harm 47 = .ok (.goto (-35), 3) := by decide +kernel
theorem dX15_harm_50 : decode cX15_harm 50 = .ok (.aload_n 0, 1) := by decide +kernel
theorem dX15_harm_51 : decode cX15_harm 51 = .ok (.getfield 18, 3) := by decide +kernel
theorem dX15_harm_54 : decode cX15_harm 54 = .ok (.invokeinterface 79 1, 5) := by decide +kernel
theorem dX15_harm_59 : decode cX15_harm 59 = .ok (.astore_n 2, 1) := by decide +kernel
theorem dX15_harm_60 : decode cX15_harm 60 = .ok (.aload_n 2, 1) := by decide +kernel
theorem dX15_harm_61 : decode cX15_harm 61 = .ok (.invokeinterface 85 1, 5) := by decide +kernel
theorem dX15_harm_66 : decode cX15_harm 66 = .ok (.ifCond .eq 35, 3) := by decide +kernel
theorem dX15_harm_69 : decode cX15_harm 69 = .ok (.aload_n 2, 1) := by decide +kernel
theorem dX15_harm_70 : decode cX15_harm 70 = .ok (.invokeinterface 91 1, 5) := by decide +kernel
theorem dX15_harm_75 : decode cX15_harm 75 = .ok (.checkcast 97, 3) := by decide +kernel
theorem dX15_harm_78 : decode cX15_harm 78 = .ok (.astore_n 3, 1) := by decide +kernel
theorem dX15_harm_79 : decode cX15_harm 79 = .ok (.iload_n 1, 1) := by decide +kernel
theorem dX15_harm_80 : decode cX15_harm 80 = .ok (.aload_n 3, 1) := by decide +kernel
theorem dX15_harm_81 : decode cX15_harm 81 = .ok (.getfield 194, 3) := by decide +kernel
theorem dX15_harm_84 : decode cX15_harm 84 = .ok (.bipush 120, 2) := by decide +kernel
theorem dX15_harm_86 : decode cX15_harm 86 = .ok (.if_icmp .ne 9, 3) := by decide +kernel
theorem dX15_harm_89 : decode cX15_harm 89 = .ok (.sipush 3000, 3) := by decide +kernel
theorem dX15_harm_92 : decode cX15_harm 92 = .ok (.goto 4, 3) := by decide +kernel
theorem dX15_harm_95 : decode cX15_harm 95 = .ok (.iconst 0, 1) := by decide +kernel
theorem dX15_harm_96 : decode cX15_harm 96 = .ok (.iadd, 1) := by decide +kernel
theorem dX15_harm_97 : decode cX15_harm 97 = .ok (.istore_n 1, 1) := by decide +kernel
theorem dX15_harm_98 : decode cX15_harm 98 = .ok (.goto (-38), 3) := by decide +kernel
theorem dX15_harm_101 : decode cX15_harm 101 = .ok (.iload_n 1, 1) := by decide +kernel
theorem dX15_harm_102 : decode cX15_harm 102 = .ok (.ireturn, 1) := by decide +kernel
theorem dX15_paid_0 : decode cX15_paid 0 = .ok (.iconst 0, 1) := by decide +kernel
theorem dX15_paid_1 : decode cX15_paid 1 = .ok (.istore_n 1, 1) := by decide +kernel
theorem dX15_paid_2 : decode cX15_paid 2 = .ok (.aload_n 0, 1) := by decide +kernel
theorem dX15_paid_3 : decode cX15_paid 3 = .ok (.getfield 22, 3) := by decide +kernel
theorem dX15_paid_6 : decode cX15_paid 6 = .ok (.invokeinterface 79 1, 5) := by decide +kernel
theorem dX15_paid_11 : decode cX15_paid 11 = .ok (.astore_n 2, 1) := by decide +kernel
theorem dX15_paid_12 : decode cX15_paid 12 = .ok (.aload_n 2, 1) := by decide +kernel
theorem dX15_paid_13 : decode cX15_paid 13 = .ok (.invokeinterface 85 1, 5) := by decide +kernel
theorem dX15_paid_18 : decode cX15_paid 18 = .ok (.ifCond .eq 145, 3) := by decide +kernel
theorem dX15_paid_21 : decode cX15_paid 21 = .ok (.aload_n 2, 1) := by decide +kernel
theorem dX15_paid_22 : decode cX15_paid 22 = .ok (.invokeinterface 91 1, 5) := by decide +kernel
theorem dX15_paid_27 : decode cX15_paid 27 = .ok (.checkcast 111, 3) := by decide +kernel
theorem dX15_paid_30 : decode cX15_paid 30 = .ok (.astore_n 3, 1) := by decide +kernel
theorem dX15_paid_31 : decode cX15_paid 31 = .ok (.aload_n 3, 1) := by decide +kernel
theorem dX15_paid_32 : decode cX15_paid 32 = .ok (.getfield 456, 3) := by decide +kernel
theorem dX15_paid_35 : decode cX15_paid 35 = .ok (.ifCond .eq 10, 3) := by decide +kernel
theorem dX15_paid_38 : decode cX15_paid 38 = .ok (.aload_n 3, 1) := by decide +kernel
theorem dX15_paid_39 : decode cX15_paid 39 = .ok (.getfield 395, 3) := by decide +kernel
theorem dX15_paid_42 : decode cX15_paid 42 = .ok (.goto 7, 3) := by decide +kernel
theorem dX15_paid_45 : decode cX15_paid 45 = .ok (.aload_n 3, 1) := by decide +kernel
theorem dX15_paid_46 : decode cX15_paid 46 = .ok (.getfield 348, 3) := by decide +kernel
theorem dX15_paid_49 : decode cX15_paid 49 = .ok (.istore 4, 2) := by decide +kernel
theorem dX15_paid_51 : decode cX15_paid 51 = .ok (.iload 4, 2) := by decide +kernel
theorem dX15_paid_53 : decode cX15_paid 53 = .ok (.iconst (-1), 1) := by decide +kernel
theorem dX15_paid_54 : decode cX15_paid 54 = .ok (.if_icmp .eq 69, 3) := by decide +kernel
theorem dX15_paid_57 : decode cX15_paid 57 = .ok (.aload_n 0, 1) := by decide +kernel
theorem dX15_paid_58 : decode cX15_paid 58 = .ok (.getfield 18, 3) := by decide +kernel
theorem dX15_paid_61 : decode cX15_paid 61 = .ok (.iload 4, 2) := by decide +kernel
theorem dX15_paid_63 : decode cX15_paid 63 = .ok (.invokeinterface 126 2, 5) := by decide +kernel
theorem dX15_paid_68 : decode cX15_paid 68 = .ok (.checkcast 97, 3) := by decide +kernel
theorem dX15_paid_71 : decode cX15_paid 71 = .ok (.getfield 271, 3) := by decide +kernel
theorem dX15_paid_74 : decode cX15_paid 74 = .ok (.iconst (-1), 1) := by decide +kernel
theorem dX15_paid_75 : decode cX15_paid 75 = .ok (.if_icmp .ne 25, 3) := by decide +kernel
theorem dX15_paid_78 : decode cX15_paid 78 = .ok (.aload_n 0, 1) := by decide +kernel
theorem dX15_paid_79 : decode cX15_paid 79 = .ok (.getfield 18, 3) := by decide +kernel
theorem dX15_paid_82 : decode cX15_paid 82 = .ok (.iload 4, 2) := by decide +kernel
theorem dX15_paid_84 : decode cX15_paid 84 = .ok (.invokeinterface 126 2, 5) := by decide +kernel
theorem dX15_paid_89 : decode cX15_paid 89 = .ok (.checkcast 97, 3) := by decide +kernel
theorem dX15_paid_92 : decode cX15_paid 92 = .ok (.getfield 194, 3) := by decide +kernel
theorem dX15_paid_95 : decode cX15_paid 95 = .ok (.bipush 120, 2) := by decide +kernel
theorem dX15_paid_97 : decode cX15_paid 97 = .ok (.if_icmp .ne 26, 3) := by decide +kernel
theorem dX15_paid_100 : decode cX15_paid 100 = .ok (.ldc_w 489, 3) := by decide +kernel
theorem dX15_paid_103 : decode cX15_paid 103 = .ok (.aload_n 0, 1) := by decide +kernel
theorem dX15_paid_104 : decode cX15_paid 104 = .ok (.aload_n 0, 1) := by decide +kernel
theorem dX15_paid_105 : decode cX15_paid 105 = .ok (.iload 4, 2) := by decide +kernel
theorem dX15_paid_107 : decode cX15_paid 107 = .ok (.invokevirtual 491, 3) := by decide +kernel
theorem dX15_paid_110 : decode cX15_paid 110 = .ok (.invokevirtual 480, 3) := by decide +kernel
theorem dX15_paid_113 : decode cX15_paid 113 = .ok (.invokevirtual 224, 3) := by decide +kernel
theorem dX15_paid_116 : decode cX15_paid 116 = .ok (.ifCond .lt 7, 3) := by decide +kernel
theorem dX15_paid_119 : decode cX15_paid 119 = .ok (.iconst 1, 1) := by decide +kernel
theorem dX15_paid_120 : decode cX15_paid 120 = .ok (.goto 4, 3) := by decide +kernel
theorem dX15_paid_123 : decode cX15_paid 123 = .ok (.iconst 0, 1) := by decide +kernel
theorem dX15_paid_124 : decode cX15_paid 124 = .ok (.istore 5, 2) := by decide +kernel
theorem dX15_paid_126 : decode cX15_paid 126 = .ok (.iload_n 1, 1) := by decide +kernel
theorem dX15_paid_127 : decode cX15_paid 127 = .ok (.aload_n 0, 1) := by decide +kernel
theorem dX15_paid_128 : decode cX15_paid 128 = .ok (.aload_n 3, 1) := by decide +kernel
theorem dX15_paid_129 : decode cX15_paid 129 = .ok (.invokevirtual 486, 3) := by decide +kernel
theorem dX15_paid_132 : decode cX15_paid 132 = .ok (.sipush 180, 3) := by decide +kernel
theorem dX15_paid_135 : decode cX15_paid 135 = .ok (.if_icmp .lt 22, 3) := by decide +kernel
theorem dX15_paid_138 : decode cX15_paid 138 = .ok (.iload 5, 2) := by decide +kernel
theorem dX15_paid_140 : decode cX15_paid 140 = .ok (.ifCond .ne 17, 3) := by decide +kernel
theorem dX15_paid_143 : decode cX15_paid 143 = .ok (.sipush 250, 3) := by decide +kernel
theorem dX15_paid_146 : decode cX15_paid 146 = .ok (.aload_n 3, 1) := by decide +kernel
theorem dX15_paid_147 : decode cX15_paid 147 = .ok (.getfield 366, 3) := by decide +kernel
theorem dX15_paid_150 : decode cX15_paid 150 = .ok (.getfield 382, 3) := by decide +kernel
theorem dX15_paid_153 : decode cX15_paid 153 = .ok (.imul, 1) := by decide +kernel
theorem dX15_paid_154 : decode cX15_paid 154 = .ok (.goto 4, 3) := by decide +kernel
theorem dX15_paid_157 : decode cX15_paid 157 = .ok (.iconst 0, 1) := by decide +kernel
theorem dX15_paid_158 : decode cX15_paid 158 = .ok (.iadd, 1) := by decide +kernel
theorem dX15_paid_159 : decode cX15_paid 159 = .ok (.istore_n 1, 1) := by decide +kernel
theorem dX15_paid_160 : decode cX15_paid 160 = .ok (.goto (-148), 3) := by decide +kernel
theorem dX15_paid_163 : decode cX15_paid 163 = .ok (.iload_n 1, 1) := by decide +kernel
theorem dX15_paid_164 : decode cX15_paid 164 = .ok (.ireturn, 1) := by decide +kernel
theorem dX12_init_0 : decode cX12_init 0 = .ok (.aload_n 0, 1) := by decide +kernel
theorem dX12_init_1 : decode cX12_init 1 = .ok (.invokespecial 1, 3) := by decide +kernel
theorem dX12_init_4 : decode cX12_init 4 = .ok (.aload_n 0, 1) := by decide +kernel
theorem dX12_init_5 : decode cX12_init 5 = .ok (.iload_n 1, 1) := by decide +kernel
theorem dX12_init_6 : decode cX12_init 6 = .ok (.putfield 7, 3) := by decide +kernel
theorem dX12_init_9 : decode cX12_init 9 = .ok (.aload_n 0, 1) := by decide +kernel
theorem dX12_init_10 : decode cX12_init 10 = .ok (.iload_n 2, 1) := by decide +kernel
theorem dX12_init_11 : decode cX12_init 11 = .ok (.putfield 13, 3) := by decide +kernel
theorem dX12_init_14 : decode cX12_init 14 = .ok (.aload_n 0, 1) := by decide +kernel
theorem dX12_init_15 : decode cX12_init 15 = .ok (.iload_n 3, 1) := by decide +kernel
theorem dX12_init_16 : decode cX12_init 16 = .ok (.putfield 16, 3) := by decide +kernel
theorem dX12_init_19 : decode cX12_init 19 = .ok (.aload_n 0, 1) := by decide +kernel
theorem dX12_init_20 : decode cX12_init 20 = .ok (.iload 4, 2) := by decide +kernel
theorem dX12_init_22 : decode cX12_init 22 = .ok (.putfield 19, 3) := by decide +kernel
theorem dX12_init_25 : decode cX12_init 25 = .ok (.aload_n 0, 1) := by decide +kernel
theorem dX12_init_26 : decode cX12_init 26 = .ok (.iload 5, 2) := by decide +kernel
theorem dX12_init_28 : decode cX12_init 28 = .ok (.putfield 22, 3) := by decide +kernel
theorem dX12_init_31 : decode cX12_init 31 = .ok (.aload_n 0, 1) := by decide +kernel
theorem dX12_init_32 : decode cX12_init 32 = .ok (.iload 6, 2) := by decide +kernel
theorem dX12_init_34 : decode cX12_init 34 = .ok (.putfield 25, 3) := by decide +kernel
theorem dX12_init_37 : decode cX12_init 37 = .ok (.return_, 1) := by decide +kernel
theorem dX14_init_0 : decode cX14_init 0 = .ok (.aload_n 0, 1) := by decide +kernel
theorem dX14_init_1 : decode cX14_init 1 = .ok (.invokespecial 1, 3) := by decide +kernel
theorem dX14_init_4 : decode cX14_init 4 = .ok (.aload_n 0, 1) := by decide +kernel
theorem dX14_init_5 : decode cX14_init 5 = .ok (.iload_n 1, 1) := by decide +kernel
theorem dX14_init_6 : decode cX14_init 6 = .ok (.putfield 7, 3) := by decide +kernel
theorem dX14_init_9 : decode cX14_init 9 = .ok (.aload_n 0, 1) := by decide +kernel
theorem dX14_init_10 : decode cX14_init 10 = .ok (.iload_n 2, 1) := by decide +kernel
theorem dX14_init_11 : decode cX14_init 11 = .ok (.putfield 13, 3) := by decide +kernel
theorem dX14_init_14 : decode cX14_init 14 = .ok (.aload_n 0, 1) := by decide +kernel
theorem dX14_init_15 : decode cX14_init 15 = .ok (.iload_n 3, 1) := by decide +kernel
theorem dX14_init_16 : decode cX14_init 16 = .ok (.putfield 16, 3) := by decide +kernel
theorem dX14_init_19 : decode cX14_init 19 = .ok (.aload_n 0, 1) := by decide +kernel
theorem dX14_init_20 : decode cX14_init 20 = .ok (.iload 4, 2) := by decide +kernel
theorem dX14_init_22 : decode cX14_init 22 = .ok (.putfield 19, 3) := by decide +kernel
theorem dX14_init_25 : decode cX14_init 25 = .ok (.return_, 1) := by decide +kernel
theorem dJ5_init_d00df_0 : decode cJ5_init_d00df 0 = .ok (.aload_n 0, 1) := by decide +kernel
theorem dJ5_init_d00df_1 : decode cJ5_init_d00df 1 = .ok (.invokespecial 3, 3) := by decide +kernel
theorem dJ5_init_d00df_4 : decode cJ5_init_d00df 4 = .ok (.getstatic 18, 3) := by decide +kernel
theorem dJ5_init_d00df_7 : decode cJ5_init_d00df 7 = .ok (.ifCond .eq 18, 3) := by decide +kernel
theorem dJ5_init_d00df_10 : decode cJ5_init_d00df 10 = .ok (.aload_n 0, 1) := by decide +kernel
theorem dJ5_init_d00df_11 : decode cJ5_init_d00df 11 = .ok (.iload_n 1, 1) := by decide +kernel
theorem dJ5_init_d00df_12 : decode cJ5_init_d00df 12 = .ok (.newarray .byte, 2) := by decide +kernel
theorem dJ5_init_d00df_14 : decode cJ5_init_d00df 14 = .ok (.putfield 15, 3) := by decide +kernel
theorem dJ5_init_d00df_17 : decode cJ5_init_d00df 17 = .ok (.aload_n 0, 1) := by decide +kernel
theorem dJ5_init_d00df_18 : decode cJ5_init_d00df 18 = .ok (.iconst 0, 1) := by decide +kernel
theorem dJ5_init_d00df_19 : decode cJ5_init_d00df 19 = .ok (.putfield 22, 3) := by decide +kernel
theorem dJ5_init_d00df_22 : decode cJ5_init_d00df 22 = .ok (.goto 16, 3) := by decide +kernel
theorem dJ5_init_d00df_25 : decode cJ5_init_d00df 25 = .ok (.aload_n 0, 1) := by decide +kernel
theorem dJ5_init_d00df_26 : decode cJ5_init_d00df 26 = .ok (.iload_n 1, 1) := by decide +kernel
theorem dJ5_init_d00df_27 : decode cJ5_init_d00df 27 = .ok (.invokestatic 26, 3) := by decide +kernel
theorem dJ5_init_d00df_30 : decode cJ5_init_d00df 30 = .ok (.putfield 15, 3) := by decide +kernel
theorem dJ5_init_d00df_33 : decode cJ5_init_d00df 33 = .ok (.aload_n 0, 1) := by decide +kernel
theorem dJ5_init_d00df_34 : decode cJ5_init_d00df 34 = .ok (.iconst 1, 1) := by decide +kernel
theorem dJ5_init_d00df_35 : decode cJ5_init_d00df 35 = .ok (.putfield 22, 3) := by decide +kernel
theorem dJ5_init_d00df_38 : decode cJ5_init_d00df 38 = .ok (.return_, 1) := by decide +kernel
theorem dJ5_length_8abf5_0 : decode cJ5_length_8abf5 0 = .ok (.aload_n 0, 1) := by decide +kernel
theorem dJ5_length_8abf5_1 : decode cJ5_length_8abf5 1 = .ok (.getfield 79, 3) := by decide +kernel
theorem dJ5_length_8abf5_4 : decode cJ5_length_8abf5 4 = .ok (.ireturn, 1) := by decide +kernel
theorem dJ6_valueOf_2dffe_0 : decode cJ6_valueOf_2dffe 0 = .ok (.iload_n 0, 1) := by decide +kernel
theorem dJ6_valueOf_2dffe_1 : decode cJ6_valueOf_2dffe 1 = .ok (.bipush (-128), 2) := by decide +kernel
theorem dJ6_valueOf_2dffe_3 : decode cJ6_valueOf_2dffe 3 = .ok (.if_icmp .lt 20, 3) := by decide +kernel
theorem dJ6_valueOf_2dffe_6 : decode cJ6_valueOf_2dffe 6 = .ok (.iload_n 0, 1) := by decide +kernel
theorem dJ6_valueOf_2dffe_7 : decode cJ6_valueOf_2dffe 7 = .ok (.getstatic 191, 3) := by decide +kernel
theorem dJ6_valueOf_2dffe_10 : decode cJ6_valueOf_2dffe 10 = .ok (.if_icmp .gt 13, 3) := by decide +kernel
theorem dJ6_valueOf_2dffe_13 : decode cJ6_valueOf_2dffe 13 = .ok (.getstatic 195, 3) := by decide +kernel
theorem dJ6_valueOf_2dffe_16 : decode cJ6_valueOf_2dffe 16 = .ok (.iload_n 0, 1) := by decide +kernel
theorem dJ6_valueOf_2dffe_17 : decode cJ6_valueOf_2dffe 17 = .ok (.sipush 128, 3) := by decide +kernel
theorem dJ6_valueOf_2dffe_20 : decode cJ6_valueOf_2dffe 20 = .ok (.iadd, 1) := by decide +kernel
theorem dJ6_valueOf_2dffe_21 : decode cJ6_valueOf_2dffe 21 = .ok (.aaload, 1) := by decide +kernel
theorem dJ6_valueOf_2dffe_22 : decode cJ6_valueOf_2dffe 22 = .ok (.areturn, 1) := by decide +kernel
theorem dJ6_valueOf_2dffe_23 : decode cJ6_valueOf_2dffe 23 = .ok (.new 1, 3) := by decide +kernel
theorem dJ6_valueOf_2dffe_26 : decode cJ6_valueOf_2dffe 26 = .ok (.dup, 1) := by decide +kernel
theorem dJ6_valueOf_2dffe_27 : decode cJ6_valueOf_2dffe 27 = .ok (.iload_n 0, 1) := by decide +kernel
theorem dJ6_valueOf_2dffe_28 : decode cJ6_valueOf_2dffe 28 = .ok (.invokespecial 199, 3) := by decide +kernel
theorem dJ6_valueOf_2dffe_31 : decode cJ6_valueOf_2dffe 31 = .ok (.areturn, 1) := by decide +kernel
theorem dJ6_init_d00df_0 : decode cJ6_init_d00df 0 = .ok (.aload_n 0, 1) := by decide +kernel
theorem dJ6_init_d00df_1 : decode cJ6_init_d00df 1 = .ok (.invokespecial 202, 3) := by decide +kernel
theorem dJ6_init_d00df_4 : decode cJ6_init_d00df 4 = .ok (.aload_n 0, 1) := by decide +kernel
theorem dJ6_init_d00df_5 : decode cJ6_init_d00df 5 = .ok (.iload_n 1, 1) := by decide +kernel
theorem dJ6_init_d00df_6 : decode cJ6_init_d00df 6 = .ok (.putfield 205, 3) := by decide +kernel
theorem dJ6_init_d00df_9 : decode cJ6_init_d00df 9 = .ok (.return_, 1) := by decide +kernel
theorem dJ6_bitCount_0f7a4_0 : decode cJ6_bitCount_0f7a4 0 = .ok (.iload_n 0, 1) := by decide +kernel
theorem dJ6_bitCount_0f7a4_1 : decode cJ6_bitCount_0f7a4 1 = .ok (.iload_n 0, 1) := by decide +kernel
theorem dJ6_bitCount_0f7a4_2 : decode cJ6_bitCount_0f7a4 2 = .ok (.iconst 1, 1) := by decide +kernel
theorem dJ6_bitCount_0f7a4_3 : decode cJ6_bitCount_0f7a4 3 = .ok (.iushr, 1) := by decide +kernel
theorem dJ6_bitCount_0f7a4_4 : decode cJ6_bitCount_0f7a4 4 = .ok (.ldc_w 265, 3) := by decide +kernel
theorem dJ6_bitCount_0f7a4_7 : decode cJ6_bitCount_0f7a4 7 = .ok (.iand, 1) := by decide +kernel
theorem dJ6_bitCount_0f7a4_8 : decode cJ6_bitCount_0f7a4 8 = .ok (.isub, 1) := by decide +kernel
theorem dJ6_bitCount_0f7a4_9 : decode cJ6_bitCount_0f7a4 9 = .ok (.istore_n 0, 1) := by decide +kernel
theorem dJ6_bitCount_0f7a4_10 : decode cJ6_bitCount_0f7a4 10 = .ok (.iload_n 0, 1) := by decide +kernel
theorem dJ6_bitCount_0f7a4_11 : decode cJ6_bitCount_0f7a4 11 = .ok (.ldc_w 266, 3) := by decide +kernel
theorem dJ6_bitCount_0f7a4_14 : decode cJ6_bitCount_0f7a4 14 = .ok (.iand, 1) := by decide +kernel
theorem dJ6_bitCount_0f7a4_15 : decode cJ6_bitCount_0f7a4 15 = .ok (.iload_n 0, 1) := by decide +kernel
theorem dJ6_bitCount_0f7a4_16 : decode cJ6_bitCount_0f7a4 16 = .ok (.iconst 2, 1) := by decide +kernel
theorem dJ6_bitCount_0f7a4_17 : decode cJ6_bitCount_0f7a4 17 = .ok (.iushr, 1) := by decide +kernel
theorem dJ6_bitCount_0f7a4_18 : decode cJ6_bitCount_0f7a4 18 = .ok (.ldc_w 266, 3) := by decide +kernel
theorem dJ6_bitCount_0f7a4_21 : decode cJ6_bitCount_0f7a4 21 = .ok (.iand, 1) := by decide +kernel
theorem dJ6_bitCount_0f7a4_22 : decode cJ6_bitCount_0f7a4 22 = .ok (.iadd, 1) := by decide +kernel
theorem dJ6_bitCount_0f7a4_23 : decode cJ6_bitCount_0f7a4 23 = .ok (.istore_n 0, 1) := by decide +kernel
theorem dJ6_bitCount_0f7a4_24 : decode cJ6_bitCount_0f7a4 24 = .ok (.iload_n 0, 1) := by decide +kernel
theorem dJ6_bitCount_0f7a4_25 : decode cJ6_bitCount_0f7a4 25 = .ok (.iload_n 0, 1) := by decide +kernel
theorem dJ6_bitCount_0f7a4_26 : decode cJ6_bitCount_0f7a4 26 = .ok (.iconst 4, 1) := by decide +kernel
theorem dJ6_bitCount_0f7a4_27 : decode cJ6_bitCount_0f7a4 27 = .ok (.iushr, 1) := by decide +kernel
theorem dJ6_bitCount_0f7a4_28 : decode cJ6_bitCount_0f7a4 28 = .ok (.iadd, 1) := by decide +kernel
theorem dJ6_bitCount_0f7a4_29 : decode cJ6_bitCount_0f7a4 29 = .ok (.ldc_w 267, 3) := by decide +kernel
theorem dJ6_bitCount_0f7a4_32 : decode cJ6_bitCount_0f7a4 32 = .ok (.iand, 1) := by decide +kernel
theorem dJ6_bitCount_0f7a4_33 : decode cJ6_bitCount_0f7a4 33 = .ok (.istore_n 0, 1) := by decide +kernel
theorem dJ6_bitCount_0f7a4_34 : decode cJ6_bitCount_0f7a4 34 = .ok (.iload_n 0, 1) := by decide +kernel
theorem dJ6_bitCount_0f7a4_35 : decode cJ6_bitCount_0f7a4 35 = .ok (.iload_n 0, 1) := by decide +kernel
theorem dJ6_bitCount_0f7a4_36 : decode cJ6_bitCount_0f7a4 36 = .ok (.bipush 8, 2) := by decide +kernel
theorem dJ6_bitCount_0f7a4_38 : decode cJ6_bitCount_0f7a4 38 = .ok (.iushr, 1) := by decide +kernel
theorem dJ6_bitCount_0f7a4_39 : decode cJ6_bitCount_0f7a4 39 = .ok (.iadd, 1) := by decide +kernel
theorem dJ6_bitCount_0f7a4_40 : decode cJ6_bitCount_0f7a4 40 = .ok (.istore_n 0, 1) := by decide +kernel
theorem dJ6_bitCount_0f7a4_41 : decode cJ6_bitCount_0f7a4 41 = .ok (.iload_n 0, 1) := by decide +kernel
theorem dJ6_bitCount_0f7a4_42 : decode cJ6_bitCount_0f7a4 42 = .ok (.iload_n 0, 1) := by decide +kernel
theorem dJ6_bitCount_0f7a4_43 : decode cJ6_bitCount_0f7a4 43 = .ok (.bipush 16, 2) := by decide +kernel
theorem dJ6_bitCount_0f7a4_45 : decode cJ6_bitCount_0f7a4 45 = .ok (.iushr, 1) := by decide +kernel
theorem dJ6_bitCount_0f7a4_46 : decode cJ6_bitCount_0f7a4 46 = .ok (.iadd, 1) := by decide +kernel
theorem dJ6_bitCount_0f7a4_47 : decode cJ6_bitCount_0f7a4 47 = .ok (.istore_n 0, 1) := by decide +kernel
theorem dJ6_bitCount_0f7a4_48 : decode cJ6_bitCount_0f7a4 48 = .ok (.iload_n 0, 1) := by decide +kernel
theorem dJ6_bitCount_0f7a4_49 : decode cJ6_bitCount_0f7a4 49 = .ok (.bipush 63, 2) := by decide +kernel
theorem dJ6_bitCount_0f7a4_51 : decode cJ6_bitCount_0f7a4 51 = .ok (.iand, 1) := by decide +kernel
theorem dJ6_bitCount_0f7a4_52 : decode cJ6_bitCount_0f7a4 52 = .ok (.ireturn, 1) := by decide +kernel
theorem dJxd2413_init_da8c8_0 : decode cJxd2413_init_da8c8 0 = .ok (.aload_n 0, 1) := by decide +kernel
theorem dJxd2413_init_da8c8_1 : decode cJxd2413_init_da8c8 1 = .ok (.invokespecial 1, 3) := by decide +kernel
theorem dJxd2413_init_da8c8_4 : decode cJxd2413_init_da8c8 4 = .ok (.return_, 1) := by decide +kernel
theorem dJ4_init_da8c8_0 : decode cJ4_init_da8c8 0 = .ok (.aload_n 0, 1) := by decide +kernel
theorem dJ4_init_da8c8_1 : decode cJ4_init_da8c8 1 = .ok (.bipush 16, 2) := by decide +kernel
theorem dJ4_init_da8c8_3 : decode cJ4_init_da8c8 3 = .ok (.invokespecial 1, 3) := by decide +kernel
theorem dJ4_init_da8c8_6 : decode cJ4_init_da8c8 6 = .ok (.return_, 1) := by decide +kernel
theorem dJ4_length_8abf5_0 : decode cJ4_length_8abf5 0 = .ok (.aload_n 0, 1) := by decide +kernel
theorem dJ4_length_8abf5_1 : decode cJ4_length_8abf5 1 = .ok (.invokespecial 343, 3) := by decide +kernel
theorem dJ4_length_8abf5_4 : decode cJ4_length_8abf5 4 = .ok (.ireturn, 1) := by decide +kernel
theorem dJxa1e45_init_da8c8_0 : decode cJxa1e45_init_da8c8 0 = .ok (.aload_n 0, 1) := by decide +kernel
theorem dJxa1e45_init_da8c8_1 : decode cJxa1e45_init_da8c8 1 = .ok (.invokespecial 1, 3) := by decide +kernel
theorem dJxa1e45_init_da8c8_4 : decode cJxa1e45_init_da8c8 4 = .ok (.return_, 1) := by decide +kernel
theorem dJxc12de_init_da8c8_0 : decode cJxc12de_init_da8c8 0 = .ok (.aload_n 0, 1) := by decide +kernel
theorem dJxc12de_init_da8c8_1 : decode cJxc12de_init_da8c8 1 = .ok (.invokespecial 1, 3) := by decide +kernel
theorem dJxc12de_init_da8c8_4 : decode cJxc12de_init_da8c8 4 = .ok (.aload_n 0, 1) := by decide +kernel
theorem dJxc12de_init_da8c8_5 : decode cJxc12de_init_da8c8 5 = .ok (.iconst 0, 1) := by decide +kernel
theorem dJxc12de_init_da8c8_6 : decode cJxc12de_init_da8c8 6 = .ok (.putfield 7, 3) := by decide +kernel
theorem dJxc12de_init_da8c8_9 : decode cJxc12de_init_da8c8 9 = .ok (.return_, 1) := by decide +kernel
theorem dJx35411_init_45d68_0 : decode cJx35411_init_45d68 0 = .ok (.aload_n 0, 1) := by decide +kernel
theorem dJx35411_init_45d68_1 : decode cJx35411_init_45d68 1 = .ok (.aload_n 1, 1) := by decide +kernel
theorem dJx35411_init_45d68_2 : decode cJx35411_init_45d68 2 = .ok (.putfield 1, 3) := by decide +kernel
theorem dJx35411_init_45d68_5 : decode cJx35411_init_45d68 5 = .ok (.aload_n 0, 1) := by decide +kernel
theorem dJx35411_init_45d68_6 : decode cJx35411_init_45d68 6 = .ok (.invokespecial 7, 3) := by decide +kernel
theorem dJx35411_init_45d68_9 : decode cJx35411_init_45d68 9 = .ok (.aload_n 0, 1) := by decide +kernel
theorem dJx35411_init_45d68_10 : decode cJx35411_init_45d68 10 = .ok (.iconst (-1), 1) := by decide +kernel
theorem dJx35411_init_45d68_11 : decode cJx35411_init_45d68 11 = .ok (.putfield 13, 3) := by decide +kernel
theorem dJx35411_init_45d68_14 : decode cJx35411_init_45d68 14 = .ok (.aload_n 0, 1) := by decide +kernel
theorem dJx35411_init_45d68_15 : decode cJx35411_init_45d68 15 = .ok (.aload_n 0, 1) := by decide +kernel
theorem dJx35411_init_45d68_16 : decode cJx35411_init_45d68 16 = .ok (.getfield 1, 3) := by decide +kernel
theorem dJx35411_init_45d68_19 : decode cJx35411_init_45d68 19 = .ok (.getfield 17, 3) := by decide +kernel
theorem dJx35411_init_45d68_22 : decode cJx35411_init_45d68 22 = .ok (.putfield 22, 3) := by decide +kernel
theorem dJx35411_init_45d68_25 : decode cJx35411_init_45d68 25 = .ok (.return_, 1) := by decide +kernel
theorem dJx35411_hasNext_aae02_0 : decode cJx35411_hasNext_aae02 0 = .ok (.aload_n 0, 1) := by decide +kernel
theorem dJx35411_hasNext_aae02_1 : decode cJx35411_hasNext_aae02 1 = .ok (.getfield 25, 3) := by decide +kernel
theorem dJx35411_hasNext_aae02_4 : decode cJx35411_hasNext_aae02 4 = .ok (.aload_n 0, 1) := by decide +kernel
theorem dJx35411_hasNext_aae02_5 : decode cJx35411_hasNext_aae02 5 = .ok (.getfield 1, 3) := by decide +kernel
theorem dJx35411_hasNext_aae02_8 : decode cJx35411_hasNext_aae02 8 = .ok (.getfield 28, 3) := by decide +kernel
theorem dJx35411_hasNext_aae02_11 : decode cJx35411_hasNext_aae02 11 = .ok (.if_icmp .eq 7, 3) := by decide +kernel
theorem dJx35411_hasNext_aae02_14 : decode cJx35411_hasNext_aae02 14 = .ok (.iconst 1, 1) := by decide +kernel
theorem dJx35411_hasNext_aae02_15 : decode cJx35411_hasNext_aae02 15 = .ok (.goto 4, 3) := by decide +kernel
theorem dJx35411_hasNext_aae02_18 : decode cJx35411_hasNext_aae02 18 = .ok (.iconst 0, 1) := by decide +kernel
theorem dJx35411_hasNext_aae02_19 : decode cJx35411_hasNext_aae02 19 = .ok (.ireturn, 1) := by decide +kernel
theorem dJx4a65c_init_da8c8_0 : decode cJx4a65c_init_da8c8 0 = .ok (.aload_n 0, 1) := by decide +kernel
theorem dJx4a65c_init_da8c8_1 : decode cJx4a65c_init_da8c8 1 = .ok (.invokespecial 1, 3) := by decide +kernel
theorem dJx4a65c_init_da8c8_4 : decode cJx4a65c_init_da8c8 4 = .ok (.aload_n 0, 1) := by decide +kernel
theorem dJx4a65c_init_da8c8_5 : decode cJx4a65c_init_da8c8 5 = .ok (.getstatic 39, 3) := by decide +kernel
theorem dJx4a65c_init_da8c8_8 : decode cJx4a65c_init_da8c8 8 = .ok (.putfield 9, 3) := by decide +kernel
theorem dJx4a65c_init_da8c8_11 : decode cJx4a65c_init_da8c8 11 = .ok (.return_, 1) := by decide +kernel
theorem dJx4a65c_grow_92f84_0 : decode cJx4a65c_grow_92f84 0 = .ok (.aload_n 0, 1) := by decide +kernel
theorem dJx4a65c_grow_92f84_1 : decode cJx4a65c_grow_92f84 1 = .ok (.getfield 9, 3) := by decide +kernel
theorem dJx4a65c_grow_92f84_4 : decode cJx4a65c_grow_92f84 4 = .ok (.arraylength, 1) := by decide +kernel
theorem dJx4a65c_grow_92f84_5 : decode cJx4a65c_grow_92f84 5 = .ok (.istore_n 2, 1) := by decide +kernel
theorem dJx4a65c_grow_92f84_6 : decode cJx4a65c_grow_92f84 6 = .ok (.iload_n 2, 1) := by decide +kernel
theorem dJx4a65c_grow_92f84_7 : decode cJx4a65c_grow_92f84 7 = .ok (.ifCond .gt 13, 3) := by decide +kernel
theorem dJx4a65c_grow_92f84_10 : decode cJx4a65c_grow_92f84 10 = .ok (.aload_n 0, 1) := by decide +kernel
theorem dJx4a65c_grow_92f84_11 : decode cJx4a65c_grow_92f84 11 = .ok (.getfield 9, 3) := by decide +kernel
theorem dJx4a65c_grow_92f84_14 : decode cJx4a65c_grow_92f84 14 = .ok (.getstatic 39, 3) := by decide +kernel
theorem dJx4a65c_grow_92f84_17 : decode cJx4a65c_grow_92f84 17 = .ok (.if_acmp .eq 28, 3) := by decide +kernel
theorem dJx4a65c_grow_92f84_20 : decode cJx4a65c_grow_92f84 20 = .ok (.iload_n 2, 1) := by decide +kernel
theorem dJx4a65c_grow_92f84_21 : decode cJx4a65c_grow_92f84 21 = .ok (.iload_n 1, 1) := by decide +kernel
theorem dJx4a65c_grow_92f84_22 : decode cJx4a65c_grow_92f84 22 = .ok (.iload_n 2, 1) := by decide +kernel
theorem dJx4a65c_grow_92f84_23 : decode cJx4a65c_grow_92f84 23 = .ok (.isub, 1) := by decide +kernel
theorem dJx4a65c_grow_92f84_24 : decode cJx4a65c_grow_92f84 24 = .ok (.iload_n 2, 1) := by decide +kernel
theorem dJx4a65c_grow_92f84_25 : decode cJx4a65c_grow_92f84 25 = .ok (.iconst 1, 1) := by decide +kernel
theorem dJx4a65c_grow_92f84_26 : decode cJx4a65c_grow_92f84 26 = .ok (.ishr, 1) := by decide +kernel
theorem dJx4a65c_grow_92f84_27 : decode cJx4a65c_grow_92f84 27 = .ok (.invokestatic 73, 3) := by decide +kernel
theorem dJx4a65c_grow_92f84_30 : decode cJx4a65c_grow_92f84 30 = .ok (.istore_n 3, 1) := by decide +kernel
theorem dJx4a65c_grow_92f84_31 : decode cJx4a65c_grow_92f84 31 = .ok (.aload_n 0, 1) := by decide +kernel
theorem dJx4a65c_grow_92f84_32 : decode cJx4a65c_grow_92f84 32 = .ok (.aload_n 0, 1) := by decide +kernel
theorem dJx4a65c_grow_92f84_33 : decode cJx4a65c_grow_92f84 33 = .ok (.getfield 9, 3) := by decide +kernel
theorem dJx4a65c_grow_92f84_36 : decode cJx4a65c_grow_92f84 36 = .ok (.iload_n 3, 1) := by decide +kernel
theorem dJx4a65c_grow_92f84_37 : decode cJx4a65c_grow_92f84 37 = .ok (.invokestatic 66, 3) := by decide +kernel
theorem dJx4a65c_grow_92f84_40 : decode cJx4a65c_grow_92f84 40 = .ok (.dup_x1, 1) := by decide +kernel
theorem dJx4a65c_grow_92f84_41 : decode cJx4a65c_grow_92f84 41 = .ok (.putfield 9, 3) := by decide +kernel
theorem dJx4a65c_grow_92f84_44 : decode cJx4a65c_grow_92f84 44 = .ok (.areturn, 1) := by decide +kernel
theorem dJx4a65c_grow_92f84_45 : decode cJx4a65c_grow_92f84 45 = .ok (.aload_n 0, 1) := by decide +kernel
theorem dJx4a65c_grow_92f84_46 : decode cJx4a65c_grow_92f84 46 = .ok (.bipush 10, 2) := by decide +kernel
theorem dJx4a65c_grow_92f84_48 : decode cJx4a65c_grow_92f84 48 = .ok (.iload_n 1, 1) := by decide +kernel
theorem dJx4a65c_grow_92f84_49 : decode cJx4a65c_grow_92f84 49 = .ok (.invokestatic 79, 3) := by decide +kernel
theorem dJx4a65c_grow_92f84_52 : decode cJx4a65c_grow_92f84 52 = .ok (.anewarray 7, 3) := by decide +kernel
theorem dJx4a65c_grow_92f84_55 : decode cJx4a65c_grow_92f84 55 = .ok (.dup_x1, 1) := by decide +kernel
theorem dJx4a65c_grow_92f84_56 : decode cJx4a65c_grow_92f84 56 = .ok (.putfield 9, 3) := by decide +kernel
theorem dJx4a65c_grow_92f84_59 : decode cJx4a65c_grow_92f84 59 = .ok (.areturn, 1) := by decide +kernel
theorem dJx4a65c_grow_d5877_0 : decode cJx4a65c_grow_d5877 0 = .ok (.aload_n 0, 1) := by decide +kernel
theorem dJx4a65c_grow_d5877_1 : decode cJx4a65c_grow_d5877 1 = .ok (.aload_n 0, 1) := by decide +kernel
theorem dJx4a65c_grow_d5877_2 : decode cJx4a65c_grow_d5877 2 = .ok (.getfield 48, 3) := by decide +kernel
theorem dJx4a65c_grow_d5877_5 : decode cJx4a65c_grow_d5877 5 = .ok (.iconst 1, 1) := by decide +kernel
theorem dJx4a65c_grow_d5877_6 : decode cJx4a65c_grow_d5877 6 = .ok (.iadd, 1) := by decide +kernel
theorem dJx4a65c_grow_d5877_7 : decode cJx4a65c_grow_d5877 7 = .ok (.invokevirtual 69, 3) := by decide +kernel
theorem dJx4a65c_grow_d5877_10 : decode cJx4a65c_grow_d5877 10 = .ok (.areturn, 1) := by decide +kernel
theorem dJx4a65c_size_8abf5_0 : decode cJx4a65c_size_8abf5 0 = .ok (.aload_n 0, 1) := by decide +kernel
theorem dJx4a65c_size_8abf5_1 : decode cJx4a65c_size_8abf5 1 = .ok (.getfield 48, 3) := by decide +kernel
theorem dJx4a65c_size_8abf5_4 : decode cJx4a65c_size_8abf5 4 = .ok (.ireturn, 1) := by decide +kernel
theorem dJx4a65c_isEmpty_aae02_0 : decode cJx4a65c_isEmpty_aae02 0 = .ok (.aload_n 0, 1) := by decide +kernel
theorem dJx4a65c_isEmpty_aae02_1 : decode cJx4a65c_isEmpty_aae02 1 = .ok (.getfield 48, 3) := by decide +kernel
theorem dJx4a65c_isEmpty_aae02_4 : decode cJx4a65c_isEmpty_aae02 4 = .ok (.ifCond .ne 7, 3) := by decide +kernel
theorem dJx4a65c_isEmpty_aae02_7 : decode cJx4a65c_isEmpty_aae02 7 = .ok (.iconst 1, 1) := by decide +kernel
theorem dJx4a65c_isEmpty_aae02_8 : decode cJx4a65c_isEmpty_aae02 8 = .ok (.goto 4, 3) := by decide +kernel
theorem dJx4a65c_isEmpty_aae02_11 : decode cJx4a65c_isEmpty_aae02 11 = .ok (.iconst 0, 1) := by decide +kernel
theorem dJx4a65c_isEmpty_aae02_12 : decode cJx4a65c_isEmpty_aae02 12 = .ok (.ireturn, 1) := by decide +kernel
theorem dJx4a65c_add_72be8_0 : decode cJx4a65c_add_72be8 0 = .ok (.iload_n 3, 1) := by decide +kernel
theorem dJx4a65c_add_72be8_1 : decode cJx4a65c_add_72be8 1 = .ok (.aload_n 2, 1) := by decide +kernel
theorem dJx4a65c_add_72be8_2 : decode cJx4a65c_add_72be8 2 = .ok (.arraylength, 1) := by decide +kernel
theorem dJx4a65c_add_72be8_3 : decode cJx4a65c_add_72be8 3 = .ok (.if_icmp .ne 8, 3) := by decide +kernel
theorem dJx4a65c_add_72be8_6 : decode cJx4a65c_add_72be8 6 = .ok (.aload_n 0, 1) := by decide +kernel
theorem dJx4a65c_add_72be8_7 : decode cJx4a65c_add_72be8 7 = .ok (.invokevirtual 129, 3) := by decide +kernel
theorem dJx4a65c_add_72be8_10 : decode cJx4a65c_add_72be8 10 = .ok (.astore_n 2, 1) := by decide +kernel
theorem dJx4a65c_add_72be8_11 : decode cJx4a65c_add_72be8 11 = .ok (.aload_n 2, 1) := by decide +kernel
theorem dJx4a65c_add_72be8_12 : decode cJx4a65c_add_72be8 12 = .ok (.iload_n 3, 1) := by decide +kernel
theorem dJx4a65c_add_72be8_13 : decode cJx4a65c_add_72be8 13 = .ok (.aload_n 1, 1) := by decide +kernel
theorem dJx4a65c_add_72be8_14 : decode cJx4a65c_add_72be8 14 = .ok (.aastore, 1) := by decide +kernel
theorem dJx4a65c_add_72be8_15 : decode cJx4a65c_add_72be8 15 = .ok (.aload_n 0, 1) := by decide +kernel
theorem dJx4a65c_add_72be8_16 : decode cJx4a65c_add_72be8 16 = .ok (.iload_n 3, 1) := by decide +kernel
theorem dJx4a65c_add_72be8_17 : decode cJx4a65c_add_72be8 17 = .ok (.iconst 1, 1) := by decide +kernel
theorem dJx4a65c_add_72be8_18 : decode cJx4a65c_add_72be8 18 = .ok (.iadd, 1) := by decide +kernel
theorem dJx4a65c_add_72be8_19 : decode cJx4a65c_add_72be8 19 = .ok (.putfield 48, 3) := by decide +kernel
theorem dJx4a65c_add_72be8_22 : decode cJx4a65c_add_72be8 22 = .ok (.return_, 1) := by decide +kernel
theorem dJx4a65c_add_9ea2d_0 : decode cJx4a65c_add_9ea2d 0 = .ok (.aload_n 0, 1) := by decide +kernel
theorem dJx4a65c_add_9ea2d_1 : decode cJx4a65c_add_9ea2d 1 = .ok (.dup, 1) := by decide +kernel
theorem dJx4a65c_add_9ea2d_2 : decode cJx4a65c_add_9ea2d 2 = .ok (.getfield 63, 3) := by decide +kernel
theorem dJx4a65c_add_9ea2d_5 : decode cJx4a65c_add_9ea2d 5 = .ok (.iconst 1, 1) := by decide +kernel
theorem dJx4a65c_add_9ea2d_6 : decode cJx4a65c_add_9ea2d 6 = .ok (.iadd, 1) := by decide +kernel
theorem dJx4a65c_add_9ea2d_7 : decode cJx4a65c_add_9ea2d 7 = .ok (.putfield 63, 3) := by decide +kernel
theorem dJx4a65c_add_9ea2d_10 : decode cJx4a65c_add_9ea2d 10 = .ok (.aload_n 0, 1) := by decide +kernel
theorem dJx4a65c_add_9ea2d_11 : decode cJx4a65c_add_9ea2d 11 = .ok (.aload_n 1, 1) := by decide +kernel
theorem dJx4a65c_add_9ea2d_12 : decode cJx4a65c_add_9ea2d 12 = .ok (.aload_n 0, 1) := by decide +kernel
theorem dJx4a65c_add_9ea2d_13 : decode cJx4a65c_add_9ea2d 13 = .ok (.getfield 9, 3) := by decide +kernel
theorem dJx4a65c_add_9ea2d_16 : decode cJx4a65c_add_9ea2d 16 = .ok (.aload_n 0, 1) := by decide +kernel
theorem dJx4a65c_add_9ea2d_17 : decode cJx4a65c_add_9ea2d 17 = .ok (.getfield 48, 3) := by decide +kernel
theorem dJx4a65c_add_9ea2d_20 : decode cJx4a65c_add_9ea2d 20 = .ok (.invokevirtual 131, 3) := by decide +kernel
theorem dJx4a65c_add_9ea2d_23 : decode cJx4a65c_add_9ea2d 23 = .ok (.iconst 1, 1) := by decide +kernel
theorem dJx4a65c_add_9ea2d_24 : decode cJx4a65c_add_9ea2d 24 = .ok (.ireturn, 1) := by decide +kernel
theorem dJx4a65c_clear_da8c8_0 : decode cJx4a65c_clear_da8c8 0 = .ok (.aload_n 0, 1) := by decide +kernel
theorem dJx4a65c_clear_da8c8_1 : decode cJx4a65c_clear_da8c8 1 = .ok (.dup, 1) := by decide +kernel
theorem dJx4a65c_clear_da8c8_2 : decode cJx4a65c_clear_da8c8 2 = .ok (.getfield 63, 3) := by decide +kernel
theorem dJx4a65c_clear_da8c8_5 : decode cJx4a65c_clear_da8c8 5 = .ok (.iconst 1, 1) := by decide +kernel
theorem dJx4a65c_clear_da8c8_6 : decode cJx4a65c_clear_da8c8 6 = .ok (.iadd, 1) := by decide +kernel
theorem dJx4a65c_clear_da8c8_7 : decode cJx4a65c_clear_da8c8 7 = .ok (.putfield 63, 3) := by decide +kernel
theorem dJx4a65c_clear_da8c8_10 : decode cJx4a65c_clear_da8c8 10 = .ok (.aload_n 0, 1) := by decide +kernel
theorem dJx4a65c_clear_da8c8_11 : decode cJx4a65c_clear_da8c8 11 = .ok (.getfield 9, 3) := by decide +kernel
theorem dJx4a65c_clear_da8c8_14 : decode cJx4a65c_clear_da8c8 14 = .ok (.astore_n 1, 1) := by decide +kernel
theorem dJx4a65c_clear_da8c8_15 : decode cJx4a65c_clear_da8c8 15 = .ok (.aload_n 0, 1) := by decide +kernel
theorem dJx4a65c_clear_da8c8_16 : decode cJx4a65c_clear_da8c8 16 = .ok (.getfield 48, 3) := by decide +kernel
theorem dJx4a65c_clear_da8c8_19 : decode cJx4a65c_clear_da8c8 19 = .ok (.istore_n 2, 1) := by decide +kernel
theorem dJx4a65c_clear_da8c8_20 : decode cJx4a65c_clear_da8c8 20 = .ok (.aload_n 0, 1) := by decide +kernel
theorem dJx4a65c_clear_da8c8_21 : decode cJx4a65c_clear_da8c8 21 = .ok (.iconst 0, 1) := by decide +kernel
theorem dJx4a65c_clear_da8c8_22 : decode cJx4a65c_clear_da8c8 22 = .ok (.dup_x1, 1) := by decide +kernel
theorem dJx4a65c_clear_da8c8_23 : decode cJx4a65c_clear_da8c8 23 = .ok (.putfield 48, 3) := by decide +kernel
theorem dJx4a65c_clear_da8c8_26 : decode cJx4a65c_clear_da8c8 26 = .ok (.istore_n 3, 1) := by decide +kernel
theorem dJx4a65c_clear_da8c8_27 : decode cJx4a65c_clear_da8c8 27 = .ok (.iload_n 3, 1) := by decide +kernel
theorem dJx4a65c_clear_da8c8_28 : decode cJx4a65c_clear_da8c8 28 = .ok (.iload_n 2, 1) := by decide +kernel
theorem dJx4a65c_clear_da8c8_29 : decode cJx4a65c_clear_da8c8 29 = .ok (.if_icmp .ge 13, 3) := by decide +kernel
theorem dJx4a65c_clear_da8c8_32 : decode cJx4a65c_clear_da8c8 32 = .ok (.aload_n 1, 1) := by decide +kernel
theorem dJx4a65c_clear_da8c8_33 : decode cJx4a65c_clear_da8c8 33 = .ok (.iload_n 3, 1) := by decide +kernel
theorem dJx4a65c_clear_da8c8_34 : decode cJx4a65c_clear_da8c8 34 = .ok (.aconst_null, 1) := by decide +kernel
theorem dJx4a65c_clear_da8c8_35 : decode cJx4a65c_clear_da8c8 35 = .ok (.aastore, 1) := by decide +kernel
theorem dJx4a65c_clear_da8c8_36 : decode cJx4a65c_clear_da8c8 36 = .ok (.iinc 3 1, 3) := by decide +kernel
theorem dJx4a65c_clear_da8c8_39 : decode cJx4a65c_clear_da8c8 39 = .ok (.goto (-12), 3) := by decide +kernel
theorem dJx4a65c_clear_da8c8_42 : decode cJx4a65c_clear_da8c8 42 = .ok (.return_, 1) := by decide +kernel
theorem dJx4a65c_iterator_32c93_0 : decode cJx4a65c_iterator_32c93 0 = .ok (.new 267, 3) := by decide +kernel
theorem dJx4a65c_iterator_32c93_3 : decode cJx4a65c_iterator_32c93 3 = .ok (.dup, 1) := by decide +kernel
theorem dJx4a65c_iterator_32c93_4 : decode cJx4a65c_iterator_32c93 4 = .ok (.aload_n 0, 1) := by decide +kernel
theorem dJx4a65c_iterator_32c93_5 : decode cJx4a65c_iterator_32c93 5 = .ok (.invokespecial 269, 3) := by decide +kernel
theorem dJx4a65c_iterator_32c93_8 : decode cJx4a65c_iterator_32c93 8 = .ok (.areturn, 1) := by decide +kernel
theorem dJ7_fill_53178_0 : decode cJ7_fill_53178 0 = .ok (.iconst 0, 1) := by decide +kernel
theorem dJ7_fill_53178_1 : decode cJ7_fill_53178 1 = .ok (.istore_n 2, 1) := by decide +kernel
theorem dJ7_fill_53178_2 : decode cJ7_fill_53178 2 = .ok (.aload_n 0, 1) := by decide +kernel
theorem dJ7_fill_53178_3 : decode cJ7_fill_53178 3 = .ok (.arraylength, 1) := by decide +kernel
theorem dJ7_fill_53178_4 : decode cJ7_fill_53178 4 = .ok (.istore_n 3, 1) := by decide +kernel
theorem dJ7_fill_53178_5 : decode cJ7_fill_53178 5 = .ok (.iload_n 2, 1) := by decide +kernel
theorem dJ7_fill_53178_6 : decode cJ7_fill_53178 6 = .ok (.iload_n 3, 1) := by decide +kernel
theorem dJ7_fill_53178_7 : decode cJ7_fill_53178 7 = .ok (.if_icmp .ge 13, 3) := by decide +kernel
theorem dJ7_fill_53178_10 : decode cJ7_fill_53178 10 = .ok (.aload_n 0, 1) := by decide +kernel
theorem dJ7_fill_53178_11 : decode cJ7_fill_53178 11 = .ok (.iload_n 2, 1) := by decide +kernel
theorem dJ7_fill_53178_12 : decode cJ7_fill_53178 12 = .ok (.iload_n 1, 1) := by decide +kernel
theorem dJ7_fill_53178_13 : decode cJ7_fill_53178 13 = .ok (.iastore, 1) := by decide +kernel
theorem dJ7_fill_53178_14 : decode cJ7_fill_53178 14 = .ok (.iinc 2 1, 3) := by decide +kernel
theorem dJ7_fill_53178_17 : decode cJ7_fill_53178 17 = .ok (.goto (-12), 3) := by decide +kernel
theorem dJ7_fill_53178_20 : decode cJ7_fill_53178 20 = .ok (.return_, 1) := by decide +kernel
theorem dL_fly_0 : decode cL_fly 0 = .ok (.aload 4, 2) := by decide +kernel
theorem dL_fly_2 : decode cL_fly 2 = .ok (.iconst 0, 1) := by decide +kernel
theorem dL_fly_3 : decode cL_fly 3 = .ok (.aload_n 0, 1) := by decide +kernel
theorem dL_fly_4 : decode cL_fly 4 = .ok (.iload_n 1, 1) := by decide +kernel
theorem dL_fly_5 : decode cL_fly 5 = .ok (.iload_n 2, 1) := by decide +kernel
theorem dL_fly_6 : decode cL_fly 6 = .ok (.iload_n 3, 1) := by decide +kernel
theorem dL_fly_7 : decode cL_fly 7 = .ok (.invokevirtual 7, 3) := by decide +kernel
theorem dL_fly_10 : decode cL_fly 10 = .ok (.i2l, 1) := by decide +kernel
theorem dL_fly_11 : decode cL_fly 11 = .ok (.lastore, 1) := by decide +kernel
theorem dL_fly_12 : decode cL_fly 12 = .ok (.goto 11, 3) := by decide +kernel
theorem dL_fly_15 : decode cL_fly 15 = .ok (.astore 5, 2) := by decide +kernel
theorem dL_fly_17 : decode cL_fly 17 = .ok (.iconst 1, 1) := by decide +kernel
theorem dL_fly_18 : decode cL_fly 18 = .ok (.ireturn, 1) := by decide +kernel
theorem dL_fly_19 : decode cL_fly 19 = .ok (.astore 5, 2) := by decide +kernel
theorem dL_fly_21 : decode cL_fly 21 = .ok (.iconst 2, 1) := by decide +kernel
theorem dL_fly_22 : decode cL_fly 22 = .ok (.ireturn, 1) := by decide +kernel
theorem dL_fly_23 : decode cL_fly 23 = .ok (.iconst 0, 1) := by decide +kernel
theorem dL_fly_24 : decode cL_fly 24 = .ok (.ireturn, 1) := by decide +kernel
theorem dL_addAircraft_0 : decode cL_addAircraft 0 = .ok (.aload 7, 2) := by decide +kernel
theorem dL_addAircraft_2 : decode cL_addAircraft 2 = .ok (.iconst 0, 1) := by decide +kernel
theorem dL_addAircraft_3 : decode cL_addAircraft 3 = .ok (.aload_n 0, 1) := by decide +kernel
theorem dL_addAircraft_4 : decode cL_addAircraft 4 = .ok (.iload_n 1, 1) := by decide +kernel
theorem dL_addAircraft_5 : decode cL_addAircraft 5 = .ok (.iload_n 2, 1) := by decide +kernel
theorem dL_addAircraft_6 : decode cL_addAircraft 6 = .ok (.iload_n 3, 1) := by decide +kernel
theorem dL_addAircraft_7 : decode cL_addAircraft 7 = .ok (.iload 4, 2) := by decide +kernel
theorem dL_addAircraft_9 : decode cL_addAircraft 9 = .ok (.iload 5, 2) := by decide +kernel
theorem dL_addAircraft_11 : decode cL_addAircraft 11 = .ok (.iload 6, 2) := by decide +kernel
theorem dL_addAircraft_13 : decode cL_addAircraft 13 = .ok (.invokevirtual 17, 3) := by decide +kernel
theorem dL_addAircraft_16 : decode cL_addAircraft 16 = .ok (.i2l, 1) := by decide +kernel
theorem dL_addAircraft_17 : decode cL_addAircraft 17 = .ok (.lastore, 1) := by decide +kernel
theorem dL_addAircraft_18 : decode cL_addAircraft 18 = .ok (.goto 15, 3) := by decide +kernel
theorem dL_addAircraft_21 : decode cL_addAircraft 21 = .ok (.astore 8, 2) := by decide +kernel
theorem dL_addAircraft_23 : decode cL_addAircraft 23 = .ok (.iconst 1, 1) := by decide +kernel
theorem dL_addAircraft_24 : decode cL_addAircraft 24 = .ok (.ireturn, 1) := by decide +kernel
theorem dL_addAircraft_25 : decode cL_addAircraft 25 = .ok (.astore 8, 2) := by decide +kernel
theorem dL_addAircraft_27 : decode cL_addAircraft 27 = .ok (.iconst 2, 1) := by decide +kernel
theorem dL_addAircraft_28 : decode cL_addAircraft 28 = .ok (.ireturn, 1) := by decide +kernel
theorem dL_addAircraft_29 : decode cL_addAircraft 29 = .ok (.astore 8, 2) := by decide +kernel
theorem dL_addAircraft_31 : decode cL_addAircraft 31 = .ok (.iconst 3, 1) := by decide +kernel
theorem dL_addAircraft_32 : decode cL_addAircraft 32 = .ok (.ireturn, 1) := by decide +kernel
theorem dL_addAircraft_33 : decode cL_addAircraft 33 = .ok (.iconst 0, 1) := by decide +kernel
theorem dL_addAircraft_34 : decode cL_addAircraft 34 = .ok (.ireturn, 1) := by decide +kernel
theorem dL_fault_0 : decode cL_fault 0 = .ok (.aload_n 3, 1) := by decide +kernel
theorem dL_fault_1 : decode cL_fault 1 = .ok (.iconst 0, 1) := by decide +kernel
theorem dL_fault_2 : decode cL_fault 2 = .ok (.aload_n 0, 1) := by decide +kernel
theorem dL_fault_3 : decode cL_fault 3 = .ok (.iload_n 1, 1) := by decide +kernel
theorem dL_fault_4 : decode cL_fault 4 = .ok (.iload_n 2, 1) := by decide +kernel
theorem dL_fault_5 : decode cL_fault 5 = .ok (.invokevirtual 23, 3) := by decide +kernel
theorem dL_fault_8 : decode cL_fault 8 = .ok (.ifCond .eq 7, 3) := by decide +kernel
theorem dL_fault_11 : decode cL_fault 11 = .ok (.lconst 1, 1) := by decide +kernel
theorem dL_fault_12 : decode cL_fault 12 = .ok (.goto 4, 3) := by decide +kernel
theorem dL_fault_15 : decode cL_fault 15 = .ok (.lconst 0, 1) := by decide +kernel
theorem dL_fault_16 : decode cL_fault 16 = .ok (.lastore, 1) := by decide +kernel
theorem dL_fault_17 : decode cL_fault 17 = .ok (.goto 7, 3) := by decide +kernel
theorem dL_fault_20 : decode cL_fault 20 = .ok (.astore 4, 2) := by decide +kernel
theorem dL_fault_22 : decode cL_fault 22 = .ok (.iconst 1, 1) := by decide +kernel
theorem dL_fault_23 : decode cL_fault 23 = .ok (.ireturn, 1) := by decide +kernel
theorem dL_fault_24 : decode cL_fault 24 = .ok (.iconst 0, 1) := by decide +kernel
theorem dL_fault_25 : decode cL_fault 25 = .ok (.ireturn, 1) := by decide +kernel
theorem dL_addCrew_0 : decode cL_addCrew 0 = .ok (.aload 5, 2) := by decide +kernel
theorem dL_addCrew_2 : decode cL_addCrew 2 = .ok (.iconst 0, 1) := by decide +kernel
theorem dL_addCrew_3 : decode cL_addCrew 3 = .ok (.aload_n 0, 1) := by decide +kernel
theorem dL_addCrew_4 : decode cL_addCrew 4 = .ok (.iload_n 1, 1) := by decide +kernel
theorem dL_addCrew_5 : decode cL_addCrew 5 = .ok (.iload_n 2, 1) := by decide +kernel
theorem dL_addCrew_6 : decode cL_addCrew 6 = .ok (.iload_n 3, 1) := by decide +kernel
theorem dL_addCrew_7 : decode cL_addCrew 7 = .ok (.iload 4, 2) := by decide +kernel
theorem dL_addCrew_9 : decode cL_addCrew 9 = .ok (.invokevirtual 27, 3) := by decide +kernel
theorem dL_addCrew_12 : decode cL_addCrew 12 = .ok (.i2l, 1) := by decide +kernel
theorem dL_addCrew_13 : decode cL_addCrew 13 = .ok (.lastore, 1) := by decide +kernel
theorem dL_addCrew_14 : decode cL_addCrew 14 = .ok (.goto 15, 3) := by decide +kernel
theorem dL_addCrew_17 : decode cL_addCrew 17 = .ok (.astore 6, 2) := by decide +kernel
theorem dL_addCrew_19 : decode cL_addCrew 19 = .ok (.iconst 1, 1) := by decide +kernel
theorem dL_addCrew_20 : decode cL_addCrew 20 = .ok (.ireturn, 1) := by decide +kernel
theorem dL_addCrew_21 : decode cL_addCrew 21 = .ok (.astore 6, 2) := by decide +kernel
theorem dL_addCrew_23 : decode cL_addCrew 23 = .ok (.iconst 2, 1) := by decide +kernel
theorem dL_addCrew_24 : decode cL_addCrew 24 = .ok (.ireturn, 1) := by decide +kernel
theorem dL_addCrew_25 : decode cL_addCrew 25 = .ok (.astore 6, 2) := by decide +kernel
theorem dL_addCrew_27 : decode cL_addCrew 27 = .ok (.iconst 3, 1) := by decide +kernel
theorem dL_addCrew_28 : decode cL_addCrew 28 = .ok (.ireturn, 1) := by decide +kernel
theorem dL_addCrew_29 : decode cL_addCrew 29 = .ok (.iconst 0, 1) := by decide +kernel
theorem dL_addCrew_30 : decode cL_addCrew 30 = .ok (.ireturn, 1) := by decide +kernel
theorem dL_addStand_0 : decode cL_addStand 0 = .ok (.aload_n 3, 1) := by decide +kernel
theorem dL_addStand_1 : decode cL_addStand 1 = .ok (.iconst 0, 1) := by decide +kernel
theorem dL_addStand_2 : decode cL_addStand 2 = .ok (.aload_n 0, 1) := by decide +kernel
theorem dL_addStand_3 : decode cL_addStand 3 = .ok (.iload_n 1, 1) := by decide +kernel
theorem dL_addStand_4 : decode cL_addStand 4 = .ok (.iload_n 2, 1) := by decide +kernel
theorem dL_addStand_5 : decode cL_addStand 5 = .ok (.invokevirtual 31, 3) := by decide +kernel
theorem dL_addStand_8 : decode cL_addStand 8 = .ok (.i2l, 1) := by decide +kernel
theorem dL_addStand_9 : decode cL_addStand 9 = .ok (.lastore, 1) := by decide +kernel
theorem dL_addStand_10 : decode cL_addStand 10 = .ok (.goto 11, 3) := by decide +kernel
theorem dL_addStand_13 : decode cL_addStand 13 = .ok (.astore 4, 2) := by decide +kernel
theorem dL_addStand_15 : decode cL_addStand 15 = .ok (.iconst 1, 1) := by decide +kernel
theorem dL_addStand_16 : decode cL_addStand 16 = .ok (.ireturn, 1) := by decide +kernel
theorem dL_addStand_17 : decode cL_addStand 17 = .ok (.astore 4, 2) := by decide +kernel
theorem dL_addStand_19 : decode cL_addStand 19 = .ok (.iconst 2, 1) := by decide +kernel
theorem dL_addStand_20 : decode cL_addStand 20 = .ok (.ireturn, 1) := by decide +kernel
theorem dL_addStand_21 : decode cL_addStand 21 = .ok (.iconst 0, 1) := by decide +kernel
theorem dL_addStand_22 : decode cL_addStand 22 = .ok (.ireturn, 1) := by decide +kernel
theorem dL_turnRunway_0 : decode cL_turnRunway 0 = .ok (.aload_n 2, 1) := by decide +kernel
theorem dL_turnRunway_1 : decode cL_turnRunway 1 = .ok (.iconst 0, 1) := by decide +kernel
theorem dL_turnRunway_2 : decode cL_turnRunway 2 = .ok (.aload_n 0, 1) := by decide +kernel
theorem dL_turnRunway_3 : decode cL_turnRunway 3 = .ok (.iload_n 1, 1) := by decide +kernel
theorem dL_turnRunway_4 : decode cL_turnRunway 4 = .ok (.invokevirtual 35, 3) := by decide +kernel
theorem dL_turnRunway_7 : decode cL_turnRunway 7 = .ok (.i2l, 1) := by decide +kernel
theorem dL_turnRunway_8 : decode cL_turnRunway 8 = .ok (.lastore, 1) := by decide +kernel
theorem dL_turnRunway_9 : decode cL_turnRunway 9 = .ok (.goto 9, 3) := by decide +kernel
theorem dL_turnRunway_12 : decode cL_turnRunway 12 = .ok (.astore_n 3, 1) := by decide +kernel
theorem dL_turnRunway_13 : decode cL_turnRunway 13 = .ok (.iconst 1, 1) := by decide +kernel
theorem dL_turnRunway_14 : decode cL_turnRunway 14 = .ok (.ireturn, 1) := by decide +kernel
theorem dL_turnRunway_15 : decode cL_turnRunway 15 = .ok (.astore_n 3, 1) := by decide +kernel
theorem dL_turnRunway_16 : decode cL_turnRunway 16 = .ok (.iconst 2, 1) := by decide +kernel
theorem dL_turnRunway_17 : decode cL_turnRunway 17 = .ok (.ireturn, 1) := by decide +kernel
theorem dL_turnRunway_18 : decode cL_turnRunway 18 = .ok (.iconst 0, 1) := by decide +kernel
theorem dL_turnRunway_19 : decode cL_turnRunway 19 = .ok (.ireturn, 1) := by decide +kernel
theorem dL_ice_0 : decode cL_ice 0 = .ok (.aload_n 3, 1) := by decide +kernel
theorem dL_ice_1 : decode cL_ice 1 = .ok (.iconst 0, 1) := by decide +kernel
theorem dL_ice_2 : decode cL_ice 2 = .ok (.aload_n 0, 1) := by decide +kernel
theorem dL_ice_3 : decode cL_ice 3 = .ok (.iload_n 1, 1) := by decide +kernel
theorem dL_ice_4 : decode cL_ice 4 = .ok (.iload_n 2, 1) := by decide +kernel
theorem dL_ice_5 : decode cL_ice 5 = .ok (.invokevirtual 39, 3) := by decide +kernel
theorem dL_ice_8 : decode cL_ice 8 = .ok (.i2l, 1) := by decide +kernel
theorem dL_ice_9 : decode cL_ice 9 = .ok (.lastore, 1) := by decide +kernel
theorem dL_ice_10 : decode cL_ice 10 = .ok (.goto 7, 3) := by decide +kernel
theorem dL_ice_13 : decode cL_ice 13 = .ok (.astore 4, 2) := by decide +kernel
theorem dL_ice_15 : decode cL_ice 15 = .ok (.iconst 1, 1) := by decide +kernel
theorem dL_ice_16 : decode cL_ice 16 = .ok (.ireturn, 1) := by decide +kernel
theorem dL_ice_17 : decode cL_ice 17 = .ok (.iconst 0, 1) := by decide +kernel
theorem dL_ice_18 : decode cL_ice 18 = .ok (.ireturn, 1) := by decide +kernel
theorem dL_setPads_0 : decode cL_setPads 0 = .ok (.aload_n 2, 1) := by decide +kernel
theorem dL_setPads_1 : decode cL_setPads 1 = .ok (.iconst 0, 1) := by decide +kernel
theorem dL_setPads_2 : decode cL_setPads 2 = .ok (.aload_n 0, 1) := by decide +kernel
theorem dL_setPads_3 : decode cL_setPads 3 = .ok (.iload_n 1, 1) := by decide +kernel
theorem dL_setPads_4 : decode cL_setPads 4 = .ok (.invokevirtual 43, 3) := by decide +kernel
theorem dL_setPads_7 : decode cL_setPads 7 = .ok (.i2l, 1) := by decide +kernel
theorem dL_setPads_8 : decode cL_setPads 8 = .ok (.lastore, 1) := by decide +kernel
theorem dL_setPads_9 : decode cL_setPads 9 = .ok (.goto 6, 3) := by decide +kernel
theorem dL_setPads_12 : decode cL_setPads 12 = .ok (.astore_n 3, 1) := by decide +kernel
theorem dL_setPads_13 : decode cL_setPads 13 = .ok (.iconst 1, 1) := by decide +kernel
theorem dL_setPads_14 : decode cL_setPads 14 = .ok (.ireturn, 1) := by decide +kernel
theorem dL_setPads_15 : decode cL_setPads 15 = .ok (.iconst 0, 1) := by decide +kernel
theorem dL_setPads_16 : decode cL_setPads 16 = .ok (.ireturn, 1) := by decide +kernel
theorem dL_addFlight_0 : decode cL_addFlight 0 = .ok (.aload 6, 2) := by decide +kernel
theorem dL_addFlight_2 : decode cL_addFlight 2 = .ok (.iconst 0, 1) := by decide +kernel
theorem dL_addFlight_3 : decode cL_addFlight 3 = .ok (.aload_n 0, 1) := by decide +kernel
theorem dL_addFlight_4 : decode cL_addFlight 4 = .ok (.iload_n 1, 1) := by decide +kernel
theorem dL_addFlight_5 : decode cL_addFlight 5 = .ok (.iload_n 2, 1) := by decide +kernel
theorem dL_addFlight_6 : decode cL_addFlight 6 = .ok (.iload_n 3, 1) := by decide +kernel
theorem dL_addFlight_7 : decode cL_addFlight 7 = .ok (.iload 4, 2) := by decide +kernel
theorem dL_addFlight_9 : decode cL_addFlight 9 = .ok (.iload 5, 2) := by decide +kernel
theorem dL_addFlight_11 : decode cL_addFlight 11 = .ok (.invokevirtual 46, 3) := by decide +kernel
theorem dL_addFlight_14 : decode cL_addFlight 14 = .ok (.i2l, 1) := by decide +kernel
theorem dL_addFlight_15 : decode cL_addFlight 15 = .ok (.lastore, 1) := by decide +kernel
theorem dL_addFlight_16 : decode cL_addFlight 16 = .ok (.goto 15, 3) := by decide +kernel
theorem dL_addFlight_19 : decode cL_addFlight 19 = .ok (.astore 7, 2) := by decide +kernel
theorem dL_addFlight_21 : decode cL_addFlight 21 = .ok (.iconst 1, 1) := by decide +kernel
theorem dL_addFlight_22 : decode cL_addFlight 22 = .ok (.ireturn, 1) := by decide +kernel
theorem dL_addFlight_23 : decode cL_addFlight 23 = .ok (.astore 7, 2) := by decide +kernel
theorem dL_addFlight_25 : decode cL_addFlight 25 = .ok (.iconst 2, 1) := by decide +kernel
theorem dL_addFlight_26 : decode cL_addFlight 26 = .ok (.ireturn, 1) := by decide +kernel
theorem dL_addFlight_27 : decode cL_addFlight 27 = .ok (.astore 7, 2) := by decide +kernel
theorem dL_addFlight_29 : decode cL_addFlight 29 = .ok (.iconst 3, 1) := by decide +kernel
theorem dL_addFlight_30 : decode cL_addFlight 30 = .ok (.ireturn, 1) := by decide +kernel
theorem dL_addFlight_31 : decode cL_addFlight 31 = .ok (.iconst 0, 1) := by decide +kernel
theorem dL_addFlight_32 : decode cL_addFlight 32 = .ok (.ireturn, 1) := by decide +kernel
theorem dL_slot_0 : decode cL_slot 0 = .ok (.aload_n 3, 1) := by decide +kernel
theorem dL_slot_1 : decode cL_slot 1 = .ok (.iconst 0, 1) := by decide +kernel
theorem dL_slot_2 : decode cL_slot 2 = .ok (.aload_n 0, 1) := by decide +kernel
theorem dL_slot_3 : decode cL_slot 3 = .ok (.iload_n 1, 1) := by decide +kernel
theorem dL_slot_4 : decode cL_slot 4 = .ok (.iload_n 2, 1) := by decide +kernel
theorem dL_slot_5 : decode cL_slot 5 = .ok (.invokevirtual 50, 3) := by decide +kernel
theorem dL_slot_8 : decode cL_slot 8 = .ok (.i2l, 1) := by decide +kernel
theorem dL_slot_9 : decode cL_slot 9 = .ok (.lastore, 1) := by decide +kernel
theorem dL_slot_10 : decode cL_slot 10 = .ok (.goto 15, 3) := by decide +kernel
theorem dL_slot_13 : decode cL_slot 13 = .ok (.astore 4, 2) := by decide +kernel
theorem dL_slot_15 : decode cL_slot 15 = .ok (.iconst 1, 1) := by decide +kernel
theorem dL_slot_16 : decode cL_slot 16 = .ok (.ireturn, 1) := by decide +kernel
theorem dL_slot_17 : decode cL_slot 17 = .ok (.astore 4, 2) := by decide +kernel
theorem dL_slot_19 : decode cL_slot 19 = .ok (.iconst 2, 1) := by decide +kernel
theorem dL_slot_20 : decode cL_slot 20 = .ok (.ireturn, 1) := by decide +kernel
theorem dL_slot_21 : decode cL_slot 21 = .ok (.astore 4, 2) := by decide +kernel
theorem dL_slot_23 : decode cL_slot 23 = .ok (.iconst 3, 1) := by decide +kernel
theorem dL_slot_24 : decode cL_slot 24 = .ok (.ireturn, 1) := by decide +kernel
theorem dL_slot_25 : decode cL_slot 25 = .ok (.iconst 0, 1) := by decide +kernel
theorem dL_slot_26 : decode cL_slot 26 = .ok (.ireturn, 1) := by decide +kernel
theorem dL_trade_0 : decode cL_trade 0 = .ok (.aload_n 3, 1) := by decide +kernel
theorem dL_trade_1 : decode cL_trade 1 = .ok (.iconst 0, 1) := by decide +kernel
theorem dL_trade_2 : decode cL_trade 2 = .ok (.aload_n 0, 1) := by decide +kernel
theorem dL_trade_3 : decode cL_trade 3 = .ok (.iload_n 1, 1) := by decide +kernel
theorem dL_trade_4 : decode cL_trade 4 = .ok (.iload_n 2, 1) := by decide +kernel
theorem dL_trade_5 : decode cL_trade 5 = .ok (.invokevirtual 55, 3) := by decide +kernel
theorem dL_trade_8 : decode cL_trade 8 = .ok (.i2l, 1) := by decide +kernel
theorem dL_trade_9 : decode cL_trade 9 = .ok (.lastore, 1) := by decide +kernel
theorem dL_trade_10 : decode cL_trade 10 = .ok (.goto 11, 3) := by decide +kernel
theorem dL_trade_13 : decode cL_trade 13 = .ok (.astore 4, 2) := by decide +kernel
theorem dL_trade_15 : decode cL_trade 15 = .ok (.iconst 1, 1) := by decide +kernel
theorem dL_trade_16 : decode cL_trade 16 = .ok (.ireturn, 1) := by decide +kernel
theorem dL_trade_17 : decode cL_trade 17 = .ok (.astore 4, 2) := by decide +kernel
theorem dL_trade_19 : decode cL_trade 19 = .ok (.iconst 2, 1) := by decide +kernel
theorem dL_trade_20 : decode cL_trade 20 = .ok (.ireturn, 1) := by decide +kernel
theorem dL_trade_21 : decode cL_trade 21 = .ok (.iconst 0, 1) := by decide +kernel
theorem dL_trade_22 : decode cL_trade 22 = .ok (.ireturn, 1) := by decide +kernel
theorem dL_hold_0 : decode cL_hold 0 = .ok (.aload_n 3, 1) := by decide +kernel
theorem dL_hold_1 : decode cL_hold 1 = .ok (.iconst 0, 1) := by decide +kernel
theorem dL_hold_2 : decode cL_hold 2 = .ok (.aload_n 0, 1) := by decide +kernel
theorem dL_hold_3 : decode cL_hold 3 = .ok (.iload_n 1, 1) := by decide +kernel
theorem dL_hold_4 : decode cL_hold 4 = .ok (.iload_n 2, 1) := by decide +kernel
theorem dL_hold_5 : decode cL_hold 5 = .ok (.invokevirtual 58, 3) := by decide +kernel
theorem dL_hold_8 : decode cL_hold 8 = .ok (.i2l, 1) := by decide +kernel
theorem dL_hold_9 : decode cL_hold 9 = .ok (.lastore, 1) := by decide +kernel
theorem dL_hold_10 : decode cL_hold 10 = .ok (.goto 11, 3) := by decide +kernel
theorem dL_hold_13 : decode cL_hold 13 = .ok (.astore 4, 2) := by decide +kernel
theorem dL_hold_15 : decode cL_hold 15 = .ok (.iconst 1, 1) := by decide +kernel
theorem dL_hold_16 : decode cL_hold 16 = .ok (.ireturn, 1) := by decide +kernel
theorem dL_hold_17 : decode cL_hold 17 = .ok (.astore 4, 2) := by decide +kernel
theorem dL_hold_19 : decode cL_hold 19 = .ok (.iconst 2, 1) := by decide +kernel
theorem dL_hold_20 : decode cL_hold 20 = .ok (.ireturn, 1) := by decide +kernel
theorem dL_hold_21 : decode cL_hold 21 = .ok (.iconst 0, 1) := by decide +kernel
theorem dL_hold_22 : decode cL_hold 22 = .ok (.ireturn, 1) := by decide +kernel
theorem dL_waitFor_0 : decode cL_waitFor 0 = .ok (.aload_n 3, 1) := by decide +kernel
theorem dL_waitFor_1 : decode cL_waitFor 1 = .ok (.iconst 0, 1) := by decide +kernel
theorem dL_waitFor_2 : decode cL_waitFor 2 = .ok (.aload_n 0, 1) := by decide +kernel
theorem dL_waitFor_3 : decode cL_waitFor 3 = .ok (.iload_n 1, 1) := by decide +kernel
theorem dL_waitFor_4 : decode cL_waitFor 4 = .ok (.iload_n 2, 1) := by decide +kernel
theorem dL_waitFor_5 : decode cL_waitFor 5 = .ok (.invokevirtual 61, 3) := by decide +kernel
theorem dL_waitFor_8 : decode cL_waitFor 8 = .ok (.i2l, 1) := by decide +kernel
theorem dL_waitFor_9 : decode cL_waitFor 9 = .ok (.lastore, 1) := by decide +kernel
theorem dL_waitFor_10 : decode cL_waitFor 10 = .ok (.goto 11, 3) := by decide +kernel
theorem dL_waitFor_13 : decode cL_waitFor 13 = .ok (.astore 4, 2) := by decide +kernel
theorem dL_waitFor_15 : decode cL_waitFor 15 = .ok (.iconst 1, 1) := by decide +kernel
theorem dL_waitFor_16 : decode cL_waitFor 16 = .ok (.ireturn, 1) := by decide +kernel
theorem dL_waitFor_17 : decode cL_waitFor 17 = .ok (.astore 4, 2) := by decide +kernel
theorem dL_waitFor_19 : decode cL_waitFor 19 = .ok (.iconst 2, 1) := by decide +kernel
theorem dL_waitFor_20 : decode cL_waitFor 20 = .ok (.ireturn, 1) := by decide +kernel
theorem dL_waitFor_21 : decode cL_waitFor 21 = .ok (.iconst 0, 1) := by decide +kernel
theorem dL_waitFor_22 : decode cL_waitFor 22 = .ok (.ireturn, 1) := by decide +kernel
theorem dL_swap_0 : decode cL_swap 0 = .ok (.aload_n 3, 1) := by decide +kernel
theorem dL_swap_1 : decode cL_swap 1 = .ok (.iconst 0, 1) := by decide +kernel
theorem dL_swap_2 : decode cL_swap 2 = .ok (.aload_n 0, 1) := by decide +kernel
theorem dL_swap_3 : decode cL_swap 3 = .ok (.iload_n 1, 1) := by decide +kernel
theorem dL_swap_4 : decode cL_swap 4 = .ok (.iload_n 2, 1) := by decide +kernel
theorem dL_swap_5 : decode cL_swap 5 = .ok (.invokevirtual 64, 3) := by decide +kernel
theorem dL_swap_8 : decode cL_swap 8 = .ok (.i2l, 1) := by decide +kernel
theorem dL_swap_9 : decode cL_swap 9 = .ok (.lastore, 1) := by decide +kernel
theorem dL_swap_10 : decode cL_swap 10 = .ok (.goto 11, 3) := by decide +kernel
theorem dL_swap_13 : decode cL_swap 13 = .ok (.astore 4, 2) := by decide +kernel
theorem dL_swap_15 : decode cL_swap 15 = .ok (.iconst 1, 1) := by decide +kernel
theorem dL_swap_16 : decode cL_swap 16 = .ok (.ireturn, 1) := by decide +kernel
theorem dL_swap_17 : decode cL_swap 17 = .ok (.astore 4, 2) := by decide +kernel
theorem dL_swap_19 : decode cL_swap 19 = .ok (.iconst 2, 1) := by decide +kernel
theorem dL_swap_20 : decode cL_swap 20 = .ok (.ireturn, 1) := by decide +kernel
theorem dL_swap_21 : decode cL_swap 21 = .ok (.iconst 0, 1) := by decide +kernel
theorem dL_swap_22 : decode cL_swap 22 = .ok (.ireturn, 1) := by decide +kernel
theorem dL_cancel_0 : decode cL_cancel 0 = .ok (.aload_n 2, 1) := by decide +kernel
theorem dL_cancel_1 : decode cL_cancel 1 = .ok (.iconst 0, 1) := by decide +kernel
theorem dL_cancel_2 : decode cL_cancel 2 = .ok (.aload_n 0, 1) := by decide +kernel
theorem dL_cancel_3 : decode cL_cancel 3 = .ok (.iload_n 1, 1) := by decide +kernel
theorem dL_cancel_4 : decode cL_cancel 4 = .ok (.invokevirtual 67, 3) := by decide +kernel
theorem dL_cancel_7 : decode cL_cancel 7 = .ok (.ifCond .eq 7, 3) := by decide +kernel
theorem dL_cancel_10 : decode cL_cancel 10 = .ok (.lconst 1, 1) := by decide +kernel
theorem dL_cancel_11 : decode cL_cancel 11 = .ok (.goto 4, 3) := by decide +kernel
theorem dL_cancel_14 : decode cL_cancel 14 = .ok (.lconst 0, 1) := by decide +kernel
theorem dL_cancel_15 : decode cL_cancel 15 = .ok (.lastore, 1) := by decide +kernel
theorem dL_cancel_16 : decode cL_cancel 16 = .ok (.goto 6, 3) := by decide +kernel
theorem dL_cancel_19 : decode cL_cancel 19 = .ok (.astore_n 3, 1) := by decide +kernel
theorem dL_cancel_20 : decode cL_cancel 20 = .ok (.iconst 1, 1) := by decide +kernel
theorem dL_cancel_21 : decode cL_cancel 21 = .ok (.ireturn, 1) := by decide +kernel
theorem dL_cancel_22 : decode cL_cancel 22 = .ok (.iconst 0, 1) := by decide +kernel
theorem dL_cancel_23 : decode cL_cancel 23 = .ok (.ireturn, 1) := by decide +kernel
theorem dL_addGroup_0 : decode cL_addGroup 0 = .ok (.aload 6, 2) := by decide +kernel
theorem dL_addGroup_2 : decode cL_addGroup 2 = .ok (.iconst 0, 1) := by decide +kernel
theorem dL_addGroup_3 : decode cL_addGroup 3 = .ok (.aload_n 0, 1) := by decide +kernel
theorem dL_addGroup_4 : decode cL_addGroup 4 = .ok (.iload_n 1, 1) := by decide +kernel
theorem dL_addGroup_5 : decode cL_addGroup 5 = .ok (.iload_n 2, 1) := by decide +kernel
theorem dL_addGroup_6 : decode cL_addGroup 6 = .ok (.iload_n 3, 1) := by decide +kernel
theorem dL_addGroup_7 : decode cL_addGroup 7 = .ok (.iload 4, 2) := by decide +kernel
theorem dL_addGroup_9 : decode cL_addGroup 9 = .ok (.iload 5, 2) := by decide +kernel
theorem dL_addGroup_11 : decode cL_addGroup 11 = .ok (.invokevirtual 71, 3) := by decide +kernel
theorem dL_addGroup_14 : decode cL_addGroup 14 = .ok (.i2l, 1) := by decide +kernel
theorem dL_addGroup_15 : decode cL_addGroup 15 = .ok (.lastore, 1) := by decide +kernel
theorem dL_addGroup_16 : decode cL_addGroup 16 = .ok (.goto 19, 3) := by decide +kernel
theorem dL_addGroup_19 : decode cL_addGroup 19 = .ok (.astore 7, 2) := by decide +kernel
theorem dL_addGroup_21 : decode cL_addGroup 21 = .ok (.iconst 1, 1) := by decide +kernel
theorem dL_addGroup_22 : decode cL_addGroup 22 = .ok (.ireturn, 1) := by decide +kernel
theorem dL_addGroup_23 : decode cL_addGroup 23 = .ok (.astore 7, 2) := by decide +kernel
theorem dL_addGroup_25 : decode cL_addGroup 25 = .ok (.iconst 2, 1) := by decide +kernel
theorem dL_addGroup_26 : decode cL_addGroup 26 = .ok (.ireturn, 1) := by decide +kernel
theorem dL_addGroup_27 : decode cL_addGroup 27 = .ok (.astore 7, 2) := by decide +kernel
theorem dL_addGroup_29 : decode cL_addGroup 29 = .ok (.iconst 3, 1) := by decide +kernel
theorem dL_addGroup_30 : decode cL_addGroup 30 = .ok (.ireturn, 1) := by decide +kernel
theorem dL_addGroup_31 : decode cL_addGroup 31 = .ok (.astore 7, 2) := by decide +kernel
theorem dL_addGroup_33 : decode cL_addGroup 33 = .ok (.iconst 4, 1) := by decide +kernel
theorem dL_addGroup_34 : decode cL_addGroup 34 = .ok (.ireturn, 1) := by decide +kernel
theorem dL_addGroup_35 : decode cL_addGroup 35 = .ok (.iconst 0, 1) := by decide +kernel
theorem dL_addGroup_36 : decode cL_addGroup 36 = .ok (.ireturn, 1) := by decide +kernel
theorem dL_tell_0 : decode cL_tell 0 = .ok (.aload 6, 2) := by decide +kernel
theorem dL_tell_2 : decode cL_tell 2 = .ok (.iconst 0, 1) := by decide +kernel
theorem dL_tell_3 : decode cL_tell 3 = .ok (.aload_n 0, 1) := by decide +kernel
theorem dL_tell_4 : decode cL_tell 4 = .ok (.iload_n 1, 1) := by decide +kernel
theorem dL_tell_5 : decode cL_tell 5 = .ok (.iload_n 2, 1) := by decide +kernel
theorem dL_tell_6 : decode cL_tell 6 = .ok (.iload_n 3, 1) := by decide +kernel
theorem dL_tell_7 : decode cL_tell 7 = .ok (.iload 4, 2) := by decide +kernel
theorem dL_tell_9 : decode cL_tell 9 = .ok (.iload 5, 2) := by decide +kernel
theorem dL_tell_11 : decode cL_tell 11 = .ok (.invokevirtual 75, 3) := by decide +kernel
theorem dL_tell_14 : decode cL_tell 14 = .ok (.i2l, 1) := by decide +kernel
theorem dL_tell_15 : decode cL_tell 15 = .ok (.lastore, 1) := by decide +kernel
theorem dL_tell_16 : decode cL_tell 16 = .ok (.goto 15, 3) := by decide +kernel
theorem dL_tell_19 : decode cL_tell 19 = .ok (.astore 7, 2) := by decide +kernel
theorem dL_tell_21 : decode cL_tell 21 = .ok (.iconst 1, 1) := by decide +kernel
theorem dL_tell_22 : decode cL_tell 22 = .ok (.ireturn, 1) := by decide +kernel
theorem dL_tell_23 : decode cL_tell 23 = .ok (.astore 7, 2) := by decide +kernel
theorem dL_tell_25 : decode cL_tell 25 = .ok (.iconst 2, 1) := by decide +kernel
theorem dL_tell_26 : decode cL_tell 26 = .ok (.ireturn, 1) := by decide +kernel
theorem dL_tell_27 : decode cL_tell 27 = .ok (.astore 7, 2) := by decide +kernel
theorem dL_tell_29 : decode cL_tell 29 = .ok (.iconst 3, 1) := by decide +kernel
theorem dL_tell_30 : decode cL_tell 30 = .ok (.ireturn, 1) := by decide +kernel
theorem dL_tell_31 : decode cL_tell 31 = .ok (.iconst 0, 1) := by decide +kernel
theorem dL_tell_32 : decode cL_tell 32 = .ok (.ireturn, 1) := by decide +kernel
theorem dL_state_0 : decode cL_state 0 = .ok (.aload_n 2, 1) := by decide +kernel
theorem dL_state_1 : decode cL_state 1 = .ok (.iconst 0, 1) := by decide +kernel
theorem dL_state_2 : decode cL_state 2 = .ok (.aload_n 0, 1) := by decide +kernel
theorem dL_state_3 : decode cL_state 3 = .ok (.iload_n 1, 1) := by decide +kernel
theorem dL_state_4 : decode cL_state 4 = .ok (.invokevirtual 79, 3) := by decide +kernel
theorem dL_state_7 : decode cL_state 7 = .ok (.i2l, 1) := by decide +kernel
theorem dL_state_8 : decode cL_state 8 = .ok (.lastore, 1) := by decide +kernel
theorem dL_state_9 : decode cL_state 9 = .ok (.goto 6, 3) := by decide +kernel
theorem dL_state_12 : decode cL_state 12 = .ok (.astore_n 3, 1) := by decide +kernel
theorem dL_state_13 : decode cL_state 13 = .ok (.iconst 1, 1) := by decide +kernel
theorem dL_state_14 : decode cL_state 14 = .ok (.ireturn, 1) := by decide +kernel
theorem dL_state_15 : decode cL_state 15 = .ok (.iconst 0, 1) := by decide +kernel
theorem dL_state_16 : decode cL_state 16 = .ok (.ireturn, 1) := by decide +kernel
theorem dL_minuteOf_0 : decode cL_minuteOf 0 = .ok (.aload_n 3, 1) := by decide +kernel
theorem dL_minuteOf_1 : decode cL_minuteOf 1 = .ok (.iconst 0, 1) := by decide +kernel
theorem dL_minuteOf_2 : decode cL_minuteOf 2 = .ok (.aload_n 0, 1) := by decide +kernel
theorem dL_minuteOf_3 : decode cL_minuteOf 3 = .ok (.iload_n 1, 1) := by decide +kernel
theorem dL_minuteOf_4 : decode cL_minuteOf 4 = .ok (.iload_n 2, 1) := by decide +kernel
theorem dL_minuteOf_5 : decode cL_minuteOf 5 = .ok (.invokevirtual 83, 3) := by decide +kernel
theorem dL_minuteOf_8 : decode cL_minuteOf 8 = .ok (.i2l, 1) := by decide +kernel
theorem dL_minuteOf_9 : decode cL_minuteOf 9 = .ok (.lastore, 1) := by decide +kernel
theorem dL_minuteOf_10 : decode cL_minuteOf 10 = .ok (.goto 15, 3) := by decide +kernel
theorem dL_minuteOf_13 : decode cL_minuteOf 13 = .ok (.astore 4, 2) := by decide +kernel
theorem dL_minuteOf_15 : decode cL_minuteOf 15 = .ok (.iconst 1, 1) := by decide +kernel
theorem dL_minuteOf_16 : decode cL_minuteOf 16 = .ok (.ireturn, 1) := by decide +kernel
theorem dL_minuteOf_17 : decode cL_minuteOf 17 = .ok (.astore 4, 2) := by decide +kernel
theorem dL_minuteOf_19 : decode cL_minuteOf 19 = .ok (.iconst 2, 1) := by decide +kernel
theorem dL_minuteOf_20 : decode cL_minuteOf 20 = .ok (.ireturn, 1) := by decide +kernel
theorem dL_minuteOf_21 : decode cL_minuteOf 21 = .ok (.astore 4, 2) := by decide +kernel
theorem dL_minuteOf_23 : decode cL_minuteOf 23 = .ok (.iconst 3, 1) := by decide +kernel
theorem dL_minuteOf_24 : decode cL_minuteOf 24 = .ok (.ireturn, 1) := by decide +kernel
theorem dL_minuteOf_25 : decode cL_minuteOf 25 = .ok (.iconst 0, 1) := by decide +kernel
theorem dL_minuteOf_26 : decode cL_minuteOf 26 = .ok (.ireturn, 1) := by decide +kernel
theorem dL_standOf_0 : decode cL_standOf 0 = .ok (.aload_n 2, 1) := by decide +kernel
theorem dL_standOf_1 : decode cL_standOf 1 = .ok (.iconst 0, 1) := by decide +kernel
theorem dL_standOf_2 : decode cL_standOf 2 = .ok (.aload_n 0, 1) := by decide +kernel
theorem dL_standOf_3 : decode cL_standOf 3 = .ok (.iload_n 1, 1) := by decide +kernel
theorem dL_standOf_4 : decode cL_standOf 4 = .ok (.invokevirtual 89, 3) := by decide +kernel
theorem dL_standOf_7 : decode cL_standOf 7 = .ok (.i2l, 1) := by decide +kernel
theorem dL_standOf_8 : decode cL_standOf 8 = .ok (.lastore, 1) := by decide +kernel
theorem dL_standOf_9 : decode cL_standOf 9 = .ok (.goto 9, 3) := by decide +kernel
theorem dL_standOf_12 : decode cL_standOf 12 = .ok (.astore_n 3, 1) := by decide +kernel
theorem dL_standOf_13 : decode cL_standOf 13 = .ok (.iconst 1, 1) := by decide +kernel
theorem dL_standOf_14 : decode cL_standOf 14 = .ok (.ireturn, 1) := by decide +kernel
theorem dL_standOf_15 : decode cL_standOf 15 = .ok (.astore_n 3, 1) := by decide +kernel
theorem dL_standOf_16 : decode cL_standOf 16 = .ok (.iconst 2, 1) := by decide +kernel
theorem dL_standOf_17 : decode cL_standOf 17 = .ok (.ireturn, 1) := by decide +kernel
theorem dL_standOf_18 : decode cL_standOf 18 = .ok (.iconst 0, 1) := by decide +kernel
theorem dL_standOf_19 : decode cL_standOf 19 = .ok (.ireturn, 1) := by decide +kernel
theorem dL_cause_0 : decode cL_cause 0 = .ok (.aload_n 2, 1) := by decide +kernel
theorem dL_cause_1 : decode cL_cause 1 = .ok (.iconst 0, 1) := by decide +kernel
theorem dL_cause_2 : decode cL_cause 2 = .ok (.aload_n 0, 1) := by decide +kernel
theorem dL_cause_3 : decode cL_cause 3 = .ok (.iload_n 1, 1) := by decide +kernel
theorem dL_cause_4 : decode cL_cause 4 = .ok (.invokevirtual 92, 3) := by decide +kernel
theorem dL_cause_7 : decode cL_cause 7 = .ok (.i2l, 1) := by decide +kernel
theorem dL_cause_8 : decode cL_cause 8 = .ok (.lastore, 1) := by decide +kernel
theorem dL_cause_9 : decode cL_cause 9 = .ok (.goto 9, 3) := by decide +kernel
theorem dL_cause_12 : decode cL_cause 12 = .ok (.astore_n 3, 1) := by decide +kernel
theorem dL_cause_13 : decode cL_cause 13 = .ok (.iconst 1, 1) := by decide +kernel
theorem dL_cause_14 : decode cL_cause 14 = .ok (.ireturn, 1) := by decide +kernel
theorem dL_cause_15 : decode cL_cause 15 = .ok (.astore_n 3, 1) := by decide +kernel
theorem dL_cause_16 : decode cL_cause 16 = .ok (.iconst 2, 1) := by decide +kernel
theorem dL_cause_17 : decode cL_cause 17 = .ok (.ireturn, 1) := by decide +kernel
theorem dL_cause_18 : decode cL_cause 18 = .ok (.iconst 0, 1) := by decide +kernel
theorem dL_cause_19 : decode cL_cause 19 = .ok (.ireturn, 1) := by decide +kernel
theorem dL_root_0 : decode cL_root 0 = .ok (.aload_n 2, 1) := by decide +kernel
theorem dL_root_1 : decode cL_root 1 = .ok (.iconst 0, 1) := by decide +kernel
theorem dL_root_2 : decode cL_root 2 = .ok (.aload_n 0, 1) := by decide +kernel
theorem dL_root_3 : decode cL_root 3 = .ok (.iload_n 1, 1) := by decide +kernel
theorem dL_root_4 : decode cL_root 4 = .ok (.invokevirtual 95, 3) := by decide +kernel
theorem dL_root_7 : decode cL_root 7 = .ok (.i2l, 1) := by decide +kernel
theorem dL_root_8 : decode cL_root 8 = .ok (.lastore, 1) := by decide +kernel
theorem dL_root_9 : decode cL_root 9 = .ok (.goto 9, 3) := by decide +kernel
theorem dL_root_12 : decode cL_root 12 = .ok (.astore_n 3, 1) := by decide +kernel
theorem dL_root_13 : decode cL_root 13 = .ok (.iconst 1, 1) := by decide +kernel
theorem dL_root_14 : decode cL_root 14 = .ok (.ireturn, 1) := by decide +kernel
theorem dL_root_15 : decode cL_root 15 = .ok (.astore_n 3, 1) := by decide +kernel
theorem dL_root_16 : decode cL_root 16 = .ok (.iconst 2, 1) := by decide +kernel
theorem dL_root_17 : decode cL_root 17 = .ok (.ireturn, 1) := by decide +kernel
theorem dL_root_18 : decode cL_root 18 = .ok (.iconst 0, 1) := by decide +kernel
theorem dL_root_19 : decode cL_root 19 = .ok (.ireturn, 1) := by decide +kernel
theorem dL_lateness_0 : decode cL_lateness 0 = .ok (.aload_n 2, 1) := by decide +kernel
theorem dL_lateness_1 : decode cL_lateness 1 = .ok (.iconst 0, 1) := by decide +kernel
theorem dL_lateness_2 : decode cL_lateness 2 = .ok (.aload_n 0, 1) := by decide +kernel
theorem dL_lateness_3 : decode cL_lateness 3 = .ok (.iload_n 1, 1) := by decide +kernel
theorem dL_lateness_4 : decode cL_lateness 4 = .ok (.invokevirtual 98, 3) := by decide +kernel
theorem dL_lateness_7 : decode cL_lateness 7 = .ok (.i2l, 1) := by decide +kernel
theorem dL_lateness_8 : decode cL_lateness 8 = .ok (.lastore, 1) := by decide +kernel
theorem dL_lateness_9 : decode cL_lateness 9 = .ok (.goto 6, 3) := by decide +kernel
theorem dL_lateness_12 : decode cL_lateness 12 = .ok (.astore_n 3, 1) := by decide +kernel
theorem dL_lateness_13 : decode cL_lateness 13 = .ok (.iconst 1, 1) := by decide +kernel
theorem dL_lateness_14 : decode cL_lateness 14 = .ok (.ireturn, 1) := by decide +kernel
theorem dL_lateness_15 : decode cL_lateness 15 = .ok (.iconst 0, 1) := by decide +kernel
theorem dL_lateness_16 : decode cL_lateness 16 = .ok (.ireturn, 1) := by decide +kernel
theorem dL_lastOf_0 : decode cL_lastOf 0 = .ok (.aload_n 2, 1) := by decide +kernel
theorem dL_lastOf_1 : decode cL_lastOf 1 = .ok (.iconst 0, 1) := by decide +kernel
theorem dL_lastOf_2 : decode cL_lastOf 2 = .ok (.aload_n 0, 1) := by decide +kernel
theorem dL_lastOf_3 : decode cL_lastOf 3 = .ok (.iload_n 1, 1) := by decide +kernel
theorem dL_lastOf_4 : decode cL_lastOf 4 = .ok (.invokevirtual 101, 3) := by decide +kernel
theorem dL_lastOf_7 : decode cL_lastOf 7 = .ok (.i2l, 1) := by decide +kernel
theorem dL_lastOf_8 : decode cL_lastOf 8 = .ok (.lastore, 1) := by decide +kernel
theorem dL_lastOf_9 : decode cL_lastOf 9 = .ok (.goto 9, 3) := by decide +kernel
theorem dL_lastOf_12 : decode cL_lastOf 12 = .ok (.astore_n 3, 1) := by decide +kernel
theorem dL_lastOf_13 : decode cL_lastOf 13 = .ok (.iconst 1, 1) := by decide +kernel
theorem dL_lastOf_14 : decode cL_lastOf 14 = .ok (.ireturn, 1) := by decide +kernel
theorem dL_lastOf_15 : decode cL_lastOf 15 = .ok (.astore_n 3, 1) := by decide +kernel
theorem dL_lastOf_16 : decode cL_lastOf 16 = .ok (.iconst 2, 1) := by decide +kernel
theorem dL_lastOf_17 : decode cL_lastOf 17 = .ok (.ireturn, 1) := by decide +kernel
theorem dL_lastOf_18 : decode cL_lastOf 18 = .ok (.iconst 0, 1) := by decide +kernel
theorem dL_lastOf_19 : decode cL_lastOf 19 = .ok (.ireturn, 1) := by decide +kernel
theorem dL_isStranded_0 : decode cL_isStranded 0 = .ok (.aload_n 2, 1) := by decide +kernel
theorem dL_isStranded_1 : decode cL_isStranded 1 = .ok (.iconst 0, 1) := by decide +kernel
theorem dL_isStranded_2 : decode cL_isStranded 2 = .ok (.aload_n 0, 1) := by decide +kernel
theorem dL_isStranded_3 : decode cL_isStranded 3 = .ok (.iload_n 1, 1) := by decide +kernel
theorem dL_isStranded_4 : decode cL_isStranded 4 = .ok (.invokevirtual 104, 3) := by decide +kernel
theorem dL_isStranded_7 : decode cL_isStranded 7 = .ok (.ifCond .eq 7, 3) := by decide +kernel
theorem dL_isStranded_10 : decode cL_isStranded 10 = .ok (.lconst 1, 1) := by decide +kernel
theorem dL_isStranded_11 : decode cL_isStranded 11 = .ok (.goto 4, 3) := by decide +kernel
theorem dL_isStranded_14 : decode cL_isStranded 14 = .ok (.lconst 0, 1) := by decide +kernel
theorem dL_isStranded_15 : decode cL_isStranded 15 = .ok (.lastore, 1) := by decide +kernel
theorem dL_isStranded_16 : decode cL_isStranded 16 = .ok (.goto 6, 3) := by decide +kernel
theorem dL_isStranded_19 : decode cL_isStranded 19 = .ok (.astore_n 3, 1) := by decide +kernel
theorem dL_isStranded_20 : decode cL_isStranded 20 = .ok (.iconst 1, 1) := by decide +kernel
theorem dL_isStranded_21 : decode cL_isStranded 21 = .ok (.ireturn, 1) := by decide +kernel
theorem dL_isStranded_22 : decode cL_isStranded 22 = .ok (.iconst 0, 1) := by decide +kernel
theorem dL_isStranded_23 : decode cL_isStranded 23 = .ok (.ireturn, 1) := by decide +kernel
theorem dL_logAt_0 : decode cL_logAt 0 = .ok (.aload_n 2, 1) := by decide +kernel
theorem dL_logAt_1 : decode cL_logAt 1 = .ok (.iconst 0, 1) := by decide +kernel
theorem dL_logAt_2 : decode cL_logAt 2 = .ok (.aload_n 0, 1) := by decide +kernel
theorem dL_logAt_3 : decode cL_logAt 3 = .ok (.iload_n 1, 1) := by decide +kernel
theorem dL_logAt_4 : decode cL_logAt 4 = .ok (.invokevirtual 107, 3) := by decide +kernel
theorem dL_logAt_7 : decode cL_logAt 7 = .ok (.i2l, 1) := by decide +kernel
theorem dL_logAt_8 : decode cL_logAt 8 = .ok (.lastore, 1) := by decide +kernel
theorem dL_logAt_9 : decode cL_logAt 9 = .ok (.goto 6, 3) := by decide +kernel
theorem dL_logAt_12 : decode cL_logAt 12 = .ok (.astore_n 3, 1) := by decide +kernel
theorem dL_logAt_13 : decode cL_logAt 13 = .ok (.iconst 1, 1) := by decide +kernel
theorem dL_logAt_14 : decode cL_logAt 14 = .ok (.ireturn, 1) := by decide +kernel
theorem dL_logAt_15 : decode cL_logAt 15 = .ok (.iconst 0, 1) := by decide +kernel
theorem dL_logAt_16 : decode cL_logAt 16 = .ok (.ireturn, 1) := by decide +kernel
theorem dL_recover_0 : decode cL_recover 0 = .ok (.aload_n 2, 1) := by decide +kernel
theorem dL_recover_1 : decode cL_recover 1 = .ok (.iconst 0, 1) := by decide +kernel
theorem dL_recover_2 : decode cL_recover 2 = .ok (.aload_n 0, 1) := by decide +kernel
theorem dL_recover_3 : decode cL_recover 3 = .ok (.iload_n 1, 1) := by decide +kernel
theorem dL_recover_4 : decode cL_recover 4 = .ok (.invokevirtual 110, 3) := by decide +kernel
theorem dL_recover_7 : decode cL_recover 7 = .ok (.i2l, 1) := by decide +kernel
theorem dL_recover_8 : decode cL_recover 8 = .ok (.lastore, 1) := by decide +kernel
theorem dL_recover_9 : decode cL_recover 9 = .ok (.goto 9, 3) := by decide +kernel
theorem dL_recover_12 : decode cL_recover 12 = .ok (.astore_n 3, 1) := by decide +kernel
theorem dL_recover_13 : decode cL_recover 13 = .ok (.iconst 1, 1) := by decide +kernel
theorem dL_recover_14 : decode cL_recover 14 = .ok (.ireturn, 1) := by decide +kernel
theorem dL_recover_15 : decode cL_recover 15 = .ok (.astore_n 3, 1) := by decide +kernel
theorem dL_recover_16 : decode cL_recover 16 = .ok (.iconst 2, 1) := by decide +kernel
theorem dL_recover_17 : decode cL_recover 17 = .ok (.ireturn, 1) := by decide +kernel
theorem dL_recover_18 : decode cL_recover 18 = .ok (.iconst 0, 1) := by decide +kernel
theorem dL_recover_19 : decode cL_recover 19 = .ok (.ireturn, 1) := by decide +kernel
theorem dL_isBest_0 : decode cL_isBest 0 = .ok (.aload_n 2, 1) := by decide +kernel
theorem dL_isBest_1 : decode cL_isBest 1 = .ok (.iconst 0, 1) := by decide +kernel
theorem dL_isBest_2 : decode cL_isBest 2 = .ok (.aload_n 0, 1) := by decide +kernel
theorem dL_isBest_3 : decode cL_isBest 3 = .ok (.iload_n 1, 1) := by decide +kernel
theorem dL_isBest_4 : decode cL_isBest 4 = .ok (.invokevirtual 113, 3) := by decide +kernel
theorem dL_isBest_7 : decode cL_isBest 7 = .ok (.ifCond .eq 7, 3) := by decide +kernel
theorem dL_isBest_10 : decode cL_isBest 10 = .ok (.lconst 1, 1) := by decide +kernel
theorem dL_isBest_11 : decode cL_isBest 11 = .ok (.goto 4, 3) := by decide +kernel
theorem dL_isBest_14 : decode cL_isBest 14 = .ok (.lconst 0, 1) := by decide +kernel
theorem dL_isBest_15 : decode cL_isBest 15 = .ok (.lastore, 1) := by decide +kernel
theorem dL_isBest_16 : decode cL_isBest 16 = .ok (.goto 9, 3) := by decide +kernel
theorem dL_isBest_19 : decode cL_isBest 19 = .ok (.astore_n 3, 1) := by decide +kernel
theorem dL_isBest_20 : decode cL_isBest 20 = .ok (.iconst 1, 1) := by decide +kernel
theorem dL_isBest_21 : decode cL_isBest 21 = .ok (.ireturn, 1) := by decide +kernel
theorem dL_isBest_22 : decode cL_isBest 22 = .ok (.astore_n 3, 1) := by decide +kernel
theorem dL_isBest_23 : decode cL_isBest 23 = .ok (.iconst 2, 1) := by decide +kernel
theorem dL_isBest_24 : decode cL_isBest 24 = .ok (.ireturn, 1) := by decide +kernel
theorem dL_isBest_25 : decode cL_isBest 25 = .ok (.iconst 0, 1) := by decide +kernel
theorem dL_isBest_26 : decode cL_isBest 26 = .ok (.ireturn, 1) := by decide +kernel
theorem dL_onTimeShare_0 : decode cL_onTimeShare 0 = .ok (.aload_n 1, 1) := by decide +kernel
theorem dL_onTimeShare_1 : decode cL_onTimeShare 1 = .ok (.iconst 0, 1) := by decide +kernel
theorem dL_onTimeShare_2 : decode cL_onTimeShare 2 = .ok (.aload_n 0, 1) := by decide +kernel
theorem dL_onTimeShare_3 : decode cL_onTimeShare 3 = .ok (.invokevirtual 116, 3) := by decide +kernel
theorem dL_onTimeShare_6 : decode cL_onTimeShare 6 = .ok (.f2d, 1) := by decide +kernel
theorem dL_onTimeShare_7 : decode cL_onTimeShare 7 = .ok (.dastore, 1) := by decide +kernel
theorem dL_onTimeShare_8 : decode cL_onTimeShare 8 = .ok (.goto 6, 3) := by decide +kernel
theorem dL_onTimeShare_11 : decode cL_onTimeShare 11 = .ok (.astore_n 2, 1) := by decide +kernel
theorem dL_onTimeShare_12 : decode cL_onTimeShare 12 = .ok (.iconst 1, 1) := by decide +kernel
theorem dL_onTimeShare_13 : decode cL_onTimeShare 13 = .ok (.ireturn, 1) := by decide +kernel
theorem dL_onTimeShare_14 : decode cL_onTimeShare 14 = .ok (.iconst 0, 1) := by decide +kernel
theorem dL_onTimeShare_15 : decode cL_onTimeShare 15 = .ok (.ireturn, 1) := by decide +kernel
theorem dL_meanLateness_0 : decode cL_meanLateness 0 = .ok (.aload_n 1, 1) := by decide +kernel
theorem dL_meanLateness_1 : decode cL_meanLateness 1 = .ok (.iconst 0, 1) := by decide +kernel
theorem dL_meanLateness_2 : decode cL_meanLateness 2 = .ok (.aload_n 0, 1) := by decide +kernel
theorem dL_meanLateness_3 : decode cL_meanLateness 3 = .ok (.invokevirtual 122, 3) := by decide +kernel
theorem dL_meanLateness_6 : decode cL_meanLateness 6 = .ok (.dastore, 1) := by decide +kernel
theorem dL_meanLateness_7 : decode cL_meanLateness 7 = .ok (.goto 6, 3) := by decide +kernel
theorem dL_meanLateness_10 : decode cL_meanLateness 10 = .ok (.astore_n 2, 1) := by decide +kernel
theorem dL_meanLateness_11 : decode cL_meanLateness 11 = .ok (.iconst 1, 1) := by decide +kernel
theorem dL_meanLateness_12 : decode cL_meanLateness 12 = .ok (.ireturn, 1) := by decide +kernel
theorem dL_meanLateness_13 : decode cL_meanLateness 13 = .ok (.iconst 0, 1) := by decide +kernel
theorem dL_meanLateness_14 : decode cL_meanLateness 14 = .ok (.ireturn, 1) := by decide +kernel
theorem dL_law_0 : decode cL_law 0 = .ok (.new 8, 3) := by decide +kernel
theorem dL_law_3 : decode cL_law 3 = .ok (.dup, 1) := by decide +kernel
theorem dL_law_4 : decode cL_law 4 = .ok (.invokespecial 126, 3) := by decide +kernel
theorem dL_law_7 : decode cL_law 7 = .ok (.astore_n 1, 1) := by decide +kernel
theorem dL_law_8 : decode cL_law 8 = .ok (.new 127, 3) := by decide +kernel
theorem dL_law_11 : decode cL_law 11 = .ok (.dup, 1) := by decide +kernel
theorem dL_law_12 : decode cL_law 12 = .ok (.invokespecial 129, 3) := by decide +kernel
theorem dL_law_15 : decode cL_law 15 = .ok (.astore_n 2, 1) := by decide +kernel
theorem dL_law_16 : decode cL_law 16 = .ok (.iconst 1, 1) := by decide +kernel
theorem dL_law_17 : decode cL_law 17 = .ok (.newarray .long, 2) := by decide +kernel
theorem dL_law_19 : decode cL_law 19 = .ok (.astore_n 3, 1) := by decide +kernel
theorem dL_law_20 : decode cL_law 20 = .ok (.iconst 1, 1) := by decide +kernel
theorem dL_law_21 : decode cL_law 21 = .ok (.newarray .double, 2) := by decide +kernel
theorem dL_law_23 : decode cL_law 23 = .ok (.astore 4, 2) := by decide +kernel
theorem dL_law_25 : decode cL_law 25 = .ok (.iconst 0, 1) := by decide +kernel
theorem dL_law_26 : decode cL_law 26 = .ok (.istore 5, 2) := by decide +kernel
theorem dL_law_28 : decode cL_law 28 = .ok (.iload 5, 2) := by decide +kernel
theorem dL_law_30 : decode cL_law 30 = .ok (.aload_n 0, 1) := by decide +kernel
theorem dL_law_31 : decode cL_law 31 = .ok (.arraylength, 1) := by decide +kernel
theorem dL_law_32 : decode cL_law 32 = .ok (.bipush 7, 2) := by decide +kernel
theorem dL_law_34 : decode cL_law 34 = .ok (.isub, 1) := by decide +kernel
theorem dL_law_35 : decode cL_law 35 = .ok (.if_icmp .gt 2406, 3) := by decide +kernel
theorem dL_law_38 : decode cL_law 38 = .ok (.aload_n 0, 1) := by decide +kernel
theorem dL_law_39 : decode cL_law 39 = .ok (.iload 5, 2) := by decide +kernel
theorem dL_law_41 : decode cL_law 41 = .ok (.iaload, 1) := by decide +kernel
theorem dL_law_42 : decode cL_law 42 = .ok (.bipush 63, 2) := by decide +kernel
theorem dL_law_44 : decode cL_law 44 = .ok (.iand, 1) := by decide +kernel
theorem dL_law_45 : decode cL_law 45 = .ok (.tableswitch 2390 0 35 #[159, 239, 357, 432, 540, 624, 680, 748, 804, 908, 976, 1044, 1112, 1180, 1248, 1311, 1431, 1537, 1593, 1663, 1719, 1775, 1831, 1887, 1943, 2006, 2019, 2032, 2045, 2058, 2071, 2127, 2183, 2246, 2312, 2377], 159) := by decide +kernel
theorem dL_law_204 : decode cL_law 204 = .ok (.aload_n 1, 1) := by decide +kernel
theorem dL_law_205 : decode cL_law 205 = .ok (.aload_n 0, 1) := by decide +kernel
theorem dL_law_206 : decode cL_law 206 = .ok (.iload 5, 2) := by decide +kernel
theorem dL_law_208 : decode cL_law 208 = .ok (.iconst 1, 1) := by decide +kernel
theorem dL_law_209 : decode cL_law 209 = .ok (.iadd, 1) := by decide +kernel
theorem dL_law_210 : decode cL_law 210 = .ok (.iaload, 1) := by decide +kernel
theorem dL_law_211 : decode cL_law 211 = .ok (.aload_n 0, 1) := by decide +kernel
theorem dL_law_212 : decode cL_law 212 = .ok (.iload 5, 2) := by decide +kernel
theorem dL_law_214 : decode cL_law 214 = .ok (.iconst 2, 1) := by decide +kernel
theorem dL_law_215 : decode cL_law 215 = .ok (.iadd, 1) := by decide +kernel
theorem dL_law_216 : decode cL_law 216 = .ok (.iaload, 1) := by decide +kernel
theorem dL_law_217 : decode cL_law 217 = .ok (.aload_n 0, 1) := by decide +kernel
theorem dL_law_218 : decode cL_law 218 = .ok (.iload 5, 2) := by decide +kernel
theorem dL_law_220 : decode cL_law 220 = .ok (.iconst 3, 1) := by decide +kernel
theorem dL_law_221 : decode cL_law 221 = .ok (.iadd, 1) := by decide +kernel
theorem dL_law_222 : decode cL_law 222 = .ok (.iaload, 1) := by decide +kernel
theorem dL_law_223 : decode cL_law 223 = .ok (.aload_n 3, 1) := by decide +kernel
theorem dL_law_224 : decode cL_law 224 = .ok (.invokestatic 130, 3) := by decide +kernel
theorem dL_law_227 : decode cL_law 227 = .ok (.istore 6, 2) := by decide +kernel
theorem dL_law_229 : decode cL_law 229 = .ok (.aload_n 2, 1) := by decide +kernel
theorem dL_law_230 : decode cL_law 230 = .ok (.aload_n 0, 1) := by decide +kernel
theorem dL_law_231 : decode cL_law 231 = .ok (.iload 5, 2) := by decide +kernel
theorem dL_law_233 : decode cL_law 233 = .ok (.iconst 1, 1) := by decide +kernel
theorem dL_law_234 : decode cL_law 234 = .ok (.iadd, 1) := by decide +kernel
theorem dL_law_235 : decode cL_law 235 = .ok (.iaload, 1) := by decide +kernel
theorem dL_law_236 : decode cL_law 236 = .ok (.aload_n 0, 1) := by decide +kernel
theorem dL_law_237 : decode cL_law 237 = .ok (.iload 5, 2) := by decide +kernel
theorem dL_law_239 : decode cL_law 239 = .ok (.iconst 2, 1) := by decide +kernel
theorem dL_law_240 : decode cL_law 240 = .ok (.iadd, 1) := by decide +kernel
theorem dL_law_241 : decode cL_law 241 = .ok (.iaload, 1) := by decide +kernel
theorem dL_law_242 : decode cL_law 242 = .ok (.aload_n 0, 1) := by decide +kernel
theorem dL_law_243 : decode cL_law 243 = .ok (.iload 5, 2) := by decide +kernel
theorem dL_law_245 : decode cL_law 245 = .ok (.iconst 3, 1) := by decide +kernel
theorem dL_law_246 : decode cL_law 246 = .ok (.iadd, 1) := by decide +kernel
theorem dL_law_247 : decode cL_law 247 = .ok (.iaload, 1) := by decide +kernel
theorem dL_law_248 : decode cL_law 248 = .ok (.invokevirtual 135, 3) := by decide +kernel
theorem dL_law_251 : decode cL_law 251 = .ok (.istore 7, 2) := by decide +kernel
theorem dL_law_253 : decode cL_law 253 = .ok (.aload_n 2, 1) := by decide +kernel
theorem dL_law_254 : decode cL_law 254 = .ok (.invokevirtual 136, 3) := by decide +kernel
theorem dL_law_257 : decode cL_law 257 = .ok (.iload 6, 2) := by decide +kernel
theorem dL_law_259 : decode cL_law 259 = .ok (.if_icmp .eq 5, 3) := by decide +kernel
theorem dL_law_262 : decode cL_law 262 = .ok (.iconst 0, 1) := by decide +kernel
theorem dL_law_263 : decode cL_law 263 = .ok (.ireturn, 1) := by decide +kernel
theorem dL_law_264 : decode cL_law 264 = .ok (.iload 6, 2) := by decide +kernel
theorem dL_law_266 : decode cL_law 266 = .ok (.ifCond .ne 15, 3) := by decide +kernel
theorem dL_law_269 : decode cL_law 269 = .ok (.aload_n 3, 1) := by decide +kernel
theorem dL_law_270 : decode cL_law 270 = .ok (.iconst 0, 1) := by decide +kernel
theorem dL_law_271 : decode cL_law 271 = .ok (.laload, 1) := by decide +kernel
theorem dL_law_272 : decode cL_law 272 = .ok (.iload 7, 2) := by decide +kernel
theorem dL_law_274 : decode cL_law 274 = .ok (.i2l, 1) := by decide +kernel
theorem dL_law_275 : decode cL_law 275 = .ok (.lcmp, 1) := by decide +kernel
theorem dL_law_276 : decode cL_law 276 = .ok (.ifCond .eq 5, 3) := by decide +kernel
theorem dL_law_279 : decode cL_law 279 = .ok (.iconst 0, 1) := by decide +kernel
theorem dL_law_280 : decode cL_law 280 = .ok (.ireturn, 1) := by decide +kernel
theorem dL_law_281 : decode cL_law 281 = .ok (.goto 2154, 3) := by decide +kernel
theorem dL_law_284 : decode cL_law 284 = .ok (.aload_n 1, 1) := by decide +kernel
theorem dL_law_285 : decode cL_law 285 = .ok (.aload_n 0, 1) := by decide +kernel
theorem dL_law_286 : decode cL_law 286 = .ok (.iload 5, 2) := by decide +kernel
theorem dL_law_288 : decode cL_law 288 = .ok (.iconst 1, 1) := by decide +kernel
theorem dL_law_289 : decode cL_law 289 = .ok (.iadd, 1) := by decide +kernel
theorem dL_law_290 : decode cL_law 290 = .ok (.iaload, 1) := by decide +kernel
theorem dL_law_291 : decode cL_law 291 = .ok (.aload_n 0, 1) := by decide +kernel
theorem dL_law_292 : decode cL_law 292 = .ok (.iload 5, 2) := by decide +kernel
theorem dL_law_294 : decode cL_law 294 = .ok (.iconst 2, 1) := by decide +kernel
theorem dL_law_295 : decode cL_law 295 = .ok (.iadd, 1) := by decide +kernel
theorem dL_law_296 : decode cL_law 296 = .ok (.iaload, 1) := by decide +kernel
theorem dL_law_297 : decode cL_law 297 = .ok (.aload_n 0, 1) := by decide +kernel
theorem dL_law_298 : decode cL_law 298 = .ok (.iload 5, 2) := by decide +kernel
theorem dL_law_300 : decode cL_law 300 = .ok (.iconst 3, 1) := by decide +kernel
theorem dL_law_301 : decode cL_law 301 = .ok (.iadd, 1) := by decide +kernel
theorem dL_law_302 : decode cL_law 302 = .ok (.iaload, 1) := by decide +kernel
theorem dL_law_303 : decode cL_law 303 = .ok (.aload_n 0, 1) := by decide +kernel
theorem dL_law_304 : decode cL_law 304 = .ok (.iload 5, 2) := by decide +kernel
theorem dL_law_306 : decode cL_law 306 = .ok (.iconst 4, 1) := by decide +kernel
theorem dL_law_307 : decode cL_law 307 = .ok (.iadd, 1) := by decide +kernel
theorem dL_law_308 : decode cL_law 308 = .ok (.iaload, 1) := by decide +kernel
theorem dL_law_309 : decode cL_law 309 = .ok (.aload_n 0, 1) := by decide +kernel
theorem dL_law_310 : decode cL_law 310 = .ok (.iload 5, 2) := by decide +kernel
theorem dL_law_312 : decode cL_law 312 = .ok (.iconst 5, 1) := by decide +kernel
theorem dL_law_313 : decode cL_law 313 = .ok (.iadd, 1) := by decide +kernel
theorem dL_law_314 : decode cL_law 314 = .ok (.iaload, 1) := by decide +kernel
theorem dL_law_315 : decode cL_law 315 = .ok (.aload_n 0, 1) := by decide +kernel
theorem dL_law_316 : decode cL_law 316 = .ok (.iload 5, 2) := by decide +kernel
theorem dL_law_318 : decode cL_law 318 = .ok (.bipush 6, 2) := by decide +kernel
theorem dL_law_320 : decode cL_law 320 = .ok (.iadd, 1) := by decide +kernel
theorem dL_law_321 : decode cL_law 321 = .ok (.iaload, 1) := by decide +kernel
theorem dL_law_322 : decode cL_law 322 = .ok (.aload_n 3, 1) := by decide +kernel
theorem dL_law_323 : decode cL_law 323 = .ok (.invokestatic 140, 3) := by decide +kernel
theorem dL_law_326 : decode cL_law 326 = .ok (.istore 6, 2) := by decide +kernel
theorem dL_law_328 : decode cL_law 328 = .ok (.aload_n 2, 1) := by decide +kernel
theorem dL_law_329 : decode cL_law 329 = .ok (.aload_n 0, 1) := by decide +kernel
theorem dL_law_330 : decode cL_law 330 = .ok (.iload 5, 2) := by decide +kernel
theorem dL_law_332 : decode cL_law 332 = .ok (.iconst 1, 1) := by decide +kernel
theorem dL_law_333 : decode cL_law 333 = .ok (.iadd, 1) := by decide +kernel
theorem dL_law_334 : decode cL_law 334 = .ok (.iaload, 1) := by decide +kernel
theorem dL_law_335 : decode cL_law 335 = .ok (.aload_n 0, 1) := by decide +kernel
theorem dL_law_336 : decode cL_law 336 = .ok (.iload 5, 2) := by decide +kernel
theorem dL_law_338 : decode cL_law 338 = .ok (.iconst 2, 1) := by decide +kernel
theorem dL_law_339 : decode cL_law 339 = .ok (.iadd, 1) := by decide +kernel
theorem dL_law_340 : decode cL_law 340 = .ok (.iaload, 1) := by decide +kernel
theorem dL_law_341 : decode cL_law 341 = .ok (.aload_n 0, 1) := by decide +kernel
theorem dL_law_342 : decode cL_law 342 = .ok (.iload 5, 2) := by decide +kernel
theorem dL_law_344 : decode cL_law 344 = .ok (.iconst 3, 1) := by decide +kernel
theorem dL_law_345 : decode cL_law 345 = .ok (.iadd, 1) := by decide +kernel
theorem dL_law_346 : decode cL_law 346 = .ok (.iaload, 1) := by decide +kernel
theorem dL_law_347 : decode cL_law 347 = .ok (.aload_n 0, 1) := by decide +kernel
theorem dL_law_348 : decode cL_law 348 = .ok (.iload 5, 2) := by decide +kernel
theorem dL_law_350 : decode cL_law 350 = .ok (.iconst 4, 1) := by decide +kernel
theorem dL_law_351 : decode cL_law 351 = .ok (.iadd, 1) := by decide +kernel
theorem dL_law_352 : decode cL_law 352 = .ok (.iaload, 1) := by decide +kernel
theorem dL_law_353 : decode cL_law 353 = .ok (.aload_n 0, 1) := by decide +kernel
theorem dL_law_354 : decode cL_law 354 = .ok (.iload 5, 2) := by decide +kernel
theorem dL_law_356 : decode cL_law 356 = .ok (.iconst 5, 1) := by decide +kernel
theorem dL_law_357 : decode cL_law 357 = .ok (.iadd, 1) := by decide +kernel
theorem dL_law_358 : decode cL_law 358 = .ok (.iaload, 1) := by decide +kernel
theorem dL_law_359 : decode cL_law 359 = .ok (.aload_n 0, 1) := by decide +kernel
theorem dL_law_360 : decode cL_law 360 = .ok (.iload 5, 2) := by decide +kernel
theorem dL_law_362 : decode cL_law 362 = .ok (.bipush 6, 2) := by decide +kernel
theorem dL_law_364 : decode cL_law 364 = .ok (.iadd, 1) := by decide +kernel
theorem dL_law_365 : decode cL_law 365 = .ok (.iaload, 1) := by decide +kernel
theorem dL_law_366 : decode cL_law 366 = .ok (.invokevirtual 143, 3) := by decide +kernel
theorem dL_law_369 : decode cL_law 369 = .ok (.istore 7, 2) := by decide +kernel
theorem dL_law_371 : decode cL_law 371 = .ok (.aload_n 2, 1) := by decide +kernel
theorem dL_law_372 : decode cL_law 372 = .ok (.invokevirtual 136, 3) := by decide +kernel
theorem dL_law_375 : decode cL_law 375 = .ok (.iload 6, 2) := by decide +kernel
theorem dL_law_377 : decode cL_law 377 = .ok (.if_icmp .eq 5, 3) := by decide +kernel
theorem dL_law_380 : decode cL_law 380 = .ok (.iconst 0, 1) := by decide +kernel
theorem dL_law_381 : decode cL_law 381 = .ok (.ireturn, 1) := by decide +kernel
theorem dL_law_382 : decode cL_law 382 = .ok (.iload 6, 2) := by decide +kernel
theorem dL_law_384 : decode cL_law 384 = .ok (.ifCond .ne 15, 3) := by decide +kernel
theorem dL_law_387 : decode cL_law 387 = .ok (.aload_n 3, 1) := by decide +kernel
theorem dL_law_388 : decode cL_law 388 = .ok (.iconst 0, 1) := by decide +kernel
theorem dL_law_389 : decode cL_law 389 = .ok (.laload, 1) := by decide +kernel
theorem dL_law_390 : decode cL_law 390 = .ok (.iload 7, 2) := by decide +kernel
theorem dL_law_392 : decode cL_law 392 = .ok (.i2l, 1) := by decide +kernel
theorem dL_law_393 : decode cL_law 393 = .ok (.lcmp, 1) := by decide +kernel
theorem dL_law_394 : decode cL_law 394 = .ok (.ifCond .eq 5, 3) := by decide +kernel
theorem dL_law_397 : decode cL_law 397 = .ok (.iconst 0, 1) := by decide +kernel
theorem dL_law_398 : decode cL_law 398 = .ok (.ireturn, 1) := by decide +kernel
theorem dL_law_399 : decode cL_law 399 = .ok (.goto 2036, 3) := by decide +kernel
theorem dL_law_402 : decode cL_law 402 = .ok (.aload_n 1, 1) := by decide +kernel
theorem dL_law_403 : decode cL_law 403 = .ok (.aload_n 0, 1) := by decide +kernel
theorem dL_law_404 : decode cL_law 404 = .ok (.iload 5, 2) := by decide +kernel
theorem dL_law_406 : decode cL_law 406 = .ok (.iconst 1, 1) := by decide +kernel
theorem dL_law_407 : decode cL_law 407 = .ok (.iadd, 1) := by decide +kernel
theorem dL_law_408 : decode cL_law 408 = .ok (.iaload, 1) := by decide +kernel
theorem dL_law_409 : decode cL_law 409 = .ok (.aload_n 0, 1) := by decide +kernel
theorem dL_law_410 : decode cL_law 410 = .ok (.iload 5, 2) := by decide +kernel
theorem dL_law_412 : decode cL_law 412 = .ok (.iconst 2, 1) := by decide +kernel
theorem dL_law_413 : decode cL_law 413 = .ok (.iadd, 1) := by decide +kernel
theorem dL_law_414 : decode cL_law 414 = .ok (.iaload, 1) := by decide +kernel
theorem dL_law_415 : decode cL_law 415 = .ok (.aload_n 3, 1) := by decide +kernel
theorem dL_law_416 : decode cL_law 416 = .ok (.invokestatic 144, 3) := by decide +kernel
theorem dL_law_419 : decode cL_law 419 = .ok (.istore 6, 2) := by decide +kernel
theorem dL_law_421 : decode cL_law 421 = .ok (.aload_n 2, 1) := by decide +kernel
theorem dL_law_422 : decode cL_law 422 = .ok (.aload_n 0, 1) := by decide +kernel
theorem dL_law_423 : decode cL_law 423 = .ok (.iload 5, 2) := by decide +kernel
theorem dL_law_425 : decode cL_law 425 = .ok (.iconst 1, 1) := by decide +kernel
theorem dL_law_426 : decode cL_law 426 = .ok (.iadd, 1) := by decide +kernel
theorem dL_law_427 : decode cL_law 427 = .ok (.iaload, 1) := by decide +kernel
theorem dL_law_428 : decode cL_law 428 = .ok (.aload_n 0, 1) := by decide +kernel
theorem dL_law_429 : decode cL_law 429 = .ok (.iload 5, 2) := by decide +kernel
theorem dL_law_431 : decode cL_law 431 = .ok (.iconst 2, 1) := by decide +kernel
theorem dL_law_432 : decode cL_law 432 = .ok (.iadd, 1) := by decide +kernel
theorem dL_law_433 : decode cL_law 433 = .ok (.iaload, 1) := by decide +kernel
theorem dL_law_434 : decode cL_law 434 = .ok (.invokevirtual 147, 3) := by decide +kernel
theorem dL_law_437 : decode cL_law 437 = .ok (.istore 7, 2) := by decide +kernel
theorem dL_law_439 : decode cL_law 439 = .ok (.aload_n 2, 1) := by decide +kernel
theorem dL_law_440 : decode cL_law 440 = .ok (.invokevirtual 136, 3) := by decide +kernel
theorem dL_law_443 : decode cL_law 443 = .ok (.iload 6, 2) := by decide +kernel
theorem dL_law_445 : decode cL_law 445 = .ok (.if_icmp .eq 5, 3) := by decide +kernel
theorem dL_law_448 : decode cL_law 448 = .ok (.iconst 0, 1) := by decide +kernel
theorem dL_law_449 : decode cL_law 449 = .ok (.ireturn, 1) := by decide +kernel
theorem dL_law_450 : decode cL_law 450 = .ok (.iload 6, 2) := by decide +kernel
theorem dL_law_452 : decode cL_law 452 = .ok (.ifCond .ne 22, 3) := by decide +kernel
theorem dL_law_455 : decode cL_law 455 = .ok (.aload_n 3, 1) := by decide +kernel
theorem dL_law_456 : decode cL_law 456 = .ok (.iconst 0, 1) := by decide +kernel
theorem dL_law_457 : decode cL_law 457 = .ok (.laload, 1) := by decide +kernel
theorem dL_law_458 : decode cL_law 458 = .ok (.iload 7, 2) := by decide +kernel
theorem dL_law_460 : decode cL_law 460 = .ok (.ifCond .eq 7, 3) := by decide +kernel
theorem dL_law_463 : decode cL_law 463 = .ok (.lconst 1, 1) := by decide +kernel
theorem dL_law_464 : decode cL_law 464 = .ok (.goto 4, 3) := by decide +kernel
theorem dL_law_467 : decode cL_law 467 = .ok (.lconst 0, 1) := by decide +kernel
theorem dL_law_468 : decode cL_law 468 = .ok (.lcmp, 1) := by decide +kernel
theorem dL_law_469 : decode cL_law 469 = .ok (.ifCond .eq 5, 3) := by decide +kernel
theorem dL_law_472 : decode cL_law 472 = .ok (.iconst 0, 1) := by decide +kernel
theorem dL_law_473 : decode cL_law 473 = .ok (.ireturn, 1) := by decide +kernel
theorem dL_law_474 : decode cL_law 474 = .ok (.goto 1961, 3) := by decide +kernel
theorem dL_law_477 : decode cL_law 477 = .ok (.aload_n 1, 1) := by decide +kernel
theorem dL_law_478 : decode cL_law 478 = .ok (.aload_n 0, 1) := by decide +kernel
theorem dL_law_479 : decode cL_law 479 = .ok (.iload 5, 2) := by decide +kernel
theorem dL_law_481 : decode cL_law 481 = .ok (.iconst 1, 1) := by decide +kernel
theorem dL_law_482 : decode cL_law 482 = .ok (.iadd, 1) := by decide +kernel
theorem dL_law_483 : decode cL_law 483 = .ok (.iaload, 1) := by decide +kernel
theorem dL_law_484 : decode cL_law 484 = .ok (.aload_n 0, 1) := by decide +kernel
theorem dL_law_485 : decode cL_law 485 = .ok (.iload 5, 2) := by decide +kernel
theorem dL_law_487 : decode cL_law 487 = .ok (.iconst 2, 1) := by decide +kernel
theorem dL_law_488 : decode cL_law 488 = .ok (.iadd, 1) := by decide +kernel
theorem dL_law_489 : decode cL_law 489 = .ok (.iaload, 1) := by decide +kernel
theorem dL_law_490 : decode cL_law 490 = .ok (.aload_n 0, 1) := by decide +kernel
theorem dL_law_491 : decode cL_law 491 = .ok (.iload 5, 2) := by decide +kernel
theorem dL_law_493 : decode cL_law 493 = .ok (.iconst 3, 1) := by decide +kernel
theorem dL_law_494 : decode cL_law 494 = .ok (.iadd, 1) := by decide +kernel
theorem dL_law_495 : decode cL_law 495 = .ok (.iaload, 1) := by decide +kernel
theorem dL_law_496 : decode cL_law 496 = .ok (.aload_n 0, 1) := by decide +kernel
theorem dL_law_497 : decode cL_law 497 = .ok (.iload 5, 2) := by decide +kernel
theorem dL_law_499 : decode cL_law 499 = .ok (.iconst 4, 1) := by decide +kernel
theorem dL_law_500 : decode cL_law 500 = .ok (.iadd, 1) := by decide +kernel
theorem dL_law_501 : decode cL_law 501 = .ok (.iaload, 1) := by decide +kernel
theorem dL_law_502 : decode cL_law 502 = .ok (.ifCond .eq 7, 3) := by decide +kernel
theorem dL_law_505 : decode cL_law 505 = .ok (.iconst 1, 1) := by decide +kernel
theorem dL_law_506 : decode cL_law 506 = .ok (.goto 4, 3) := by decide +kernel
theorem dL_law_509 : decode cL_law 509 = .ok (.iconst 0, 1) := by decide +kernel
theorem dL_law_510 : decode cL_law 510 = .ok (.aload_n 3, 1) := by decide +kernel
theorem dL_law_511 : decode cL_law 511 = .ok (.invokestatic 148, 3) := by decide +kernel
theorem dL_law_514 : decode cL_law 514 = .ok (.istore 6, 2) := by decide +kernel
theorem dL_law_516 : decode cL_law 516 = .ok (.aload_n 2, 1) := by decide +kernel
theorem dL_law_517 : decode cL_law 517 = .ok (.aload_n 0, 1) := by decide +kernel
theorem dL_law_518 : decode cL_law 518 = .ok (.iload 5, 2) := by decide +kernel
theorem dL_law_520 : decode cL_law 520 = .ok (.iconst 1, 1) := by decide +kernel
theorem dL_law_521 : decode cL_law 521 = .ok (.iadd, 1) := by decide +kernel
theorem dL_law_522 : decode cL_law 522 = .ok (.iaload, 1) := by decide +kernel
theorem dL_law_523 : decode cL_law 523 = .ok (.aload_n 0, 1) := by decide +kernel
theorem dL_law_524 : decode cL_law 524 = .ok (.iload 5, 2) := by decide +kernel
theorem dL_law_526 : decode cL_law 526 = .ok (.iconst 2, 1) := by decide +kernel
theorem dL_law_527 : decode cL_law 527 = .ok (.iadd, 1) := by decide +kernel
theorem dL_law_528 : decode cL_law 528 = .ok (.iaload, 1) := by decide +kernel
theorem dL_law_529 : decode cL_law 529 = .ok (.aload_n 0, 1) := by decide +kernel
theorem dL_law_530 : decode cL_law 530 = .ok (.iload 5, 2) := by decide +kernel
theorem dL_law_532 : decode cL_law 532 = .ok (.iconst 3, 1) := by decide +kernel
theorem dL_law_533 : decode cL_law 533 = .ok (.iadd, 1) := by decide +kernel
theorem dL_law_534 : decode cL_law 534 = .ok (.iaload, 1) := by decide +kernel
theorem dL_law_535 : decode cL_law 535 = .ok (.aload_n 0, 1) := by decide +kernel
theorem dL_law_536 : decode cL_law 536 = .ok (.iload 5, 2) := by decide +kernel
theorem dL_law_538 : decode cL_law 538 = .ok (.iconst 4, 1) := by decide +kernel
theorem dL_law_539 : decode cL_law 539 = .ok (.iadd, 1) := by decide +kernel
theorem dL_law_540 : decode cL_law 540 = .ok (.iaload, 1) := by decide +kernel
theorem dL_law_541 : decode cL_law 541 = .ok (.ifCond .eq 7, 3) := by decide +kernel
theorem dL_law_544 : decode cL_law 544 = .ok (.iconst 1, 1) := by decide +kernel
theorem dL_law_545 : decode cL_law 545 = .ok (.goto 4, 3) := by decide +kernel
theorem dL_law_548 : decode cL_law 548 = .ok (.iconst 0, 1) := by decide +kernel
theorem dL_law_549 : decode cL_law 549 = .ok (.invokevirtual 151, 3) := by decide +kernel
theorem dL_law_552 : decode cL_law 552 = .ok (.istore 7, 2) := by decide +kernel
theorem dL_law_554 : decode cL_law 554 = .ok (.aload_n 2, 1) := by decide +kernel
theorem dL_law_555 : decode cL_law 555 = .ok (.invokevirtual 136, 3) := by decide +kernel
theorem dL_law_558 : decode cL_law 558 = .ok (.iload 6, 2) := by decide +kernel
theorem dL_law_560 : decode cL_law 560 = .ok (.if_icmp .eq 5, 3) := by decide +kernel
theorem dL_law_563 : decode cL_law 563 = .ok (.iconst 0, 1) := by decide +kernel
theorem dL_law_564 : decode cL_law 564 = .ok (.ireturn, 1) := by decide +kernel
theorem dL_law_565 : decode cL_law 565 = .ok (.iload 6, 2) := by decide +kernel
theorem dL_law_567 : decode cL_law 567 = .ok (.ifCond .ne 15, 3) := by decide +kernel
theorem dL_law_570 : decode cL_law 570 = .ok (.aload_n 3, 1) := by decide +kernel
theorem dL_law_571 : decode cL_law 571 = .ok (.iconst 0, 1) := by decide +kernel
theorem dL_law_572 : decode cL_law 572 = .ok (.laload, 1) := by decide +kernel
theorem dL_law_573 : decode cL_law 573 = .ok (.iload 7, 2) := by decide +kernel
theorem dL_law_575 : decode cL_law 575 = .ok (.i2l, 1) := by decide +kernel
theorem dL_law_576 : decode cL_law 576 = .ok (.lcmp, 1) := by decide +kernel
theorem dL_law_577 : decode cL_law 577 = .ok (.ifCond .eq 5, 3) := by decide +kernel
theorem dL_law_580 : decode cL_law 580 = .ok (.iconst 0, 1) := by decide +kernel
theorem dL_law_581 : decode cL_law 581 = .ok (.ireturn, 1) := by decide +kernel
theorem dL_law_582 : decode cL_law 582 = .ok (.goto 1853, 3) := by decide +kernel
theorem dL_law_585 : decode cL_law 585 = .ok (.aload_n 1, 1) := by decide +kernel
theorem dL_law_586 : decode cL_law 586 = .ok (.aload_n 0, 1) := by decide +kernel
theorem dL_law_587 : decode cL_law 587 = .ok (.iload 5, 2) := by decide +kernel
theorem dL_law_589 : decode cL_law 589 = .ok (.iconst 1, 1) := by decide +kernel
theorem dL_law_590 : decode cL_law 590 = .ok (.iadd, 1) := by decide +kernel
theorem dL_law_591 : decode cL_law 591 = .ok (.iaload, 1) := by decide +kernel
theorem dL_law_592 : decode cL_law 592 = .ok (.aload_n 0, 1) := by decide +kernel
theorem dL_law_593 : decode cL_law 593 = .ok (.iload 5, 2) := by decide +kernel
theorem dL_law_595 : decode cL_law 595 = .ok (.iconst 2, 1) := by decide +kernel
theorem dL_law_596 : decode cL_law 596 = .ok (.iadd, 1) := by decide +kernel
theorem dL_law_597 : decode cL_law 597 = .ok (.iaload, 1) := by decide +kernel
theorem dL_law_598 : decode cL_law 598 = .ok (.ifCond .eq 7, 3) := by decide +kernel
theorem dL_law_601 : decode cL_law 601 = .ok (.iconst 1, 1) := by decide +kernel
theorem dL_law_602 : decode cL_law 602 = .ok (.goto 4, 3) := by decide +kernel
theorem dL_law_605 : decode cL_law 605 = .ok (.iconst 0, 1) := by decide +kernel
theorem dL_law_606 : decode cL_law 606 = .ok (.aload_n 3, 1) := by decide +kernel
theorem dL_law_607 : decode cL_law 607 = .ok (.invokestatic 152, 3) := by decide +kernel
theorem dL_law_610 : decode cL_law 610 = .ok (.istore 6, 2) := by decide +kernel
theorem dL_law_612 : decode cL_law 612 = .ok (.aload_n 2, 1) := by decide +kernel
theorem dL_law_613 : decode cL_law 613 = .ok (.aload_n 0, 1) := by decide +kernel
theorem dL_law_614 : decode cL_law 614 = .ok (.iload 5, 2) := by decide +kernel
theorem dL_law_616 : decode cL_law 616 = .ok (.iconst 1, 1) := by decide +kernel
theorem dL_law_617 : decode cL_law 617 = .ok (.iadd, 1) := by decide +kernel
theorem dL_law_618 : decode cL_law 618 = .ok (.iaload, 1) := by decide +kernel
theorem dL_law_619 : decode cL_law 619 = .ok (.aload_n 0, 1) := by decide +kernel
theorem dL_law_620 : decode cL_law 620 = .ok (.iload 5, 2) := by decide +kernel
theorem dL_law_622 : decode cL_law 622 = .ok (.iconst 2, 1) := by decide +kernel
theorem dL_law_623 : decode cL_law 623 = .ok (.iadd, 1) := by decide +kernel
theorem dL_law_624 : decode cL_law 624 = .ok (.iaload, 1) := by decide +kernel
theorem dL_law_625 : decode cL_law 625 = .ok (.ifCond .eq 7, 3) := by decide +kernel
theorem dL_law_628 : decode cL_law 628 = .ok (.iconst 1, 1) := by decide +kernel
theorem dL_law_629 : decode cL_law 629 = .ok (.goto 4, 3) := by decide +kernel
theorem dL_law_632 : decode cL_law 632 = .ok (.iconst 0, 1) := by decide +kernel
theorem dL_law_633 : decode cL_law 633 = .ok (.invokevirtual 155, 3) := by decide +kernel
theorem dL_law_636 : decode cL_law 636 = .ok (.istore 7, 2) := by decide +kernel
theorem dL_law_638 : decode cL_law 638 = .ok (.aload_n 2, 1) := by decide +kernel
theorem dL_law_639 : decode cL_law 639 = .ok (.invokevirtual 136, 3) := by decide +kernel
theorem dL_law_642 : decode cL_law 642 = .ok (.iload 6, 2) := by decide +kernel
theorem dL_law_644 : decode cL_law 644 = .ok (.if_icmp .eq 5, 3) := by decide +kernel
theorem dL_law_647 : decode cL_law 647 = .ok (.iconst 0, 1) := by decide +kernel
theorem dL_law_648 : decode cL_law 648 = .ok (.ireturn, 1) := by decide +kernel
theorem dL_law_649 : decode cL_law 649 = .ok (.iload 6, 2) := by decide +kernel
theorem dL_law_651 : decode cL_law 651 = .ok (.ifCond .ne 15, 3) := by decide +kernel
theorem dL_law_654 : decode cL_law 654 = .ok (.aload_n 3, 1) := by decide +kernel
theorem dL_law_655 : decode cL_law 655 = .ok (.iconst 0, 1) := by decide +kernel
theorem dL_law_656 : decode cL_law 656 = .ok (.laload, 1) := by decide +kernel
theorem dL_law_657 : decode cL_law 657 = .ok (.iload 7, 2) := by decide +kernel
theorem dL_law_659 : decode cL_law 659 = .ok (.i2l, 1) := by decide +kernel
theorem dL_law_660 : decode cL_law 660 = .ok (.lcmp, 1) := by decide +kernel
theorem dL_law_661 : decode cL_law 661 = .ok (.ifCond .eq 5, 3) := by decide +kernel
theorem dL_law_664 : decode cL_law 664 = .ok (.iconst 0, 1) := by decide +kernel
theorem dL_law_665 : decode cL_law 665 = .ok (.ireturn, 1) := by decide +kernel
theorem dL_law_666 : decode cL_law 666 = .ok (.goto 1769, 3) := by decide +kernel
theorem dL_law_669 : decode cL_law 669 = .ok (.aload_n 1, 1) := by decide +kernel
theorem dL_law_670 : decode cL_law 670 = .ok (.aload_n 0, 1) := by decide +kernel
theorem dL_law_671 : decode cL_law 671 = .ok (.iload 5, 2) := by decide +kernel
theorem dL_law_673 : decode cL_law 673 = .ok (.iconst 1, 1) := by decide +kernel
theorem dL_law_674 : decode cL_law 674 = .ok (.iadd, 1) := by decide +kernel
theorem dL_law_675 : decode cL_law 675 = .ok (.iaload, 1) := by decide +kernel
theorem dL_law_676 : decode cL_law 676 = .ok (.aload_n 3, 1) := by decide +kernel
theorem dL_law_677 : decode cL_law 677 = .ok (.invokestatic 156, 3) := by decide +kernel
theorem dL_law_680 : decode cL_law 680 = .ok (.istore 6, 2) := by decide +kernel
theorem dL_law_682 : decode cL_law 682 = .ok (.aload_n 2, 1) := by decide +kernel
theorem dL_law_683 : decode cL_law 683 = .ok (.aload_n 0, 1) := by decide +kernel
theorem dL_law_684 : decode cL_law 684 = .ok (.iload 5, 2) := by decide +kernel
theorem dL_law_686 : decode cL_law 686 = .ok (.iconst 1, 1) := by decide +kernel
theorem dL_law_687 : decode cL_law 687 = .ok (.iadd, 1) := by decide +kernel
theorem dL_law_688 : decode cL_law 688 = .ok (.iaload, 1) := by decide +kernel
theorem dL_law_689 : decode cL_law 689 = .ok (.invokevirtual 159, 3) := by decide +kernel
theorem dL_law_692 : decode cL_law 692 = .ok (.istore 7, 2) := by decide +kernel
theorem dL_law_694 : decode cL_law 694 = .ok (.aload_n 2, 1) := by decide +kernel
theorem dL_law_695 : decode cL_law 695 = .ok (.invokevirtual 136, 3) := by decide +kernel
theorem dL_law_698 : decode cL_law 698 = .ok (.iload 6, 2) := by decide +kernel
theorem dL_law_700 : decode cL_law 700 = .ok (.if_icmp .eq 5, 3) := by decide +kernel
theorem dL_law_703 : decode cL_law 703 = .ok (.iconst 0, 1) := by decide +kernel
theorem dL_law_704 : decode cL_law 704 = .ok (.ireturn, 1) := by decide +kernel
theorem dL_law_705 : decode cL_law 705 = .ok (.iload 6, 2) := by decide +kernel
theorem dL_law_707 : decode cL_law 707 = .ok (.ifCond .ne 15, 3) := by decide +kernel
theorem dL_law_710 : decode cL_law 710 = .ok (.aload_n 3, 1) := by decide +kernel
theorem dL_law_711 : decode cL_law 711 = .ok (.iconst 0, 1) := by decide +kernel
theorem dL_law_712 : decode cL_law 712 = .ok (.laload, 1) := by decide +kernel
theorem dL_law_713 : decode cL_law 713 = .ok (.iload 7, 2) := by decide +kernel
theorem dL_law_715 : decode cL_law 715 = .ok (.i2l, 1) := by decide +kernel
theorem dL_law_716 : decode cL_law 716 = .ok (.lcmp, 1) := by decide +kernel
theorem dL_law_717 : decode cL_law 717 = .ok (.ifCond .eq 5, 3) := by decide +kernel
theorem dL_law_720 : decode cL_law 720 = .ok (.iconst 0, 1) := by decide +kernel
theorem dL_law_721 : decode cL_law 721 = .ok (.ireturn, 1) := by decide +kernel
theorem dL_law_722 : decode cL_law 722 = .ok (.goto 1713, 3) := by decide +kernel
theorem dL_law_725 : decode cL_law 725 = .ok (.aload_n 1, 1) := by decide +kernel
theorem dL_law_726 : decode cL_law 726 = .ok (.aload_n 0, 1) := by decide +kernel
theorem dL_law_727 : decode cL_law 727 = .ok (.iload 5, 2) := by decide +kernel
theorem dL_law_729 : decode cL_law 729 = .ok (.iconst 1, 1) := by decide +kernel
theorem dL_law_730 : decode cL_law 730 = .ok (.iadd, 1) := by decide +kernel
theorem dL_law_731 : decode cL_law 731 = .ok (.iaload, 1) := by decide +kernel
theorem dL_law_732 : decode cL_law 732 = .ok (.aload_n 0, 1) := by decide +kernel
theorem dL_law_733 : decode cL_law 733 = .ok (.iload 5, 2) := by decide +kernel
theorem dL_law_735 : decode cL_law 735 = .ok (.iconst 2, 1) := by decide +kernel
theorem dL_law_736 : decode cL_law 736 = .ok (.iadd, 1) := by decide +kernel
theorem dL_law_737 : decode cL_law 737 = .ok (.iaload, 1) := by decide +kernel
theorem dL_law_738 : decode cL_law 738 = .ok (.aload_n 3, 1) := by decide +kernel
theorem dL_law_739 : decode cL_law 739 = .ok (.invokestatic 160, 3) := by decide +kernel
theorem dL_law_742 : decode cL_law 742 = .ok (.istore 6, 2) := by decide +kernel
theorem dL_law_744 : decode cL_law 744 = .ok (.aload_n 2, 1) := by decide +kernel
theorem dL_law_745 : decode cL_law 745 = .ok (.aload_n 0, 1) := by decide +kernel
theorem dL_law_746 : decode cL_law 746 = .ok (.iload 5, 2) := by decide +kernel
theorem dL_law_748 : decode cL_law 748 = .ok (.iconst 1, 1) := by decide +kernel
theorem dL_law_749 : decode cL_law 749 = .ok (.iadd, 1) := by decide +kernel
theorem dL_law_750 : decode cL_law 750 = .ok (.iaload, 1) := by decide +kernel
theorem dL_law_751 : decode cL_law 751 = .ok (.aload_n 0, 1) := by decide +kernel
theorem dL_law_752 : decode cL_law 752 = .ok (.iload 5, 2) := by decide +kernel
theorem dL_law_754 : decode cL_law 754 = .ok (.iconst 2, 1) := by decide +kernel
theorem dL_law_755 : decode cL_law 755 = .ok (.iadd, 1) := by decide +kernel
theorem dL_law_756 : decode cL_law 756 = .ok (.iaload, 1) := by decide +kernel
theorem dL_law_757 : decode cL_law 757 = .ok (.invokevirtual 162, 3) := by decide +kernel
theorem dL_law_760 : decode cL_law 760 = .ok (.istore 7, 2) := by decide +kernel
theorem dL_law_762 : decode cL_law 762 = .ok (.aload_n 2, 1) := by decide +kernel
theorem dL_law_763 : decode cL_law 763 = .ok (.invokevirtual 136, 3) := by decide +kernel
theorem dL_law_766 : decode cL_law 766 = .ok (.iload 6, 2) := by decide +kernel
theorem dL_law_768 : decode cL_law 768 = .ok (.if_icmp .eq 5, 3) := by decide +kernel
theorem dL_law_771 : decode cL_law 771 = .ok (.iconst 0, 1) := by decide +kernel
theorem dL_law_772 : decode cL_law 772 = .ok (.ireturn, 1) := by decide +kernel
theorem dL_law_773 : decode cL_law 773 = .ok (.iload 6, 2) := by decide +kernel
theorem dL_law_775 : decode cL_law 775 = .ok (.ifCond .ne 15, 3) := by decide +kernel
theorem dL_law_778 : decode cL_law 778 = .ok (.aload_n 3, 1) := by decide +kernel
theorem dL_law_779 : decode cL_law 779 = .ok (.iconst 0, 1) := by decide +kernel
theorem dL_law_780 : decode cL_law 780 = .ok (.laload, 1) := by decide +kernel
theorem dL_law_781 : decode cL_law 781 = .ok (.iload 7, 2) := by decide +kernel
theorem dL_law_783 : decode cL_law 783 = .ok (.i2l, 1) := by decide +kernel
theorem dL_law_784 : decode cL_law 784 = .ok (.lcmp, 1) := by decide +kernel
theorem dL_law_785 : decode cL_law 785 = .ok (.ifCond .eq 5, 3) := by decide +kernel
theorem dL_law_788 : decode cL_law 788 = .ok (.iconst 0, 1) := by decide +kernel
theorem dL_law_789 : decode cL_law 789 = .ok (.ireturn, 1) := by decide +kernel
theorem dL_law_790 : decode cL_law 790 = .ok (.goto 1645, 3) := by decide +kernel
theorem dL_law_793 : decode cL_law 793 = .ok (.aload_n 1, 1) := by decide +kernel
theorem dL_law_794 : decode cL_law 794 = .ok (.aload_n 0, 1) := by decide +kernel
theorem dL_law_795 : decode cL_law 795 = .ok (.iload 5, 2) := by decide +kernel
theorem dL_law_797 : decode cL_law 797 = .ok (.iconst 1, 1) := by decide +kernel
theorem dL_law_798 : decode cL_law 798 = .ok (.iadd, 1) := by decide +kernel
theorem dL_law_799 : decode cL_law 799 = .ok (.iaload, 1) := by decide +kernel
theorem dL_law_800 : decode cL_law 800 = .ok (.aload_n 3, 1) := by decide +kernel
theorem dL_law_801 : decode cL_law 801 = .ok (.invokestatic 163, 3) := by decide +kernel
theorem dL_law_804 : decode cL_law 804 = .ok (.istore 6, 2) := by decide +kernel
theorem dL_law_806 : decode cL_law 806 = .ok (.aload_n 2, 1) := by decide +kernel
theorem dL_law_807 : decode cL_law 807 = .ok (.aload_n 0, 1) := by decide +kernel
theorem dL_law_808 : decode cL_law 808 = .ok (.iload 5, 2) := by decide +kernel
theorem dL_law_810 : decode cL_law 810 = .ok (.iconst 1, 1) := by decide +kernel
theorem dL_law_811 : decode cL_law 811 = .ok (.iadd, 1) := by decide +kernel
theorem dL_law_812 : decode cL_law 812 = .ok (.iaload, 1) := by decide +kernel
theorem dL_law_813 : decode cL_law 813 = .ok (.invokevirtual 165, 3) := by decide +kernel
theorem dL_law_816 : decode cL_law 816 = .ok (.istore 7, 2) := by decide +kernel
theorem dL_law_818 : decode cL_law 818 = .ok (.aload_n 2, 1) := by decide +kernel
theorem dL_law_819 : decode cL_law 819 = .ok (.invokevirtual 136, 3) := by decide +kernel
theorem dL_law_822 : decode cL_law 822 = .ok (.iload 6, 2) := by decide +kernel
theorem dL_law_824 : decode cL_law 824 = .ok (.if_icmp .eq 5, 3) := by decide +kernel
theorem dL_law_827 : decode cL_law 827 = .ok (.iconst 0, 1) := by decide +kernel
theorem dL_law_828 : decode cL_law 828 = .ok (.ireturn, 1) := by decide +kernel
theorem dL_law_829 : decode cL_law 829 = .ok (.iload 6, 2) := by decide +kernel
theorem dL_law_831 : decode cL_law 831 = .ok (.ifCond .ne 15, 3) := by decide +kernel
theorem dL_law_834 : decode cL_law 834 = .ok (.aload_n 3, 1) := by decide +kernel
theorem dL_law_835 : decode cL_law 835 = .ok (.iconst 0, 1) := by decide +kernel
theorem dL_law_836 : decode cL_law 836 = .ok (.laload, 1) := by decide +kernel
theorem dL_law_837 : decode cL_law 837 = .ok (.iload 7, 2) := by decide +kernel
theorem dL_law_839 : decode cL_law 839 = .ok (.i2l, 1) := by decide +kernel
theorem dL_law_840 : decode cL_law 840 = .ok (.lcmp, 1) := by decide +kernel
theorem dL_law_841 : decode cL_law 841 = .ok (.ifCond .eq 5, 3) := by decide +kernel
theorem dL_law_844 : decode cL_law 844 = .ok (.iconst 0, 1) := by decide +kernel
theorem dL_law_845 : decode cL_law 845 = .ok (.ireturn, 1) := by decide +kernel
theorem dL_law_846 : decode cL_law 846 = .ok (.goto 1589, 3) := by decide +kernel
theorem dL_law_849 : decode cL_law 849 = .ok (.aload_n 1, 1) := by decide +kernel
theorem dL_law_850 : decode cL_law 850 = .ok (.aload_n 0, 1) := by decide +kernel
theorem dL_law_851 : decode cL_law 851 = .ok (.iload 5, 2) := by decide +kernel
theorem dL_law_853 : decode cL_law 853 = .ok (.iconst 1, 1) := by decide +kernel
theorem dL_law_854 : decode cL_law 854 = .ok (.iadd, 1) := by decide +kernel
theorem dL_law_855 : decode cL_law 855 = .ok (.iaload, 1) := by decide +kernel
theorem dL_law_856 : decode cL_law 856 = .ok (.aload_n 0, 1) := by decide +kernel
theorem dL_law_857 : decode cL_law 857 = .ok (.iload 5, 2) := by decide +kernel
theorem dL_law_859 : decode cL_law 859 = .ok (.iconst 2, 1) := by decide +kernel
theorem dL_law_860 : decode cL_law 860 = .ok (.iadd, 1) := by decide +kernel
theorem dL_law_861 : decode cL_law 861 = .ok (.iaload, 1) := by decide +kernel
theorem dL_law_862 : decode cL_law 862 = .ok (.aload_n 0, 1) := by decide +kernel
theorem dL_law_863 : decode cL_law 863 = .ok (.iload 5, 2) := by decide +kernel
theorem dL_law_865 : decode cL_law 865 = .ok (.iconst 3, 1) := by decide +kernel
theorem dL_law_866 : decode cL_law 866 = .ok (.iadd, 1) := by decide +kernel
theorem dL_law_867 : decode cL_law 867 = .ok (.iaload, 1) := by decide +kernel
theorem dL_law_868 : decode cL_law 868 = .ok (.aload_n 0, 1) := by decide +kernel
theorem dL_law_869 : decode cL_law 869 = .ok (.iload 5, 2) := by decide +kernel
theorem dL_law_871 : decode cL_law 871 = .ok (.iconst 4, 1) := by decide +kernel
theorem dL_law_872 : decode cL_law 872 = .ok (.iadd, 1) := by decide +kernel
theorem dL_law_873 : decode cL_law 873 = .ok (.iaload, 1) := by decide +kernel
theorem dL_law_874 : decode cL_law 874 = .ok (.aload_n 0, 1) := by decide +kernel
theorem dL_law_875 : decode cL_law 875 = .ok (.iload 5, 2) := by decide +kernel
theorem dL_law_877 : decode cL_law 877 = .ok (.iconst 5, 1) := by decide +kernel
theorem dL_law_878 : decode cL_law 878 = .ok (.iadd, 1) := by decide +kernel
theorem dL_law_879 : decode cL_law 879 = .ok (.iaload, 1) := by decide +kernel
theorem dL_law_880 : decode cL_law 880 = .ok (.aload_n 3, 1) := by decide +kernel
theorem dL_law_881 : decode cL_law 881 = .ok (.invokestatic 166, 3) := by decide +kernel
theorem dL_law_884 : decode cL_law 884 = .ok (.istore 6, 2) := by decide +kernel
theorem dL_law_886 : decode cL_law 886 = .ok (.aload_n 2, 1) := by decide +kernel
theorem dL_law_887 : decode cL_law 887 = .ok (.aload_n 0, 1) := by decide +kernel
theorem dL_law_888 : decode cL_law 888 = .ok (.iload 5, 2) := by decide +kernel
theorem dL_law_890 : decode cL_law 890 = .ok (.iconst 1, 1) := by decide +kernel
theorem dL_law_891 : decode cL_law 891 = .ok (.iadd, 1) := by decide +kernel
theorem dL_law_892 : decode cL_law 892 = .ok (.iaload, 1) := by decide +kernel
theorem dL_law_893 : decode cL_law 893 = .ok (.aload_n 0, 1) := by decide +kernel
theorem dL_law_894 : decode cL_law 894 = .ok (.iload 5, 2) := by decide +kernel
theorem dL_law_896 : decode cL_law 896 = .ok (.iconst 2, 1) := by decide +kernel
theorem dL_law_897 : decode cL_law 897 = .ok (.iadd, 1) := by decide +kernel
theorem dL_law_898 : decode cL_law 898 = .ok (.iaload, 1) := by decide +kernel
theorem dL_law_899 : decode cL_law 899 = .ok (.aload_n 0, 1) := by decide +kernel
theorem dL_law_900 : decode cL_law 900 = .ok (.iload 5, 2) := by decide +kernel
theorem dL_law_902 : decode cL_law 902 = .ok (.iconst 3, 1) := by decide +kernel
theorem dL_law_903 : decode cL_law 903 = .ok (.iadd, 1) := by decide +kernel
theorem dL_law_904 : decode cL_law 904 = .ok (.iaload, 1) := by decide +kernel
theorem dL_law_905 : decode cL_law 905 = .ok (.aload_n 0, 1) := by decide +kernel
theorem dL_law_906 : decode cL_law 906 = .ok (.iload 5, 2) := by decide +kernel
theorem dL_law_908 : decode cL_law 908 = .ok (.iconst 4, 1) := by decide +kernel
theorem dL_law_909 : decode cL_law 909 = .ok (.iadd, 1) := by decide +kernel
theorem dL_law_910 : decode cL_law 910 = .ok (.iaload, 1) := by decide +kernel
theorem dL_law_911 : decode cL_law 911 = .ok (.aload_n 0, 1) := by decide +kernel
theorem dL_law_912 : decode cL_law 912 = .ok (.iload 5, 2) := by decide +kernel
theorem dL_law_914 : decode cL_law 914 = .ok (.iconst 5, 1) := by decide +kernel
theorem dL_law_915 : decode cL_law 915 = .ok (.iadd, 1) := by decide +kernel
theorem dL_law_916 : decode cL_law 916 = .ok (.iaload, 1) := by decide +kernel
theorem dL_law_917 : decode cL_law 917 = .ok (.invokevirtual 169, 3) := by decide +kernel
theorem dL_law_920 : decode cL_law 920 = .ok (.istore 7, 2) := by decide +kernel
theorem dL_law_922 : decode cL_law 922 = .ok (.aload_n 2, 1) := by decide +kernel
theorem dL_law_923 : decode cL_law 923 = .ok (.invokevirtual 136, 3) := by decide +kernel
theorem dL_law_926 : decode cL_law 926 = .ok (.iload 6, 2) := by decide +kernel
theorem dL_law_928 : decode cL_law 928 = .ok (.if_icmp .eq 5, 3) := by decide +kernel
theorem dL_law_931 : decode cL_law 931 = .ok (.iconst 0, 1) := by decide +kernel
theorem dL_law_932 : decode cL_law 932 = .ok (.ireturn, 1) := by decide +kernel
theorem dL_law_933 : decode cL_law 933 = .ok (.iload 6, 2) := by decide +kernel
theorem dL_law_935 : decode cL_law 935 = .ok (.ifCond .ne 15, 3) := by decide +kernel
theorem dL_law_938 : decode cL_law 938 = .ok (.aload_n 3, 1) := by decide +kernel
theorem dL_law_939 : decode cL_law 939 = .ok (.iconst 0, 1) := by decide +kernel
theorem dL_law_940 : decode cL_law 940 = .ok (.laload, 1) := by decide +kernel
theorem dL_law_941 : decode cL_law 941 = .ok (.iload 7, 2) := by decide +kernel
theorem dL_law_943 : decode cL_law 943 = .ok (.i2l, 1) := by decide +kernel
theorem dL_law_944 : decode cL_law 944 = .ok (.lcmp, 1) := by decide +kernel
theorem dL_law_945 : decode cL_law 945 = .ok (.ifCond .eq 5, 3) := by decide +kernel
theorem dL_law_948 : decode cL_law 948 = .ok (.iconst 0, 1) := by decide +kernel
theorem dL_law_949 : decode cL_law 949 = .ok (.ireturn, 1) := by decide +kernel
theorem dL_law_950 : decode cL_law 950 = .ok (.goto 1485, 3) := by decide +kernel
theorem dL_law_953 : decode cL_law 953 = .ok (.aload_n 1, 1) := by decide +kernel
theorem dL_law_954 : decode cL_law 954 = .ok (.aload_n 0, 1) := by decide +kernel
theorem dL_law_955 : decode cL_law 955 = .ok (.iload 5, 2) := by decide +kernel
theorem dL_law_957 : decode cL_law 957 = .ok (.iconst 1, 1) := by decide +kernel
theorem dL_law_958 : decode cL_law 958 = .ok (.iadd, 1) := by decide +kernel
theorem dL_law_959 : decode cL_law 959 = .ok (.iaload, 1) := by decide +kernel
theorem dL_law_960 : decode cL_law 960 = .ok (.aload_n 0, 1) := by decide +kernel
theorem dL_law_961 : decode cL_law 961 = .ok (.iload 5, 2) := by decide +kernel
theorem dL_law_963 : decode cL_law 963 = .ok (.iconst 2, 1) := by decide +kernel
theorem dL_law_964 : decode cL_law 964 = .ok (.iadd, 1) := by decide +kernel
theorem dL_law_965 : decode cL_law 965 = .ok (.iaload, 1) := by decide +kernel
theorem dL_law_966 : decode cL_law 966 = .ok (.aload_n 3, 1) := by decide +kernel
theorem dL_law_967 : decode cL_law 967 = .ok (.invokestatic 170, 3) := by decide +kernel
theorem dL_law_970 : decode cL_law 970 = .ok (.istore 6, 2) := by decide +kernel
theorem dL_law_972 : decode cL_law 972 = .ok (.aload_n 2, 1) := by decide +kernel
theorem dL_law_973 : decode cL_law 973 = .ok (.aload_n 0, 1) := by decide +kernel
theorem dL_law_974 : decode cL_law 974 = .ok (.iload 5, 2) := by decide +kernel
theorem dL_law_976 : decode cL_law 976 = .ok (.iconst 1, 1) := by decide +kernel
theorem dL_law_977 : decode cL_law 977 = .ok (.iadd, 1) := by decide +kernel
theorem dL_law_978 : decode cL_law 978 = .ok (.iaload, 1) := by decide +kernel
theorem dL_law_979 : decode cL_law 979 = .ok (.aload_n 0, 1) := by decide +kernel
theorem dL_law_980 : decode cL_law 980 = .ok (.iload 5, 2) := by decide +kernel
theorem dL_law_982 : decode cL_law 982 = .ok (.iconst 2, 1) := by decide +kernel
theorem dL_law_983 : decode cL_law 983 = .ok (.iadd, 1) := by decide +kernel
theorem dL_law_984 : decode cL_law 984 = .ok (.iaload, 1) := by decide +kernel
theorem dL_law_985 : decode cL_law 985 = .ok (.invokevirtual 172, 3) := by decide +kernel
theorem dL_law_988 : decode cL_law 988 = .ok (.istore 7, 2) := by decide +kernel
theorem dL_law_990 : decode cL_law 990 = .ok (.aload_n 2, 1) := by decide +kernel
theorem dL_law_991 : decode cL_law 991 = .ok (.invokevirtual 136, 3) := by decide +kernel
theorem dL_law_994 : decode cL_law 994 = .ok (.iload 6, 2) := by decide +kernel
theorem dL_law_996 : decode cL_law 996 = .ok (.if_icmp .eq 5, 3) := by decide +kernel
theorem dL_law_999 : decode cL_law 999 = .ok (.iconst 0, 1) := by decide +kernel
theorem dL_law_1000 : decode cL_law 1000 = .ok (.ireturn, 1) := by decide +kernel
theorem dL_law_1001 : decode cL_law 1001 = .ok (.iload 6, 2) := by decide +kernel
theorem dL_law_1003 : decode cL_law 1003 = .ok (.ifCond .ne 15, 3) := by decide +kernel
theorem dL_law_1006 : decode cL_law 1006 = .ok (.aload_n 3, 1) := by decide +kernel
theorem dL_law_1007 : decode cL_law 1007 = .ok (.iconst 0, 1) := by decide +kernel
theorem dL_law_1008 : decode cL_law 1008 = .ok (.laload, 1) := by decide +kernel
theorem dL_law_1009 : decode cL_law 1009 = .ok (.iload 7, 2) := by decide +kernel
theorem dL_law_1011 : decode cL_law 1011 = .ok (.i2l, 1) := by decide +kernel
theorem dL_law_1012 : decode cL_law 1012 = .ok (.lcmp, 1) := by decide +kernel
theorem dL_law_1013 : decode cL_law 1013 = .ok (.ifCond .eq 5, 3) := by decide +kernel
theorem dL_law_1016 : decode cL_law 1016 = .ok (.iconst 0, 1) := by decide +kernel
theorem dL_law_1017 : decode cL_law 1017 = .ok (.ireturn, 1) := by decide +kernel
theorem dL_law_1018 : decode cL_law 1018 = .ok (.goto 1417, 3) := by decide +kernel
theorem dL_law_1021 : decode cL_law 1021 = .ok (.aload_n 1, 1) := by decide +kernel
theorem dL_law_1022 : decode cL_law 1022 = .ok (.aload_n 0, 1) := by decide +kernel
theorem dL_law_1023 : decode cL_law 1023 = .ok (.iload 5, 2) := by decide +kernel
theorem dL_law_1025 : decode cL_law 1025 = .ok (.iconst 1, 1) := by decide +kernel
theorem dL_law_1026 : decode cL_law 1026 = .ok (.iadd, 1) := by decide +kernel
theorem dL_law_1027 : decode cL_law 1027 = .ok (.iaload, 1) := by decide +kernel
theorem dL_law_1028 : decode cL_law 1028 = .ok (.aload_n 0, 1) := by decide +kernel
theorem dL_law_1029 : decode cL_law 1029 = .ok (.iload 5, 2) := by decide +kernel
theorem dL_law_1031 : decode cL_law 1031 = .ok (.iconst 2, 1) := by decide +kernel
theorem dL_law_1032 : decode cL_law 1032 = .ok (.iadd, 1) := by decide +kernel
theorem dL_law_1033 : decode cL_law 1033 = .ok (.iaload, 1) := by decide +kernel
theorem dL_law_1034 : decode cL_law 1034 = .ok (.aload_n 3, 1) := by decide +kernel
theorem dL_law_1035 : decode cL_law 1035 = .ok (.invokestatic 173, 3) := by decide +kernel
theorem dL_law_1038 : decode cL_law 1038 = .ok (.istore 6, 2) := by decide +kernel
theorem dL_law_1040 : decode cL_law 1040 = .ok (.aload_n 2, 1) := by decide +kernel
theorem dL_law_1041 : decode cL_law 1041 = .ok (.aload_n 0, 1) := by decide +kernel
theorem dL_law_1042 : decode cL_law 1042 = .ok (.iload 5, 2) := by decide +kernel
theorem dL_law_1044 : decode cL_law 1044 = .ok (.iconst 1, 1) := by decide +kernel
theorem dL_law_1045 : decode cL_law 1045 = .ok (.iadd, 1) := by decide +kernel
theorem dL_law_1046 : decode cL_law 1046 = .ok (.iaload, 1) := by decide +kernel
theorem dL_law_1047 : decode cL_law 1047 = .ok (.aload_n 0, 1) := by decide +kernel
theorem dL_law_1048 : decode cL_law 1048 = .ok (.iload 5, 2) := by decide +kernel
theorem dL_law_1050 : decode cL_law 1050 = .ok (.iconst 2, 1) := by decide +kernel
theorem dL_law_1051 : decode cL_law 1051 = .ok (.iadd, 1) := by decide +kernel
theorem dL_law_1052 : decode cL_law 1052 = .ok (.iaload, 1) := by decide +kernel
theorem dL_law_1053 : decode cL_law 1053 = .ok (.invokevirtual 175, 3) := by decide +kernel
theorem dL_law_1056 : decode cL_law 1056 = .ok (.istore 7, 2) := by decide +kernel
theorem dL_law_1058 : decode cL_law 1058 = .ok (.aload_n 2, 1) := by decide +kernel
theorem dL_law_1059 : decode cL_law 1059 = .ok (.invokevirtual 136, 3) := by decide +kernel
theorem dL_law_1062 : decode cL_law 1062 = .ok (.iload 6, 2) := by decide +kernel
theorem dL_law_1064 : decode cL_law 1064 = .ok (.if_icmp .eq 5, 3) := by decide +kernel
theorem dL_law_1067 : decode cL_law 1067 = .ok (.iconst 0, 1) := by decide +kernel
theorem dL_law_1068 : decode cL_law 1068 = .ok (.ireturn, 1) := by decide +kernel
theorem dL_law_1069 : decode cL_law 1069 = .ok (.iload 6, 2) := by decide +kernel
theorem dL_law_1071 : decode cL_law 1071 = .ok (.ifCond .ne 15, 3) := by decide +kernel
theorem dL_law_1074 : decode cL_law 1074 = .ok (.aload_n 3, 1) := by decide +kernel
theorem dL_law_1075 : decode cL_law 1075 = .ok (.iconst 0, 1) := by decide +kernel
theorem dL_law_1076 : decode cL_law 1076 = .ok (.laload, 1) := by decide +kernel
theorem dL_law_1077 : decode cL_law 1077 = .ok (.iload 7, 2) := by decide +kernel
theorem dL_law_1079 : decode cL_law 1079 = .ok (.i2l, 1) := by decide +kernel
theorem dL_law_1080 : decode cL_law 1080 = .ok (.lcmp, 1) := by decide +kernel
theorem dL_law_1081 : decode cL_law 1081 = .ok (.ifCond .eq 5, 3) := by decide +kernel
theorem dL_law_1084 : decode cL_law 1084 = .ok (.iconst 0, 1) := by decide +kernel
theorem dL_law_1085 : decode cL_law 1085 = .ok (.ireturn, 1) := by decide +kernel
theorem dL_law_1086 : decode cL_law 1086 = .ok (.goto 1349, 3) := by decide +kernel
theorem dL_law_1089 : decode cL_law 1089 = .ok (.aload_n 1, 1) := by decide +kernel
theorem dL_law_1090 : decode cL_law 1090 = .ok (.aload_n 0, 1) := by decide +kernel
theorem dL_law_1091 : decode cL_law 1091 = .ok (.iload 5, 2) := by decide +kernel
theorem dL_law_1093 : decode cL_law 1093 = .ok (.iconst 1, 1) := by decide +kernel
theorem dL_law_1094 : decode cL_law 1094 = .ok (.iadd, 1) := by decide +kernel
theorem dL_law_1095 : decode cL_law 1095 = .ok (.iaload, 1) := by decide +kernel
theorem dL_law_1096 : decode cL_law 1096 = .ok (.aload_n 0, 1) := by decide +kernel
theorem dL_law_1097 : decode cL_law 1097 = .ok (.iload 5, 2) := by decide +kernel
theorem dL_law_1099 : decode cL_law 1099 = .ok (.iconst 2, 1) := by decide +kernel
theorem dL_law_1100 : decode cL_law 1100 = .ok (.iadd, 1) := by decide +kernel
theorem dL_law_1101 : decode cL_law 1101 = .ok (.iaload, 1) := by decide +kernel
theorem dL_law_1102 : decode cL_law 1102 = .ok (.aload_n 3, 1) := by decide +kernel
theorem dL_law_1103 : decode cL_law 1103 = .ok (.invokestatic 176, 3) := by decide +kernel
theorem dL_law_1106 : decode cL_law 1106 = .ok (.istore 6, 2) := by decide +kernel
theorem dL_law_1108 : decode cL_law 1108 = .ok (.aload_n 2, 1) := by decide +kernel
theorem dL_law_1109 : decode cL_law 1109 = .ok (.aload_n 0, 1) := by decide +kernel
theorem dL_law_1110 : decode cL_law 1110 = .ok (.iload 5, 2) := by decide +kernel
theorem dL_law_1112 : decode cL_law 1112 = .ok (.iconst 1, 1) := by decide +kernel
theorem dL_law_1113 : decode cL_law 1113 = .ok (.iadd, 1) := by decide +kernel
theorem dL_law_1114 : decode cL_law 1114 = .ok (.iaload, 1) := by decide +kernel
theorem dL_law_1115 : decode cL_law 1115 = .ok (.aload_n 0, 1) := by decide +kernel
theorem dL_law_1116 : decode cL_law 1116 = .ok (.iload 5, 2) := by decide +kernel
theorem dL_law_1118 : decode cL_law 1118 = .ok (.iconst 2, 1) := by decide +kernel
theorem dL_law_1119 : decode cL_law 1119 = .ok (.iadd, 1) := by decide +kernel
theorem dL_law_1120 : decode cL_law 1120 = .ok (.iaload, 1) := by decide +kernel
theorem dL_law_1121 : decode cL_law 1121 = .ok (.invokevirtual 178, 3) := by decide +kernel
theorem dL_law_1124 : decode cL_law 1124 = .ok (.istore 7, 2) := by decide +kernel
theorem dL_law_1126 : decode cL_law 1126 = .ok (.aload_n 2, 1) := by decide +kernel
theorem dL_law_1127 : decode cL_law 1127 = .ok (.invokevirtual 136, 3) := by decide +kernel
theorem dL_law_1130 : decode cL_law 1130 = .ok (.iload 6, 2) := by decide +kernel
theorem dL_law_1132 : decode cL_law 1132 = .ok (.if_icmp .eq 5, 3) := by decide +kernel
theorem dL_law_1135 : decode cL_law 1135 = .ok (.iconst 0, 1) := by decide +kernel
theorem dL_law_1136 : decode cL_law 1136 = .ok (.ireturn, 1) := by decide +kernel
theorem dL_law_1137 : decode cL_law 1137 = .ok (.iload 6, 2) := by decide +kernel
theorem dL_law_1139 : decode cL_law 1139 = .ok (.ifCond .ne 15, 3) := by decide +kernel
theorem dL_law_1142 : decode cL_law 1142 = .ok (.aload_n 3, 1) := by decide +kernel
theorem dL_law_1143 : decode cL_law 1143 = .ok (.iconst 0, 1) := by decide +kernel
theorem dL_law_1144 : decode cL_law 1144 = .ok (.laload, 1) := by decide +kernel
theorem dL_law_1145 : decode cL_law 1145 = .ok (.iload 7, 2) := by decide +kernel
theorem dL_law_1147 : decode cL_law 1147 = .ok (.i2l, 1) := by decide +kernel
theorem dL_law_1148 : decode cL_law 1148 = .ok (.lcmp, 1) := by decide +kernel
theorem dL_law_1149 : decode cL_law 1149 = .ok (.ifCond .eq 5, 3) := by decide +kernel
theorem dL_law_1152 : decode cL_law 1152 = .ok (.iconst 0, 1) := by decide +kernel
theorem dL_law_1153 : decode cL_law 1153 = .ok (.ireturn, 1) := by decide +kernel
theorem dL_law_1154 : decode cL_law 1154 = .ok (.goto 1281, 3) := by decide +kernel
theorem dL_law_1157 : decode cL_law 1157 = .ok (.aload_n 1, 1) := by decide +kernel
theorem dL_law_1158 : decode cL_law 1158 = .ok (.aload_n 0, 1) := by decide +kernel
theorem dL_law_1159 : decode cL_law 1159 = .ok (.iload 5, 2) := by decide +kernel
theorem dL_law_1161 : decode cL_law 1161 = .ok (.iconst 1, 1) := by decide +kernel
theorem dL_law_1162 : decode cL_law 1162 = .ok (.iadd, 1) := by decide +kernel
theorem dL_law_1163 : decode cL_law 1163 = .ok (.iaload, 1) := by decide +kernel
theorem dL_law_1164 : decode cL_law 1164 = .ok (.aload_n 0, 1) := by decide +kernel
theorem dL_law_1165 : decode cL_law 1165 = .ok (.iload 5, 2) := by decide +kernel
theorem dL_law_1167 : decode cL_law 1167 = .ok (.iconst 2, 1) := by decide +kernel
theorem dL_law_1168 : decode cL_law 1168 = .ok (.iadd, 1) := by decide +kernel
theorem dL_law_1169 : decode cL_law 1169 = .ok (.iaload, 1) := by decide +kernel
theorem dL_law_1170 : decode cL_law 1170 = .ok (.aload_n 3, 1) := by decide +kernel
theorem dL_law_1171 : decode cL_law 1171 = .ok (.invokestatic 179, 3) := by decide +kernel
theorem dL_law_1174 : decode cL_law 1174 = .ok (.istore 6, 2) := by decide +kernel
theorem dL_law_1176 : decode cL_law 1176 = .ok (.aload_n 2, 1) := by decide +kernel
theorem dL_law_1177 : decode cL_law 1177 = .ok (.aload_n 0, 1) := by decide +kernel
theorem dL_law_1178 : decode cL_law 1178 = .ok (.iload 5, 2) := by decide +kernel
theorem dL_law_1180 : decode cL_law 1180 = .ok (.iconst 1, 1) := by decide +kernel
theorem dL_law_1181 : decode cL_law 1181 = .ok (.iadd, 1) := by decide +kernel
theorem dL_law_1182 : decode cL_law 1182 = .ok (.iaload, 1) := by decide +kernel
theorem dL_law_1183 : decode cL_law 1183 = .ok (.aload_n 0, 1) := by decide +kernel
theorem dL_law_1184 : decode cL_law 1184 = .ok (.iload 5, 2) := by decide +kernel
theorem dL_law_1186 : decode cL_law 1186 = .ok (.iconst 2, 1) := by decide +kernel
theorem dL_law_1187 : decode cL_law 1187 = .ok (.iadd, 1) := by decide +kernel
theorem dL_law_1188 : decode cL_law 1188 = .ok (.iaload, 1) := by decide +kernel
theorem dL_law_1189 : decode cL_law 1189 = .ok (.invokevirtual 181, 3) := by decide +kernel
theorem dL_law_1192 : decode cL_law 1192 = .ok (.istore 7, 2) := by decide +kernel
theorem dL_law_1194 : decode cL_law 1194 = .ok (.aload_n 2, 1) := by decide +kernel
theorem dL_law_1195 : decode cL_law 1195 = .ok (.invokevirtual 136, 3) := by decide +kernel
theorem dL_law_1198 : decode cL_law 1198 = .ok (.iload 6, 2) := by decide +kernel
theorem dL_law_1200 : decode cL_law 1200 = .ok (.if_icmp .eq 5, 3) := by decide +kernel
theorem dL_law_1203 : decode cL_law 1203 = .ok (.iconst 0, 1) := by decide +kernel
theorem dL_law_1204 : decode cL_law 1204 = .ok (.ireturn, 1) := by decide +kernel
theorem dL_law_1205 : decode cL_law 1205 = .ok (.iload 6, 2) := by decide +kernel
theorem dL_law_1207 : decode cL_law 1207 = .ok (.ifCond .ne 15, 3) := by decide +kernel
theorem dL_law_1210 : decode cL_law 1210 = .ok (.aload_n 3, 1) := by decide +kernel
theorem dL_law_1211 : decode cL_law 1211 = .ok (.iconst 0, 1) := by decide +kernel
theorem dL_law_1212 : decode cL_law 1212 = .ok (.laload, 1) := by decide +kernel
theorem dL_law_1213 : decode cL_law 1213 = .ok (.iload 7, 2) := by decide +kernel
theorem dL_law_1215 : decode cL_law 1215 = .ok (.i2l, 1) := by decide +kernel
theorem dL_law_1216 : decode cL_law 1216 = .ok (.lcmp, 1) := by decide +kernel
theorem dL_law_1217 : decode cL_law 1217 = .ok (.ifCond .eq 5, 3) := by decide +kernel
theorem dL_law_1220 : decode cL_law 1220 = .ok (.iconst 0, 1) := by decide +kernel
theorem dL_law_1221 : decode cL_law 1221 = .ok (.ireturn, 1) := by decide +kernel
theorem dL_law_1222 : decode cL_law 1222 = .ok (.goto 1213, 3) := by decide +kernel
theorem dL_law_1225 : decode cL_law 1225 = .ok (.aload_n 1, 1) := by decide +kernel
theorem dL_law_1226 : decode cL_law 1226 = .ok (.aload_n 0, 1) := by decide +kernel
theorem dL_law_1227 : decode cL_law 1227 = .ok (.iload 5, 2) := by decide +kernel
theorem dL_law_1229 : decode cL_law 1229 = .ok (.iconst 1, 1) := by decide +kernel
theorem dL_law_1230 : decode cL_law 1230 = .ok (.iadd, 1) := by decide +kernel
theorem dL_law_1231 : decode cL_law 1231 = .ok (.iaload, 1) := by decide +kernel
theorem dL_law_1232 : decode cL_law 1232 = .ok (.aload_n 0, 1) := by decide +kernel
theorem dL_law_1233 : decode cL_law 1233 = .ok (.iload 5, 2) := by decide +kernel
theorem dL_law_1235 : decode cL_law 1235 = .ok (.iconst 2, 1) := by decide +kernel
theorem dL_law_1236 : decode cL_law 1236 = .ok (.iadd, 1) := by decide +kernel
theorem dL_law_1237 : decode cL_law 1237 = .ok (.iaload, 1) := by decide +kernel
theorem dL_law_1238 : decode cL_law 1238 = .ok (.aload_n 3, 1) := by decide +kernel
theorem dL_law_1239 : decode cL_law 1239 = .ok (.invokestatic 182, 3) := by decide +kernel
theorem dL_law_1242 : decode cL_law 1242 = .ok (.istore 6, 2) := by decide +kernel
theorem dL_law_1244 : decode cL_law 1244 = .ok (.aload_n 2, 1) := by decide +kernel
theorem dL_law_1245 : decode cL_law 1245 = .ok (.aload_n 0, 1) := by decide +kernel
theorem dL_law_1246 : decode cL_law 1246 = .ok (.iload 5, 2) := by decide +kernel
theorem dL_law_1248 : decode cL_law 1248 = .ok (.iconst 1, 1) := by decide +kernel
theorem dL_law_1249 : decode cL_law 1249 = .ok (.iadd, 1) := by decide +kernel
theorem dL_law_1250 : decode cL_law 1250 = .ok (.iaload, 1) := by decide +kernel
theorem dL_law_1251 : decode cL_law 1251 = .ok (.aload_n 0, 1) := by decide +kernel
theorem dL_law_1252 : decode cL_law 1252 = .ok (.iload 5, 2) := by decide +kernel
theorem dL_law_1254 : decode cL_law 1254 = .ok (.iconst 2, 1) := by decide +kernel
theorem dL_law_1255 : decode cL_law 1255 = .ok (.iadd, 1) := by decide +kernel
theorem dL_law_1256 : decode cL_law 1256 = .ok (.iaload, 1) := by decide +kernel
theorem dL_law_1257 : decode cL_law 1257 = .ok (.invokevirtual 184, 3) := by decide +kernel
theorem dL_law_1260 : decode cL_law 1260 = .ok (.istore 7, 2) := by decide +kernel
theorem dL_law_1262 : decode cL_law 1262 = .ok (.aload_n 2, 1) := by decide +kernel
theorem dL_law_1263 : decode cL_law 1263 = .ok (.invokevirtual 136, 3) := by decide +kernel
theorem dL_law_1266 : decode cL_law 1266 = .ok (.iload 6, 2) := by decide +kernel
theorem dL_law_1268 : decode cL_law 1268 = .ok (.if_icmp .eq 5, 3) := by decide +kernel
theorem dL_law_1271 : decode cL_law 1271 = .ok (.iconst 0, 1) := by decide +kernel
theorem dL_law_1272 : decode cL_law 1272 = .ok (.ireturn, 1) := by decide +kernel
theorem dL_law_1273 : decode cL_law 1273 = .ok (.iload 6, 2) := by decide +kernel
theorem dL_law_1275 : decode cL_law 1275 = .ok (.ifCond .ne 15, 3) := by decide +kernel
theorem dL_law_1278 : decode cL_law 1278 = .ok (.aload_n 3, 1) := by decide +kernel
theorem dL_law_1279 : decode cL_law 1279 = .ok (.iconst 0, 1) := by decide +kernel
theorem dL_law_1280 : decode cL_law 1280 = .ok (.laload, 1) := by decide +kernel
theorem dL_law_1281 : decode cL_law 1281 = .ok (.iload 7, 2) := by decide +kernel
theorem dL_law_1283 : decode cL_law 1283 = .ok (.i2l, 1) := by decide +kernel
theorem dL_law_1284 : decode cL_law 1284 = .ok (.lcmp, 1) := by decide +kernel
theorem dL_law_1285 : decode cL_law 1285 = .ok (.ifCond .eq 5, 3) := by decide +kernel
theorem dL_law_1288 : decode cL_law 1288 = .ok (.iconst 0, 1) := by decide +kernel
theorem dL_law_1289 : decode cL_law 1289 = .ok (.ireturn, 1) := by decide +kernel
theorem dL_law_1290 : decode cL_law 1290 = .ok (.goto 1145, 3) := by decide +kernel
theorem dL_law_1293 : decode cL_law 1293 = .ok (.aload_n 1, 1) := by decide +kernel
theorem dL_law_1294 : decode cL_law 1294 = .ok (.aload_n 0, 1) := by decide +kernel
theorem dL_law_1295 : decode cL_law 1295 = .ok (.iload 5, 2) := by decide +kernel
theorem dL_law_1297 : decode cL_law 1297 = .ok (.iconst 1, 1) := by decide +kernel
theorem dL_law_1298 : decode cL_law 1298 = .ok (.iadd, 1) := by decide +kernel
theorem dL_law_1299 : decode cL_law 1299 = .ok (.iaload, 1) := by decide +kernel
theorem dL_law_1300 : decode cL_law 1300 = .ok (.aload_n 3, 1) := by decide +kernel
theorem dL_law_1301 : decode cL_law 1301 = .ok (.invokestatic 185, 3) := by decide +kernel
theorem dL_law_1304 : decode cL_law 1304 = .ok (.istore 6, 2) := by decide +kernel
theorem dL_law_1306 : decode cL_law 1306 = .ok (.aload_n 2, 1) := by decide +kernel
theorem dL_law_1307 : decode cL_law 1307 = .ok (.aload_n 0, 1) := by decide +kernel
theorem dL_law_1308 : decode cL_law 1308 = .ok (.iload 5, 2) := by decide +kernel
theorem dL_law_1310 : decode cL_law 1310 = .ok (.iconst 1, 1) := by decide +kernel
theorem dL_law_1311 : decode cL_law 1311 = .ok (.iadd, 1) := by decide +kernel
theorem dL_law_1312 : decode cL_law 1312 = .ok (.iaload, 1) := by decide +kernel
theorem dL_law_1313 : decode cL_law 1313 = .ok (.invokevirtual 187, 3) := by decide +kernel
theorem dL_law_1316 : decode cL_law 1316 = .ok (.istore 7, 2) := by decide +kernel
theorem dL_law_1318 : decode cL_law 1318 = .ok (.aload_n 2, 1) := by decide +kernel
theorem dL_law_1319 : decode cL_law 1319 = .ok (.invokevirtual 136, 3) := by decide +kernel
theorem dL_law_1322 : decode cL_law 1322 = .ok (.iload 6, 2) := by decide +kernel
theorem dL_law_1324 : decode cL_law 1324 = .ok (.if_icmp .eq 5, 3) := by decide +kernel
theorem dL_law_1327 : decode cL_law 1327 = .ok (.iconst 0, 1) := by decide +kernel
theorem dL_law_1328 : decode cL_law 1328 = .ok (.ireturn, 1) := by decide +kernel
theorem dL_law_1329 : decode cL_law 1329 = .ok (.iload 6, 2) := by decide +kernel
theorem dL_law_1331 : decode cL_law 1331 = .ok (.ifCond .ne 22, 3) := by decide +kernel
theorem dL_law_1334 : decode cL_law 1334 = .ok (.aload_n 3, 1) := by decide +kernel
theorem dL_law_1335 : decode cL_law 1335 = .ok (.iconst 0, 1) := by decide +kernel
theorem dL_law_1336 : decode cL_law 1336 = .ok (.laload, 1) := by decide +kernel
theorem dL_law_1337 : decode cL_law 1337 = .ok (.iload 7, 2) := by decide +kernel
theorem dL_law_1339 : decode cL_law 1339 = .ok (.ifCond .eq 7, 3) := by decide +kernel
theorem dL_law_1342 : decode cL_law 1342 = .ok (.lconst 1, 1) := by decide +kernel
theorem dL_law_1343 : decode cL_law 1343 = .ok (.goto 4, 3) := by decide +kernel
theorem dL_law_1346 : decode cL_law 1346 = .ok (.lconst 0, 1) := by decide +kernel
theorem dL_law_1347 : decode cL_law 1347 = .ok (.lcmp, 1) := by decide +kernel
theorem dL_law_1348 : decode cL_law 1348 = .ok (.ifCond .eq 5, 3) := by decide +kernel
theorem dL_law_1351 : decode cL_law 1351 = .ok (.iconst 0, 1) := by decide +kernel
theorem dL_law_1352 : decode cL_law 1352 = .ok (.ireturn, 1) := by decide +kernel
theorem dL_law_1353 : decode cL_law 1353 = .ok (.goto 1082, 3) := by decide +kernel
theorem dL_law_1356 : decode cL_law 1356 = .ok (.aload_n 1, 1) := by decide +kernel
theorem dL_law_1357 : decode cL_law 1357 = .ok (.aload_n 0, 1) := by decide +kernel
theorem dL_law_1358 : decode cL_law 1358 = .ok (.iload 5, 2) := by decide +kernel
theorem dL_law_1360 : decode cL_law 1360 = .ok (.iconst 1, 1) := by decide +kernel
theorem dL_law_1361 : decode cL_law 1361 = .ok (.iadd, 1) := by decide +kernel
theorem dL_law_1362 : decode cL_law 1362 = .ok (.iaload, 1) := by decide +kernel
theorem dL_law_1363 : decode cL_law 1363 = .ok (.aload_n 0, 1) := by decide +kernel
theorem dL_law_1364 : decode cL_law 1364 = .ok (.iload 5, 2) := by decide +kernel
theorem dL_law_1366 : decode cL_law 1366 = .ok (.iconst 2, 1) := by decide +kernel
theorem dL_law_1367 : decode cL_law 1367 = .ok (.iadd, 1) := by decide +kernel
theorem dL_law_1368 : decode cL_law 1368 = .ok (.iaload, 1) := by decide +kernel
theorem dL_law_1369 : decode cL_law 1369 = .ok (.aload_n 0, 1) := by decide +kernel
theorem dL_law_1370 : decode cL_law 1370 = .ok (.iload 5, 2) := by decide +kernel
theorem dL_law_1372 : decode cL_law 1372 = .ok (.iconst 3, 1) := by decide +kernel
theorem dL_law_1373 : decode cL_law 1373 = .ok (.iadd, 1) := by decide +kernel
theorem dL_law_1374 : decode cL_law 1374 = .ok (.iaload, 1) := by decide +kernel
theorem dL_law_1375 : decode cL_law 1375 = .ok (.aload_n 0, 1) := by decide +kernel
theorem dL_law_1376 : decode cL_law 1376 = .ok (.iload 5, 2) := by decide +kernel
theorem dL_law_1378 : decode cL_law 1378 = .ok (.iconst 4, 1) := by decide +kernel
theorem dL_law_1379 : decode cL_law 1379 = .ok (.iadd, 1) := by decide +kernel
theorem dL_law_1380 : decode cL_law 1380 = .ok (.iaload, 1) := by decide +kernel
theorem dL_law_1381 : decode cL_law 1381 = .ok (.aload_n 0, 1) := by decide +kernel
theorem dL_law_1382 : decode cL_law 1382 = .ok (.iload 5, 2) := by decide +kernel
theorem dL_law_1384 : decode cL_law 1384 = .ok (.iconst 5, 1) := by decide +kernel
theorem dL_law_1385 : decode cL_law 1385 = .ok (.iadd, 1) := by decide +kernel
theorem dL_law_1386 : decode cL_law 1386 = .ok (.iaload, 1) := by decide +kernel
theorem dL_law_1387 : decode cL_law 1387 = .ok (.ifCond .eq 7, 3) := by decide +kernel
theorem dL_law_1390 : decode cL_law 1390 = .ok (.iconst 1, 1) := by decide +kernel
theorem dL_law_1391 : decode cL_law 1391 = .ok (.goto 4, 3) := by decide +kernel
theorem dL_law_1394 : decode cL_law 1394 = .ok (.iconst 0, 1) := by decide +kernel
theorem dL_law_1395 : decode cL_law 1395 = .ok (.aload_n 3, 1) := by decide +kernel
theorem dL_law_1396 : decode cL_law 1396 = .ok (.invokestatic 188, 3) := by decide +kernel
theorem dL_law_1399 : decode cL_law 1399 = .ok (.istore 6, 2) := by decide +kernel
theorem dL_law_1401 : decode cL_law 1401 = .ok (.aload_n 2, 1) := by decide +kernel
theorem dL_law_1402 : decode cL_law 1402 = .ok (.aload_n 0, 1) := by decide +kernel
theorem dL_law_1403 : decode cL_law 1403 = .ok (.iload 5, 2) := by decide +kernel
theorem dL_law_1405 : decode cL_law 1405 = .ok (.iconst 1, 1) := by decide +kernel
theorem dL_law_1406 : decode cL_law 1406 = .ok (.iadd, 1) := by decide +kernel
theorem dL_law_1407 : decode cL_law 1407 = .ok (.iaload, 1) := by decide +kernel
theorem dL_law_1408 : decode cL_law 1408 = .ok (.aload_n 0, 1) := by decide +kernel
theorem dL_law_1409 : decode cL_law 1409 = .ok (.iload 5, 2) := by decide +kernel
theorem dL_law_1411 : decode cL_law 1411 = .ok (.iconst 2, 1) := by decide +kernel
theorem dL_law_1412 : decode cL_law 1412 = .ok (.iadd, 1) := by decide +kernel
theorem dL_law_1413 : decode cL_law 1413 = .ok (.iaload, 1) := by decide +kernel
theorem dL_law_1414 : decode cL_law 1414 = .ok (.aload_n 0, 1) := by decide +kernel
theorem dL_law_1415 : decode cL_law 1415 = .ok (.iload 5, 2) := by decide +kernel
theorem dL_law_1417 : decode cL_law 1417 = .ok (.iconst 3, 1) := by decide +kernel
theorem dL_law_1418 : decode cL_law 1418 = .ok (.iadd, 1) := by decide +kernel
theorem dL_law_1419 : decode cL_law 1419 = .ok (.iaload, 1) := by decide +kernel
theorem dL_law_1420 : decode cL_law 1420 = .ok (.aload_n 0, 1) := by decide +kernel
theorem dL_law_1421 : decode cL_law 1421 = .ok (.iload 5, 2) := by decide +kernel
theorem dL_law_1423 : decode cL_law 1423 = .ok (.iconst 4, 1) := by decide +kernel
theorem dL_law_1424 : decode cL_law 1424 = .ok (.iadd, 1) := by decide +kernel
theorem dL_law_1425 : decode cL_law 1425 = .ok (.iaload, 1) := by decide +kernel
theorem dL_law_1426 : decode cL_law 1426 = .ok (.aload_n 0, 1) := by decide +kernel
theorem dL_law_1427 : decode cL_law 1427 = .ok (.iload 5, 2) := by decide +kernel
theorem dL_law_1429 : decode cL_law 1429 = .ok (.iconst 5, 1) := by decide +kernel
theorem dL_law_1430 : decode cL_law 1430 = .ok (.iadd, 1) := by decide +kernel
theorem dL_law_1431 : decode cL_law 1431 = .ok (.iaload, 1) := by decide +kernel
theorem dL_law_1432 : decode cL_law 1432 = .ok (.ifCond .eq 7, 3) := by decide +kernel
theorem dL_law_1435 : decode cL_law 1435 = .ok (.iconst 1, 1) := by decide +kernel
theorem dL_law_1436 : decode cL_law 1436 = .ok (.goto 4, 3) := by decide +kernel
theorem dL_law_1439 : decode cL_law 1439 = .ok (.iconst 0, 1) := by decide +kernel
theorem dL_law_1440 : decode cL_law 1440 = .ok (.invokevirtual 191, 3) := by decide +kernel
theorem dL_law_1443 : decode cL_law 1443 = .ok (.istore 7, 2) := by decide +kernel
theorem dL_law_1445 : decode cL_law 1445 = .ok (.aload_n 2, 1) := by decide +kernel
theorem dL_law_1446 : decode cL_law 1446 = .ok (.invokevirtual 136, 3) := by decide +kernel
theorem dL_law_1449 : decode cL_law 1449 = .ok (.iload 6, 2) := by decide +kernel
theorem dL_law_1451 : decode cL_law 1451 = .ok (.if_icmp .eq 5, 3) := by decide +kernel
theorem dL_law_1454 : decode cL_law 1454 = .ok (.iconst 0, 1) := by decide +kernel
theorem dL_law_1455 : decode cL_law 1455 = .ok (.ireturn, 1) := by decide +kernel
theorem dL_law_1456 : decode cL_law 1456 = .ok (.iload 6, 2) := by decide +kernel
theorem dL_law_1458 : decode cL_law 1458 = .ok (.ifCond .ne 15, 3) := by decide +kernel
theorem dL_law_1461 : decode cL_law 1461 = .ok (.aload_n 3, 1) := by decide +kernel
theorem dL_law_1462 : decode cL_law 1462 = .ok (.iconst 0, 1) := by decide +kernel
theorem dL_law_1463 : decode cL_law 1463 = .ok (.laload, 1) := by decide +kernel
theorem dL_law_1464 : decode cL_law 1464 = .ok (.iload 7, 2) := by decide +kernel
theorem dL_law_1466 : decode cL_law 1466 = .ok (.i2l, 1) := by decide +kernel
theorem dL_law_1467 : decode cL_law 1467 = .ok (.lcmp, 1) := by decide +kernel
theorem dL_law_1468 : decode cL_law 1468 = .ok (.ifCond .eq 5, 3) := by decide +kernel
theorem dL_law_1471 : decode cL_law 1471 = .ok (.iconst 0, 1) := by decide +kernel
theorem dL_law_1472 : decode cL_law 1472 = .ok (.ireturn, 1) := by decide +kernel
theorem dL_law_1473 : decode cL_law 1473 = .ok (.goto 962, 3) := by decide +kernel
theorem dL_law_1476 : decode cL_law 1476 = .ok (.aload_n 1, 1) := by decide +kernel
theorem dL_law_1477 : decode cL_law 1477 = .ok (.aload_n 0, 1) := by decide +kernel
theorem dL_law_1478 : decode cL_law 1478 = .ok (.iload 5, 2) := by decide +kernel
theorem dL_law_1480 : decode cL_law 1480 = .ok (.iconst 1, 1) := by decide +kernel
theorem dL_law_1481 : decode cL_law 1481 = .ok (.iadd, 1) := by decide +kernel
theorem dL_law_1482 : decode cL_law 1482 = .ok (.iaload, 1) := by decide +kernel
theorem dL_law_1483 : decode cL_law 1483 = .ok (.i2c, 1) := by decide +kernel
theorem dL_law_1484 : decode cL_law 1484 = .ok (.aload_n 0, 1) := by decide +kernel
theorem dL_law_1485 : decode cL_law 1485 = .ok (.iload 5, 2) := by decide +kernel
theorem dL_law_1487 : decode cL_law 1487 = .ok (.iconst 2, 1) := by decide +kernel
theorem dL_law_1488 : decode cL_law 1488 = .ok (.iadd, 1) := by decide +kernel
theorem dL_law_1489 : decode cL_law 1489 = .ok (.iaload, 1) := by decide +kernel
theorem dL_law_1490 : decode cL_law 1490 = .ok (.aload_n 0, 1) := by decide +kernel
theorem dL_law_1491 : decode cL_law 1491 = .ok (.iload 5, 2) := by decide +kernel
theorem dL_law_1493 : decode cL_law 1493 = .ok (.iconst 3, 1) := by decide +kernel
theorem dL_law_1494 : decode cL_law 1494 = .ok (.iadd, 1) := by decide +kernel
theorem dL_law_1495 : decode cL_law 1495 = .ok (.iaload, 1) := by decide +kernel
theorem dL_law_1496 : decode cL_law 1496 = .ok (.aload_n 0, 1) := by decide +kernel
theorem dL_law_1497 : decode cL_law 1497 = .ok (.iload 5, 2) := by decide +kernel
theorem dL_law_1499 : decode cL_law 1499 = .ok (.iconst 4, 1) := by decide +kernel
theorem dL_law_1500 : decode cL_law 1500 = .ok (.iadd, 1) := by decide +kernel
theorem dL_law_1501 : decode cL_law 1501 = .ok (.iaload, 1) := by decide +kernel
theorem dL_law_1502 : decode cL_law 1502 = .ok (.aload_n 0, 1) := by decide +kernel
theorem dL_law_1503 : decode cL_law 1503 = .ok (.iload 5, 2) := by decide +kernel
theorem dL_law_1505 : decode cL_law 1505 = .ok (.iconst 5, 1) := by decide +kernel
theorem dL_law_1506 : decode cL_law 1506 = .ok (.iadd, 1) := by decide +kernel
theorem dL_law_1507 : decode cL_law 1507 = .ok (.iaload, 1) := by decide +kernel
theorem dL_law_1508 : decode cL_law 1508 = .ok (.aload_n 3, 1) := by decide +kernel
theorem dL_law_1509 : decode cL_law 1509 = .ok (.invokestatic 192, 3) := by decide +kernel
theorem dL_law_1512 : decode cL_law 1512 = .ok (.istore 6, 2) := by decide +kernel
theorem dL_law_1514 : decode cL_law 1514 = .ok (.aload_n 2, 1) := by decide +kernel
theorem dL_law_1515 : decode cL_law 1515 = .ok (.aload_n 0, 1) := by decide +kernel
theorem dL_law_1516 : decode cL_law 1516 = .ok (.iload 5, 2) := by decide +kernel
theorem dL_law_1518 : decode cL_law 1518 = .ok (.iconst 1, 1) := by decide +kernel
theorem dL_law_1519 : decode cL_law 1519 = .ok (.iadd, 1) := by decide +kernel
theorem dL_law_1520 : decode cL_law 1520 = .ok (.iaload, 1) := by decide +kernel
theorem dL_law_1521 : decode cL_law 1521 = .ok (.i2c, 1) := by decide +kernel
theorem dL_law_1522 : decode cL_law 1522 = .ok (.aload_n 0, 1) := by decide +kernel
theorem dL_law_1523 : decode cL_law 1523 = .ok (.iload 5, 2) := by decide +kernel
theorem dL_law_1525 : decode cL_law 1525 = .ok (.iconst 2, 1) := by decide +kernel
theorem dL_law_1526 : decode cL_law 1526 = .ok (.iadd, 1) := by decide +kernel
theorem dL_law_1527 : decode cL_law 1527 = .ok (.iaload, 1) := by decide +kernel
theorem dL_law_1528 : decode cL_law 1528 = .ok (.aload_n 0, 1) := by decide +kernel
theorem dL_law_1529 : decode cL_law 1529 = .ok (.iload 5, 2) := by decide +kernel
theorem dL_law_1531 : decode cL_law 1531 = .ok (.iconst 3, 1) := by decide +kernel
theorem dL_law_1532 : decode cL_law 1532 = .ok (.iadd, 1) := by decide +kernel
theorem dL_law_1533 : decode cL_law 1533 = .ok (.iaload, 1) := by decide +kernel
theorem dL_law_1534 : decode cL_law 1534 = .ok (.aload_n 0, 1) := by decide +kernel
theorem dL_law_1535 : decode cL_law 1535 = .ok (.iload 5, 2) := by decide +kernel
theorem dL_law_1537 : decode cL_law 1537 = .ok (.iconst 4, 1) := by decide +kernel
theorem dL_law_1538 : decode cL_law 1538 = .ok (.iadd, 1) := by decide +kernel
theorem dL_law_1539 : decode cL_law 1539 = .ok (.iaload, 1) := by decide +kernel
theorem dL_law_1540 : decode cL_law 1540 = .ok (.aload_n 0, 1) := by decide +kernel
theorem dL_law_1541 : decode cL_law 1541 = .ok (.iload 5, 2) := by decide +kernel
theorem dL_law_1543 : decode cL_law 1543 = .ok (.iconst 5, 1) := by decide +kernel
theorem dL_law_1544 : decode cL_law 1544 = .ok (.iadd, 1) := by decide +kernel
theorem dL_law_1545 : decode cL_law 1545 = .ok (.iaload, 1) := by decide +kernel
theorem dL_law_1546 : decode cL_law 1546 = .ok (.invokevirtual 195, 3) := by decide +kernel
theorem dL_law_1549 : decode cL_law 1549 = .ok (.istore 7, 2) := by decide +kernel
theorem dL_law_1551 : decode cL_law 1551 = .ok (.aload_n 2, 1) := by decide +kernel
theorem dL_law_1552 : decode cL_law 1552 = .ok (.invokevirtual 136, 3) := by decide +kernel
theorem dL_law_1555 : decode cL_law 1555 = .ok (.iload 6, 2) := by decide +kernel
theorem dL_law_1557 : decode cL_law 1557 = .ok (.if_icmp .eq 5, 3) := by decide +kernel
theorem dL_law_1560 : decode cL_law 1560 = .ok (.iconst 0, 1) := by decide +kernel
theorem dL_law_1561 : decode cL_law 1561 = .ok (.ireturn, 1) := by decide +kernel
theorem dL_law_1562 : decode cL_law 1562 = .ok (.iload 6, 2) := by decide +kernel
theorem dL_law_1564 : decode cL_law 1564 = .ok (.ifCond .ne 15, 3) := by decide +kernel
theorem dL_law_1567 : decode cL_law 1567 = .ok (.aload_n 3, 1) := by decide +kernel
theorem dL_law_1568 : decode cL_law 1568 = .ok (.iconst 0, 1) := by decide +kernel
theorem dL_law_1569 : decode cL_law 1569 = .ok (.laload, 1) := by decide +kernel
theorem dL_law_1570 : decode cL_law 1570 = .ok (.iload 7, 2) := by decide +kernel
theorem dL_law_1572 : decode cL_law 1572 = .ok (.i2l, 1) := by decide +kernel
theorem dL_law_1573 : decode cL_law 1573 = .ok (.lcmp, 1) := by decide +kernel
theorem dL_law_1574 : decode cL_law 1574 = .ok (.ifCond .eq 5, 3) := by decide +kernel
theorem dL_law_1577 : decode cL_law 1577 = .ok (.iconst 0, 1) := by decide +kernel
theorem dL_law_1578 : decode cL_law 1578 = .ok (.ireturn, 1) := by decide +kernel
theorem dL_law_1579 : decode cL_law 1579 = .ok (.goto 856, 3) := by decide +kernel
theorem dL_law_1582 : decode cL_law 1582 = .ok (.aload_n 1, 1) := by decide +kernel
theorem dL_law_1583 : decode cL_law 1583 = .ok (.aload_n 0, 1) := by decide +kernel
theorem dL_law_1584 : decode cL_law 1584 = .ok (.iload 5, 2) := by decide +kernel
theorem dL_law_1586 : decode cL_law 1586 = .ok (.iconst 1, 1) := by decide +kernel
theorem dL_law_1587 : decode cL_law 1587 = .ok (.iadd, 1) := by decide +kernel
theorem dL_law_1588 : decode cL_law 1588 = .ok (.iaload, 1) := by decide +kernel
theorem dL_law_1589 : decode cL_law 1589 = .ok (.aload_n 3, 1) := by decide +kernel
theorem dL_law_1590 : decode cL_law 1590 = .ok (.invokestatic 196, 3) := by decide +kernel
theorem dL_law_1593 : decode cL_law 1593 = .ok (.istore 6, 2) := by decide +kernel
theorem dL_law_1595 : decode cL_law 1595 = .ok (.aload_n 2, 1) := by decide +kernel
theorem dL_law_1596 : decode cL_law 1596 = .ok (.aload_n 0, 1) := by decide +kernel
theorem dL_law_1597 : decode cL_law 1597 = .ok (.iload 5, 2) := by decide +kernel
theorem dL_law_1599 : decode cL_law 1599 = .ok (.iconst 1, 1) := by decide +kernel
theorem dL_law_1600 : decode cL_law 1600 = .ok (.iadd, 1) := by decide +kernel
theorem dL_law_1601 : decode cL_law 1601 = .ok (.iaload, 1) := by decide +kernel
theorem dL_law_1602 : decode cL_law 1602 = .ok (.invokevirtual 198, 3) := by decide +kernel
theorem dL_law_1605 : decode cL_law 1605 = .ok (.istore 7, 2) := by decide +kernel
theorem dL_law_1607 : decode cL_law 1607 = .ok (.aload_n 2, 1) := by decide +kernel
theorem dL_law_1608 : decode cL_law 1608 = .ok (.invokevirtual 136, 3) := by decide +kernel
theorem dL_law_1611 : decode cL_law 1611 = .ok (.iload 6, 2) := by decide +kernel
theorem dL_law_1613 : decode cL_law 1613 = .ok (.if_icmp .eq 5, 3) := by decide +kernel
theorem dL_law_1616 : decode cL_law 1616 = .ok (.iconst 0, 1) := by decide +kernel
theorem dL_law_1617 : decode cL_law 1617 = .ok (.ireturn, 1) := by decide +kernel
theorem dL_law_1618 : decode cL_law 1618 = .ok (.iload 6, 2) := by decide +kernel
theorem dL_law_1620 : decode cL_law 1620 = .ok (.ifCond .ne 15, 3) := by decide +kernel
theorem dL_law_1623 : decode cL_law 1623 = .ok (.aload_n 3, 1) := by decide +kernel
theorem dL_law_1624 : decode cL_law 1624 = .ok (.iconst 0, 1) := by decide +kernel
theorem dL_law_1625 : decode cL_law 1625 = .ok (.laload, 1) := by decide +kernel
theorem dL_law_1626 : decode cL_law 1626 = .ok (.iload 7, 2) := by decide +kernel
theorem dL_law_1628 : decode cL_law 1628 = .ok (.i2l, 1) := by decide +kernel
theorem dL_law_1629 : decode cL_law 1629 = .ok (.lcmp, 1) := by decide +kernel
theorem dL_law_1630 : decode cL_law 1630 = .ok (.ifCond .eq 5, 3) := by decide +kernel
theorem dL_law_1633 : decode cL_law 1633 = .ok (.iconst 0, 1) := by decide +kernel
theorem dL_law_1634 : decode cL_law 1634 = .ok (.ireturn, 1) := by decide +kernel
theorem dL_law_1635 : decode cL_law 1635 = .ok (.goto 800, 3) := by decide +kernel
theorem dL_law_1638 : decode cL_law 1638 = .ok (.aload_n 1, 1) := by decide +kernel
theorem dL_law_1639 : decode cL_law 1639 = .ok (.aload_n 0, 1) := by decide +kernel
theorem dL_law_1640 : decode cL_law 1640 = .ok (.iload 5, 2) := by decide +kernel
theorem dL_law_1642 : decode cL_law 1642 = .ok (.iconst 1, 1) := by decide +kernel
theorem dL_law_1643 : decode cL_law 1643 = .ok (.iadd, 1) := by decide +kernel
theorem dL_law_1644 : decode cL_law 1644 = .ok (.iaload, 1) := by decide +kernel
theorem dL_law_1645 : decode cL_law 1645 = .ok (.aload_n 0, 1) := by decide +kernel
theorem dL_law_1646 : decode cL_law 1646 = .ok (.iload 5, 2) := by decide +kernel
theorem dL_law_1648 : decode cL_law 1648 = .ok (.iconst 2, 1) := by decide +kernel
theorem dL_law_1649 : decode cL_law 1649 = .ok (.iadd, 1) := by decide +kernel
theorem dL_law_1650 : decode cL_law 1650 = .ok (.iaload, 1) := by decide +kernel
theorem dL_law_1651 : decode cL_law 1651 = .ok (.i2c, 1) := by decide +kernel
theorem dL_law_1652 : decode cL_law 1652 = .ok (.aload_n 3, 1) := by decide +kernel
theorem dL_law_1653 : decode cL_law 1653 = .ok (.invokestatic 199, 3) := by decide +kernel
theorem dL_law_1656 : decode cL_law 1656 = .ok (.istore 6, 2) := by decide +kernel
theorem dL_law_1658 : decode cL_law 1658 = .ok (.aload_n 2, 1) := by decide +kernel
theorem dL_law_1659 : decode cL_law 1659 = .ok (.aload_n 0, 1) := by decide +kernel
theorem dL_law_1660 : decode cL_law 1660 = .ok (.iload 5, 2) := by decide +kernel
theorem dL_law_1662 : decode cL_law 1662 = .ok (.iconst 1, 1) := by decide +kernel
theorem dL_law_1663 : decode cL_law 1663 = .ok (.iadd, 1) := by decide +kernel
theorem dL_law_1664 : decode cL_law 1664 = .ok (.iaload, 1) := by decide +kernel
theorem dL_law_1665 : decode cL_law 1665 = .ok (.aload_n 0, 1) := by decide +kernel
theorem dL_law_1666 : decode cL_law 1666 = .ok (.iload 5, 2) := by decide +kernel
theorem dL_law_1668 : decode cL_law 1668 = .ok (.iconst 2, 1) := by decide +kernel
theorem dL_law_1669 : decode cL_law 1669 = .ok (.iadd, 1) := by decide +kernel
theorem dL_law_1670 : decode cL_law 1670 = .ok (.iaload, 1) := by decide +kernel
theorem dL_law_1671 : decode cL_law 1671 = .ok (.i2c, 1) := by decide +kernel
theorem dL_law_1672 : decode cL_law 1672 = .ok (.invokevirtual 202, 3) := by decide +kernel
theorem dL_law_1675 : decode cL_law 1675 = .ok (.istore 7, 2) := by decide +kernel
theorem dL_law_1677 : decode cL_law 1677 = .ok (.aload_n 2, 1) := by decide +kernel
theorem dL_law_1678 : decode cL_law 1678 = .ok (.invokevirtual 136, 3) := by decide +kernel
theorem dL_law_1681 : decode cL_law 1681 = .ok (.iload 6, 2) := by decide +kernel
theorem dL_law_1683 : decode cL_law 1683 = .ok (.if_icmp .eq 5, 3) := by decide +kernel
theorem dL_law_1686 : decode cL_law 1686 = .ok (.iconst 0, 1) := by decide +kernel
theorem dL_law_1687 : decode cL_law 1687 = .ok (.ireturn, 1) := by decide +kernel
theorem dL_law_1688 : decode cL_law 1688 = .ok (.iload 6, 2) := by decide +kernel
theorem dL_law_1690 : decode cL_law 1690 = .ok (.ifCond .ne 15, 3) := by decide +kernel
theorem dL_law_1693 : decode cL_law 1693 = .ok (.aload_n 3, 1) := by decide +kernel
theorem dL_law_1694 : decode cL_law 1694 = .ok (.iconst 0, 1) := by decide +kernel
theorem dL_law_1695 : decode cL_law 1695 = .ok (.laload, 1) := by decide +kernel
theorem dL_law_1696 : decode cL_law 1696 = .ok (.iload 7, 2) := by decide +kernel
theorem dL_law_1698 : decode cL_law 1698 = .ok (.i2l, 1) := by decide +kernel
theorem dL_law_1699 : decode cL_law 1699 = .ok (.lcmp, 1) := by decide +kernel
theorem dL_law_1700 : decode cL_law 1700 = .ok (.ifCond .eq 5, 3) := by decide +kernel
theorem dL_law_1703 : decode cL_law 1703 = .ok (.iconst 0, 1) := by decide +kernel
theorem dL_law_1704 : decode cL_law 1704 = .ok (.ireturn, 1) := by decide +kernel
theorem dL_law_1705 : decode cL_law 1705 = .ok (.goto 730, 3) := by decide +kernel
theorem dL_law_1708 : decode cL_law 1708 = .ok (.aload_n 1, 1) := by decide +kernel
theorem dL_law_1709 : decode cL_law 1709 = .ok (.aload_n 0, 1) := by decide +kernel
theorem dL_law_1710 : decode cL_law 1710 = .ok (.iload 5, 2) := by decide +kernel
theorem dL_law_1712 : decode cL_law 1712 = .ok (.iconst 1, 1) := by decide +kernel
theorem dL_law_1713 : decode cL_law 1713 = .ok (.iadd, 1) := by decide +kernel
theorem dL_law_1714 : decode cL_law 1714 = .ok (.iaload, 1) := by decide +kernel
theorem dL_law_1715 : decode cL_law 1715 = .ok (.aload_n 3, 1) := by decide +kernel
theorem dL_law_1716 : decode cL_law 1716 = .ok (.invokestatic 203, 3) := by decide +kernel
theorem dL_law_1719 : decode cL_law 1719 = .ok (.istore 6, 2) := by decide +kernel
theorem dL_law_1721 : decode cL_law 1721 = .ok (.aload_n 2, 1) := by decide +kernel
theorem dL_law_1722 : decode cL_law 1722 = .ok (.aload_n 0, 1) := by decide +kernel
theorem dL_law_1723 : decode cL_law 1723 = .ok (.iload 5, 2) := by decide +kernel
theorem dL_law_1725 : decode cL_law 1725 = .ok (.iconst 1, 1) := by decide +kernel
theorem dL_law_1726 : decode cL_law 1726 = .ok (.iadd, 1) := by decide +kernel
theorem dL_law_1727 : decode cL_law 1727 = .ok (.iaload, 1) := by decide +kernel
theorem dL_law_1728 : decode cL_law 1728 = .ok (.invokevirtual 205, 3) := by decide +kernel
theorem dL_law_1731 : decode cL_law 1731 = .ok (.istore 7, 2) := by decide +kernel
theorem dL_law_1733 : decode cL_law 1733 = .ok (.aload_n 2, 1) := by decide +kernel
theorem dL_law_1734 : decode cL_law 1734 = .ok (.invokevirtual 136, 3) := by decide +kernel
theorem dL_law_1737 : decode cL_law 1737 = .ok (.iload 6, 2) := by decide +kernel
theorem dL_law_1739 : decode cL_law 1739 = .ok (.if_icmp .eq 5, 3) := by decide +kernel
theorem dL_law_1742 : decode cL_law 1742 = .ok (.iconst 0, 1) := by decide +kernel
theorem dL_law_1743 : decode cL_law 1743 = .ok (.ireturn, 1) := by decide +kernel
theorem dL_law_1744 : decode cL_law 1744 = .ok (.iload 6, 2) := by decide +kernel
theorem dL_law_1746 : decode cL_law 1746 = .ok (.ifCond .ne 15, 3) := by decide +kernel
theorem dL_law_1749 : decode cL_law 1749 = .ok (.aload_n 3, 1) := by decide +kernel
theorem dL_law_1750 : decode cL_law 1750 = .ok (.iconst 0, 1) := by decide +kernel
theorem dL_law_1751 : decode cL_law 1751 = .ok (.laload, 1) := by decide +kernel
theorem dL_law_1752 : decode cL_law 1752 = .ok (.iload 7, 2) := by decide +kernel
theorem dL_law_1754 : decode cL_law 1754 = .ok (.i2l, 1) := by decide +kernel
theorem dL_law_1755 : decode cL_law 1755 = .ok (.lcmp, 1) := by decide +kernel
theorem dL_law_1756 : decode cL_law 1756 = .ok (.ifCond .eq 5, 3) := by decide +kernel
theorem dL_law_1759 : decode cL_law 1759 = .ok (.iconst 0, 1) := by decide +kernel
theorem dL_law_1760 : decode cL_law 1760 = .ok (.ireturn, 1) := by decide +kernel
theorem dL_law_1761 : decode cL_law 1761 = .ok (.goto 674, 3) := by decide +kernel
theorem dL_law_1764 : decode cL_law 1764 = .ok (.aload_n 1, 1) := by decide +kernel
theorem dL_law_1765 : decode cL_law 1765 = .ok (.aload_n 0, 1) := by decide +kernel
theorem dL_law_1766 : decode cL_law 1766 = .ok (.iload 5, 2) := by decide +kernel
theorem dL_law_1768 : decode cL_law 1768 = .ok (.iconst 1, 1) := by decide +kernel
theorem dL_law_1769 : decode cL_law 1769 = .ok (.iadd, 1) := by decide +kernel
theorem dL_law_1770 : decode cL_law 1770 = .ok (.iaload, 1) := by decide +kernel
theorem dL_law_1771 : decode cL_law 1771 = .ok (.aload_n 3, 1) := by decide +kernel
theorem dL_law_1772 : decode cL_law 1772 = .ok (.invokestatic 206, 3) := by decide +kernel
theorem dL_law_1775 : decode cL_law 1775 = .ok (.istore 6, 2) := by decide +kernel
theorem dL_law_1777 : decode cL_law 1777 = .ok (.aload_n 2, 1) := by decide +kernel
theorem dL_law_1778 : decode cL_law 1778 = .ok (.aload_n 0, 1) := by decide +kernel
theorem dL_law_1779 : decode cL_law 1779 = .ok (.iload 5, 2) := by decide +kernel
theorem dL_law_1781 : decode cL_law 1781 = .ok (.iconst 1, 1) := by decide +kernel
theorem dL_law_1782 : decode cL_law 1782 = .ok (.iadd, 1) := by decide +kernel
theorem dL_law_1783 : decode cL_law 1783 = .ok (.iaload, 1) := by decide +kernel
theorem dL_law_1784 : decode cL_law 1784 = .ok (.invokevirtual 208, 3) := by decide +kernel
theorem dL_law_1787 : decode cL_law 1787 = .ok (.istore 7, 2) := by decide +kernel
theorem dL_law_1789 : decode cL_law 1789 = .ok (.aload_n 2, 1) := by decide +kernel
theorem dL_law_1790 : decode cL_law 1790 = .ok (.invokevirtual 136, 3) := by decide +kernel
theorem dL_law_1793 : decode cL_law 1793 = .ok (.iload 6, 2) := by decide +kernel
theorem dL_law_1795 : decode cL_law 1795 = .ok (.if_icmp .eq 5, 3) := by decide +kernel
theorem dL_law_1798 : decode cL_law 1798 = .ok (.iconst 0, 1) := by decide +kernel
theorem dL_law_1799 : decode cL_law 1799 = .ok (.ireturn, 1) := by decide +kernel
theorem dL_law_1800 : decode cL_law 1800 = .ok (.iload 6, 2) := by decide +kernel
theorem dL_law_1802 : decode cL_law 1802 = .ok (.ifCond .ne 15, 3) := by decide +kernel
theorem dL_law_1805 : decode cL_law 1805 = .ok (.aload_n 3, 1) := by decide +kernel
theorem dL_law_1806 : decode cL_law 1806 = .ok (.iconst 0, 1) := by decide +kernel
theorem dL_law_1807 : decode cL_law 1807 = .ok (.laload, 1) := by decide +kernel
theorem dL_law_1808 : decode cL_law 1808 = .ok (.iload 7, 2) := by decide +kernel
theorem dL_law_1810 : decode cL_law 1810 = .ok (.i2l, 1) := by decide +kernel
theorem dL_law_1811 : decode cL_law 1811 = .ok (.lcmp, 1) := by decide +kernel
theorem dL_law_1812 : decode cL_law 1812 = .ok (.ifCond .eq 5, 3) := by decide +kernel
theorem dL_law_1815 : decode cL_law 1815 = .ok (.iconst 0, 1) := by decide +kernel
theorem dL_law_1816 : decode cL_law 1816 = .ok (.ireturn, 1) := by decide +kernel
theorem dL_law_1817 : decode cL_law 1817 = .ok (.goto 618, 3) := by decide +kernel
theorem dL_law_1820 : decode cL_law 1820 = .ok (.aload_n 1, 1) := by decide +kernel
theorem dL_law_1821 : decode cL_law 1821 = .ok (.aload_n 0, 1) := by decide +kernel
theorem dL_law_1822 : decode cL_law 1822 = .ok (.iload 5, 2) := by decide +kernel
theorem dL_law_1824 : decode cL_law 1824 = .ok (.iconst 1, 1) := by decide +kernel
theorem dL_law_1825 : decode cL_law 1825 = .ok (.iadd, 1) := by decide +kernel
theorem dL_law_1826 : decode cL_law 1826 = .ok (.iaload, 1) := by decide +kernel
theorem dL_law_1827 : decode cL_law 1827 = .ok (.aload_n 3, 1) := by decide +kernel
theorem dL_law_1828 : decode cL_law 1828 = .ok (.invokestatic 209, 3) := by decide +kernel
theorem dL_law_1831 : decode cL_law 1831 = .ok (.istore 6, 2) := by decide +kernel
theorem dL_law_1833 : decode cL_law 1833 = .ok (.aload_n 2, 1) := by decide +kernel
theorem dL_law_1834 : decode cL_law 1834 = .ok (.aload_n 0, 1) := by decide +kernel
theorem dL_law_1835 : decode cL_law 1835 = .ok (.iload 5, 2) := by decide +kernel
theorem dL_law_1837 : decode cL_law 1837 = .ok (.iconst 1, 1) := by decide +kernel
theorem dL_law_1838 : decode cL_law 1838 = .ok (.iadd, 1) := by decide +kernel
theorem dL_law_1839 : decode cL_law 1839 = .ok (.iaload, 1) := by decide +kernel
theorem dL_law_1840 : decode cL_law 1840 = .ok (.invokevirtual 211, 3) := by decide +kernel
theorem dL_law_1843 : decode cL_law 1843 = .ok (.istore 7, 2) := by decide +kernel
theorem dL_law_1845 : decode cL_law 1845 = .ok (.aload_n 2, 1) := by decide +kernel
theorem dL_law_1846 : decode cL_law 1846 = .ok (.invokevirtual 136, 3) := by decide +kernel
theorem dL_law_1849 : decode cL_law 1849 = .ok (.iload 6, 2) := by decide +kernel
theorem dL_law_1851 : decode cL_law 1851 = .ok (.if_icmp .eq 5, 3) := by decide +kernel
theorem dL_law_1854 : decode cL_law 1854 = .ok (.iconst 0, 1) := by decide +kernel
theorem dL_law_1855 : decode cL_law 1855 = .ok (.ireturn, 1) := by decide +kernel
theorem dL_law_1856 : decode cL_law 1856 = .ok (.iload 6, 2) := by decide +kernel
theorem dL_law_1858 : decode cL_law 1858 = .ok (.ifCond .ne 15, 3) := by decide +kernel
theorem dL_law_1861 : decode cL_law 1861 = .ok (.aload_n 3, 1) := by decide +kernel
theorem dL_law_1862 : decode cL_law 1862 = .ok (.iconst 0, 1) := by decide +kernel
theorem dL_law_1863 : decode cL_law 1863 = .ok (.laload, 1) := by decide +kernel
theorem dL_law_1864 : decode cL_law 1864 = .ok (.iload 7, 2) := by decide +kernel
theorem dL_law_1866 : decode cL_law 1866 = .ok (.i2l, 1) := by decide +kernel
theorem dL_law_1867 : decode cL_law 1867 = .ok (.lcmp, 1) := by decide +kernel
theorem dL_law_1868 : decode cL_law 1868 = .ok (.ifCond .eq 5, 3) := by decide +kernel
theorem dL_law_1871 : decode cL_law 1871 = .ok (.iconst 0, 1) := by decide +kernel
theorem dL_law_1872 : decode cL_law 1872 = .ok (.ireturn, 1) := by decide +kernel
theorem dL_law_1873 : decode cL_law 1873 = .ok (.goto 562, 3) := by decide +kernel
theorem dL_law_1876 : decode cL_law 1876 = .ok (.aload_n 1, 1) := by decide +kernel
theorem dL_law_1877 : decode cL_law 1877 = .ok (.aload_n 0, 1) := by decide +kernel
theorem dL_law_1878 : decode cL_law 1878 = .ok (.iload 5, 2) := by decide +kernel
theorem dL_law_1880 : decode cL_law 1880 = .ok (.iconst 1, 1) := by decide +kernel
theorem dL_law_1881 : decode cL_law 1881 = .ok (.iadd, 1) := by decide +kernel
theorem dL_law_1882 : decode cL_law 1882 = .ok (.iaload, 1) := by decide +kernel
theorem dL_law_1883 : decode cL_law 1883 = .ok (.aload_n 3, 1) := by decide +kernel
theorem dL_law_1884 : decode cL_law 1884 = .ok (.invokestatic 212, 3) := by decide +kernel
theorem dL_law_1887 : decode cL_law 1887 = .ok (.istore 6, 2) := by decide +kernel
theorem dL_law_1889 : decode cL_law 1889 = .ok (.aload_n 2, 1) := by decide +kernel
theorem dL_law_1890 : decode cL_law 1890 = .ok (.aload_n 0, 1) := by decide +kernel
theorem dL_law_1891 : decode cL_law 1891 = .ok (.iload 5, 2) := by decide +kernel
theorem dL_law_1893 : decode cL_law 1893 = .ok (.iconst 1, 1) := by decide +kernel
theorem dL_law_1894 : decode cL_law 1894 = .ok (.iadd, 1) := by decide +kernel
theorem dL_law_1895 : decode cL_law 1895 = .ok (.iaload, 1) := by decide +kernel
theorem dL_law_1896 : decode cL_law 1896 = .ok (.invokevirtual 214, 3) := by decide +kernel
theorem dL_law_1899 : decode cL_law 1899 = .ok (.istore 7, 2) := by decide +kernel
theorem dL_law_1901 : decode cL_law 1901 = .ok (.aload_n 2, 1) := by decide +kernel
theorem dL_law_1902 : decode cL_law 1902 = .ok (.invokevirtual 136, 3) := by decide +kernel
theorem dL_law_1905 : decode cL_law 1905 = .ok (.iload 6, 2) := by decide +kernel
theorem dL_law_1907 : decode cL_law 1907 = .ok (.if_icmp .eq 5, 3) := by decide +kernel
theorem dL_law_1910 : decode cL_law 1910 = .ok (.iconst 0, 1) := by decide +kernel
theorem dL_law_1911 : decode cL_law 1911 = .ok (.ireturn, 1) := by decide +kernel
theorem dL_law_1912 : decode cL_law 1912 = .ok (.iload 6, 2) := by decide +kernel
theorem dL_law_1914 : decode cL_law 1914 = .ok (.ifCond .ne 15, 3) := by decide +kernel
theorem dL_law_1917 : decode cL_law 1917 = .ok (.aload_n 3, 1) := by decide +kernel
theorem dL_law_1918 : decode cL_law 1918 = .ok (.iconst 0, 1) := by decide +kernel
theorem dL_law_1919 : decode cL_law 1919 = .ok (.laload, 1) := by decide +kernel
theorem dL_law_1920 : decode cL_law 1920 = .ok (.iload 7, 2) := by decide +kernel
theorem dL_law_1922 : decode cL_law 1922 = .ok (.i2l, 1) := by decide +kernel
theorem dL_law_1923 : decode cL_law 1923 = .ok (.lcmp, 1) := by decide +kernel
theorem dL_law_1924 : decode cL_law 1924 = .ok (.ifCond .eq 5, 3) := by decide +kernel
theorem dL_law_1927 : decode cL_law 1927 = .ok (.iconst 0, 1) := by decide +kernel
theorem dL_law_1928 : decode cL_law 1928 = .ok (.ireturn, 1) := by decide +kernel
theorem dL_law_1929 : decode cL_law 1929 = .ok (.goto 506, 3) := by decide +kernel
theorem dL_law_1932 : decode cL_law 1932 = .ok (.aload_n 1, 1) := by decide +kernel
theorem dL_law_1933 : decode cL_law 1933 = .ok (.aload_n 0, 1) := by decide +kernel
theorem dL_law_1934 : decode cL_law 1934 = .ok (.iload 5, 2) := by decide +kernel
theorem dL_law_1936 : decode cL_law 1936 = .ok (.iconst 1, 1) := by decide +kernel
theorem dL_law_1937 : decode cL_law 1937 = .ok (.iadd, 1) := by decide +kernel
theorem dL_law_1938 : decode cL_law 1938 = .ok (.iaload, 1) := by decide +kernel
theorem dL_law_1939 : decode cL_law 1939 = .ok (.aload_n 3, 1) := by decide +kernel
theorem dL_law_1940 : decode cL_law 1940 = .ok (.invokestatic 215, 3) := by decide +kernel
theorem dL_law_1943 : decode cL_law 1943 = .ok (.istore 6, 2) := by decide +kernel
theorem dL_law_1945 : decode cL_law 1945 = .ok (.aload_n 2, 1) := by decide +kernel
theorem dL_law_1946 : decode cL_law 1946 = .ok (.aload_n 0, 1) := by decide +kernel
theorem dL_law_1947 : decode cL_law 1947 = .ok (.iload 5, 2) := by decide +kernel
theorem dL_law_1949 : decode cL_law 1949 = .ok (.iconst 1, 1) := by decide +kernel
theorem dL_law_1950 : decode cL_law 1950 = .ok (.iadd, 1) := by decide +kernel
theorem dL_law_1951 : decode cL_law 1951 = .ok (.iaload, 1) := by decide +kernel
theorem dL_law_1952 : decode cL_law 1952 = .ok (.invokevirtual 217, 3) := by decide +kernel
theorem dL_law_1955 : decode cL_law 1955 = .ok (.istore 7, 2) := by decide +kernel
theorem dL_law_1957 : decode cL_law 1957 = .ok (.aload_n 2, 1) := by decide +kernel
theorem dL_law_1958 : decode cL_law 1958 = .ok (.invokevirtual 136, 3) := by decide +kernel
theorem dL_law_1961 : decode cL_law 1961 = .ok (.iload 6, 2) := by decide +kernel
theorem dL_law_1963 : decode cL_law 1963 = .ok (.if_icmp .eq 5, 3) := by decide +kernel
theorem dL_law_1966 : decode cL_law 1966 = .ok (.iconst 0, 1) := by decide +kernel
theorem dL_law_1967 : decode cL_law 1967 = .ok (.ireturn, 1) := by decide +kernel
theorem dL_law_1968 : decode cL_law 1968 = .ok (.iload 6, 2) := by decide +kernel
theorem dL_law_1970 : decode cL_law 1970 = .ok (.ifCond .ne 15, 3) := by decide +kernel
theorem dL_law_1973 : decode cL_law 1973 = .ok (.aload_n 3, 1) := by decide +kernel
theorem dL_law_1974 : decode cL_law 1974 = .ok (.iconst 0, 1) := by decide +kernel
theorem dL_law_1975 : decode cL_law 1975 = .ok (.laload, 1) := by decide +kernel
theorem dL_law_1976 : decode cL_law 1976 = .ok (.iload 7, 2) := by decide +kernel
theorem dL_law_1978 : decode cL_law 1978 = .ok (.i2l, 1) := by decide +kernel
theorem dL_law_1979 : decode cL_law 1979 = .ok (.lcmp, 1) := by decide +kernel
theorem dL_law_1980 : decode cL_law 1980 = .ok (.ifCond .eq 5, 3) := by decide +kernel
theorem dL_law_1983 : decode cL_law 1983 = .ok (.iconst 0, 1) := by decide +kernel
theorem dL_law_1984 : decode cL_law 1984 = .ok (.ireturn, 1) := by decide +kernel
theorem dL_law_1985 : decode cL_law 1985 = .ok (.goto 450, 3) := by decide +kernel
theorem dL_law_1988 : decode cL_law 1988 = .ok (.aload_n 1, 1) := by decide +kernel
theorem dL_law_1989 : decode cL_law 1989 = .ok (.aload_n 0, 1) := by decide +kernel
theorem dL_law_1990 : decode cL_law 1990 = .ok (.iload 5, 2) := by decide +kernel
theorem dL_law_1992 : decode cL_law 1992 = .ok (.iconst 1, 1) := by decide +kernel
theorem dL_law_1993 : decode cL_law 1993 = .ok (.iadd, 1) := by decide +kernel
theorem dL_law_1994 : decode cL_law 1994 = .ok (.iaload, 1) := by decide +kernel
theorem dL_law_1995 : decode cL_law 1995 = .ok (.aload_n 3, 1) := by decide +kernel
theorem dL_law_1996 : decode cL_law 1996 = .ok (.invokestatic 218, 3) := by decide +kernel
theorem dL_law_1999 : decode cL_law 1999 = .ok (.istore 6, 2) := by decide +kernel
theorem dL_law_2001 : decode cL_law 2001 = .ok (.aload_n 2, 1) := by decide +kernel
theorem dL_law_2002 : decode cL_law 2002 = .ok (.aload_n 0, 1) := by decide +kernel
theorem dL_law_2003 : decode cL_law 2003 = .ok (.iload 5, 2) := by decide +kernel
theorem dL_law_2005 : decode cL_law 2005 = .ok (.iconst 1, 1) := by decide +kernel
theorem dL_law_2006 : decode cL_law 2006 = .ok (.iadd, 1) := by decide +kernel
theorem dL_law_2007 : decode cL_law 2007 = .ok (.iaload, 1) := by decide +kernel
theorem dL_law_2008 : decode cL_law 2008 = .ok (.invokevirtual 220, 3) := by decide +kernel
theorem dL_law_2011 : decode cL_law 2011 = .ok (.istore 7, 2) := by decide +kernel
theorem dL_law_2013 : decode cL_law 2013 = .ok (.aload_n 2, 1) := by decide +kernel
theorem dL_law_2014 : decode cL_law 2014 = .ok (.invokevirtual 136, 3) := by decide +kernel
theorem dL_law_2017 : decode cL_law 2017 = .ok (.iload 6, 2) := by decide +kernel
theorem dL_law_2019 : decode cL_law 2019 = .ok (.if_icmp .eq 5, 3) := by decide +kernel
theorem dL_law_2022 : decode cL_law 2022 = .ok (.iconst 0, 1) := by decide +kernel
theorem dL_law_2023 : decode cL_law 2023 = .ok (.ireturn, 1) := by decide +kernel
theorem dL_law_2024 : decode cL_law 2024 = .ok (.iload 6, 2) := by decide +kernel
theorem dL_law_2026 : decode cL_law 2026 = .ok (.ifCond .ne 22, 3) := by decide +kernel
theorem dL_law_2029 : decode cL_law 2029 = .ok (.aload_n 3, 1) := by decide +kernel
theorem dL_law_2030 : decode cL_law 2030 = .ok (.iconst 0, 1) := by decide +kernel
theorem dL_law_2031 : decode cL_law 2031 = .ok (.laload, 1) := by decide +kernel
theorem dL_law_2032 : decode cL_law 2032 = .ok (.iload 7, 2) := by decide +kernel
theorem dL_law_2034 : decode cL_law 2034 = .ok (.ifCond .eq 7, 3) := by decide +kernel
theorem dL_law_2037 : decode cL_law 2037 = .ok (.lconst 1, 1) := by decide +kernel
theorem dL_law_2038 : decode cL_law 2038 = .ok (.goto 4, 3) := by decide +kernel
theorem dL_law_2041 : decode cL_law 2041 = .ok (.lconst 0, 1) := by decide +kernel
theorem dL_law_2042 : decode cL_law 2042 = .ok (.lcmp, 1) := by decide +kernel
theorem dL_law_2043 : decode cL_law 2043 = .ok (.ifCond .eq 5, 3) := by decide +kernel
theorem dL_law_2046 : decode cL_law 2046 = .ok (.iconst 0, 1) := by decide +kernel
theorem dL_law_2047 : decode cL_law 2047 = .ok (.ireturn, 1) := by decide +kernel
theorem dL_law_2048 : decode cL_law 2048 = .ok (.goto 387, 3) := by decide +kernel
theorem dL_law_2051 : decode cL_law 2051 = .ok (.aload_n 1, 1) := by decide +kernel
theorem dL_law_2052 : decode cL_law 2052 = .ok (.invokevirtual 221, 3) := by decide +kernel
theorem dL_law_2055 : decode cL_law 2055 = .ok (.aload_n 2, 1) := by decide +kernel
theorem dL_law_2056 : decode cL_law 2056 = .ok (.invokevirtual 224, 3) := by decide +kernel
theorem dL_law_2059 : decode cL_law 2059 = .ok (.if_icmp .eq 376, 3) := by decide +kernel
theorem dL_law_2062 : decode cL_law 2062 = .ok (.iconst 0, 1) := by decide +kernel
theorem dL_law_2063 : decode cL_law 2063 = .ok (.ireturn, 1) := by decide +kernel
theorem dL_law_2064 : decode cL_law 2064 = .ok (.aload_n 1, 1) := by decide +kernel
theorem dL_law_2065 : decode cL_law 2065 = .ok (.invokevirtual 225, 3) := by decide +kernel
theorem dL_law_2068 : decode cL_law 2068 = .ok (.aload_n 2, 1) := by decide +kernel
theorem dL_law_2069 : decode cL_law 2069 = .ok (.invokevirtual 228, 3) := by decide +kernel
theorem dL_law_2072 : decode cL_law 2072 = .ok (.if_icmp .eq 363, 3) := by decide +kernel
theorem dL_law_2075 : decode cL_law 2075 = .ok (.iconst 0, 1) := by decide +kernel
theorem dL_law_2076 : decode cL_law 2076 = .ok (.ireturn, 1) := by decide +kernel
theorem dL_law_2077 : decode cL_law 2077 = .ok (.aload_n 1, 1) := by decide +kernel
theorem dL_law_2078 : decode cL_law 2078 = .ok (.invokevirtual 229, 3) := by decide +kernel
theorem dL_law_2081 : decode cL_law 2081 = .ok (.aload_n 2, 1) := by decide +kernel
theorem dL_law_2082 : decode cL_law 2082 = .ok (.invokevirtual 232, 3) := by decide +kernel
theorem dL_law_2085 : decode cL_law 2085 = .ok (.if_icmp .eq 350, 3) := by decide +kernel
theorem dL_law_2088 : decode cL_law 2088 = .ok (.iconst 0, 1) := by decide +kernel
theorem dL_law_2089 : decode cL_law 2089 = .ok (.ireturn, 1) := by decide +kernel
theorem dL_law_2090 : decode cL_law 2090 = .ok (.aload_n 1, 1) := by decide +kernel
theorem dL_law_2091 : decode cL_law 2091 = .ok (.invokevirtual 233, 3) := by decide +kernel
theorem dL_law_2094 : decode cL_law 2094 = .ok (.aload_n 2, 1) := by decide +kernel
theorem dL_law_2095 : decode cL_law 2095 = .ok (.invokevirtual 236, 3) := by decide +kernel
theorem dL_law_2098 : decode cL_law 2098 = .ok (.if_icmp .eq 337, 3) := by decide +kernel
theorem dL_law_2101 : decode cL_law 2101 = .ok (.iconst 0, 1) := by decide +kernel
theorem dL_law_2102 : decode cL_law 2102 = .ok (.ireturn, 1) := by decide +kernel
theorem dL_law_2103 : decode cL_law 2103 = .ok (.aload_n 1, 1) := by decide +kernel
theorem dL_law_2104 : decode cL_law 2104 = .ok (.invokevirtual 237, 3) := by decide +kernel
theorem dL_law_2107 : decode cL_law 2107 = .ok (.aload_n 2, 1) := by decide +kernel
theorem dL_law_2108 : decode cL_law 2108 = .ok (.invokevirtual 240, 3) := by decide +kernel
theorem dL_law_2111 : decode cL_law 2111 = .ok (.if_icmp .eq 324, 3) := by decide +kernel
theorem dL_law_2114 : decode cL_law 2114 = .ok (.iconst 0, 1) := by decide +kernel
theorem dL_law_2115 : decode cL_law 2115 = .ok (.ireturn, 1) := by decide +kernel
theorem dL_law_2116 : decode cL_law 2116 = .ok (.aload_n 1, 1) := by decide +kernel
theorem dL_law_2117 : decode cL_law 2117 = .ok (.aload_n 0, 1) := by decide +kernel
theorem dL_law_2118 : decode cL_law 2118 = .ok (.iload 5, 2) := by decide +kernel
theorem dL_law_2120 : decode cL_law 2120 = .ok (.iconst 1, 1) := by decide +kernel
theorem dL_law_2121 : decode cL_law 2121 = .ok (.iadd, 1) := by decide +kernel
theorem dL_law_2122 : decode cL_law 2122 = .ok (.iaload, 1) := by decide +kernel
theorem dL_law_2123 : decode cL_law 2123 = .ok (.aload_n 3, 1) := by decide +kernel
theorem dL_law_2124 : decode cL_law 2124 = .ok (.invokestatic 241, 3) := by decide +kernel
theorem dL_law_2127 : decode cL_law 2127 = .ok (.istore 6, 2) := by decide +kernel
theorem dL_law_2129 : decode cL_law 2129 = .ok (.aload_n 2, 1) := by decide +kernel
theorem dL_law_2130 : decode cL_law 2130 = .ok (.aload_n 0, 1) := by decide +kernel
theorem dL_law_2131 : decode cL_law 2131 = .ok (.iload 5, 2) := by decide +kernel
theorem dL_law_2133 : decode cL_law 2133 = .ok (.iconst 1, 1) := by decide +kernel
theorem dL_law_2134 : decode cL_law 2134 = .ok (.iadd, 1) := by decide +kernel
theorem dL_law_2135 : decode cL_law 2135 = .ok (.iaload, 1) := by decide +kernel
theorem dL_law_2136 : decode cL_law 2136 = .ok (.invokevirtual 243, 3) := by decide +kernel
theorem dL_law_2139 : decode cL_law 2139 = .ok (.istore 7, 2) := by decide +kernel
theorem dL_law_2141 : decode cL_law 2141 = .ok (.aload_n 2, 1) := by decide +kernel
theorem dL_law_2142 : decode cL_law 2142 = .ok (.invokevirtual 136, 3) := by decide +kernel
theorem dL_law_2145 : decode cL_law 2145 = .ok (.iload 6, 2) := by decide +kernel
theorem dL_law_2147 : decode cL_law 2147 = .ok (.if_icmp .eq 5, 3) := by decide +kernel
theorem dL_law_2150 : decode cL_law 2150 = .ok (.iconst 0, 1) := by decide +kernel
theorem dL_law_2151 : decode cL_law 2151 = .ok (.ireturn, 1) := by decide +kernel
theorem dL_law_2152 : decode cL_law 2152 = .ok (.iload 6, 2) := by decide +kernel
theorem dL_law_2154 : decode cL_law 2154 = .ok (.ifCond .ne 15, 3) := by decide +kernel
theorem dL_law_2157 : decode cL_law 2157 = .ok (.aload_n 3, 1) := by decide +kernel
theorem dL_law_2158 : decode cL_law 2158 = .ok (.iconst 0, 1) := by decide +kernel
theorem dL_law_2159 : decode cL_law 2159 = .ok (.laload, 1) := by decide +kernel
theorem dL_law_2160 : decode cL_law 2160 = .ok (.iload 7, 2) := by decide +kernel
theorem dL_law_2162 : decode cL_law 2162 = .ok (.i2l, 1) := by decide +kernel
theorem dL_law_2163 : decode cL_law 2163 = .ok (.lcmp, 1) := by decide +kernel
theorem dL_law_2164 : decode cL_law 2164 = .ok (.ifCond .eq 5, 3) := by decide +kernel
theorem dL_law_2167 : decode cL_law 2167 = .ok (.iconst 0, 1) := by decide +kernel
theorem dL_law_2168 : decode cL_law 2168 = .ok (.ireturn, 1) := by decide +kernel
theorem dL_law_2169 : decode cL_law 2169 = .ok (.goto 266, 3) := by decide +kernel
theorem dL_law_2172 : decode cL_law 2172 = .ok (.aload_n 1, 1) := by decide +kernel
theorem dL_law_2173 : decode cL_law 2173 = .ok (.aload_n 0, 1) := by decide +kernel
theorem dL_law_2174 : decode cL_law 2174 = .ok (.iload 5, 2) := by decide +kernel
theorem dL_law_2176 : decode cL_law 2176 = .ok (.iconst 1, 1) := by decide +kernel
theorem dL_law_2177 : decode cL_law 2177 = .ok (.iadd, 1) := by decide +kernel
theorem dL_law_2178 : decode cL_law 2178 = .ok (.iaload, 1) := by decide +kernel
theorem dL_law_2179 : decode cL_law 2179 = .ok (.aload_n 3, 1) := by decide +kernel
theorem dL_law_2180 : decode cL_law 2180 = .ok (.invokestatic 244, 3) := by decide +kernel
theorem dL_law_2183 : decode cL_law 2183 = .ok (.istore 6, 2) := by decide +kernel
theorem dL_law_2185 : decode cL_law 2185 = .ok (.aload_n 2, 1) := by decide +kernel
theorem dL_law_2186 : decode cL_law 2186 = .ok (.aload_n 0, 1) := by decide +kernel
theorem dL_law_2187 : decode cL_law 2187 = .ok (.iload 5, 2) := by decide +kernel
theorem dL_law_2189 : decode cL_law 2189 = .ok (.iconst 1, 1) := by decide +kernel
theorem dL_law_2190 : decode cL_law 2190 = .ok (.iadd, 1) := by decide +kernel
theorem dL_law_2191 : decode cL_law 2191 = .ok (.iaload, 1) := by decide +kernel
theorem dL_law_2192 : decode cL_law 2192 = .ok (.invokevirtual 246, 3) := by decide +kernel
theorem dL_law_2195 : decode cL_law 2195 = .ok (.istore 7, 2) := by decide +kernel
theorem dL_law_2197 : decode cL_law 2197 = .ok (.aload_n 2, 1) := by decide +kernel
theorem dL_law_2198 : decode cL_law 2198 = .ok (.invokevirtual 136, 3) := by decide +kernel
theorem dL_law_2201 : decode cL_law 2201 = .ok (.iload 6, 2) := by decide +kernel
theorem dL_law_2203 : decode cL_law 2203 = .ok (.if_icmp .eq 5, 3) := by decide +kernel
theorem dL_law_2206 : decode cL_law 2206 = .ok (.iconst 0, 1) := by decide +kernel
theorem dL_law_2207 : decode cL_law 2207 = .ok (.ireturn, 1) := by decide +kernel
theorem dL_law_2208 : decode cL_law 2208 = .ok (.iload 6, 2) := by decide +kernel
theorem dL_law_2210 : decode cL_law 2210 = .ok (.ifCond .ne 15, 3) := by decide +kernel
theorem dL_law_2213 : decode cL_law 2213 = .ok (.aload_n 3, 1) := by decide +kernel
theorem dL_law_2214 : decode cL_law 2214 = .ok (.iconst 0, 1) := by decide +kernel
theorem dL_law_2215 : decode cL_law 2215 = .ok (.laload, 1) := by decide +kernel
theorem dL_law_2216 : decode cL_law 2216 = .ok (.iload 7, 2) := by decide +kernel
theorem dL_law_2218 : decode cL_law 2218 = .ok (.i2l, 1) := by decide +kernel
theorem dL_law_2219 : decode cL_law 2219 = .ok (.lcmp, 1) := by decide +kernel
theorem dL_law_2220 : decode cL_law 2220 = .ok (.ifCond .eq 5, 3) := by decide +kernel
theorem dL_law_2223 : decode cL_law 2223 = .ok (.iconst 0, 1) := by decide +kernel
theorem dL_law_2224 : decode cL_law 2224 = .ok (.ireturn, 1) := by decide +kernel
theorem dL_law_2225 : decode cL_law 2225 = .ok (.goto 210, 3) := by decide +kernel
theorem dL_law_2228 : decode cL_law 2228 = .ok (.aload_n 1, 1) := by decide +kernel
theorem dL_law_2229 : decode cL_law 2229 = .ok (.aload_n 0, 1) := by decide +kernel
theorem dL_law_2230 : decode cL_law 2230 = .ok (.iload 5, 2) := by decide +kernel
theorem dL_law_2232 : decode cL_law 2232 = .ok (.iconst 1, 1) := by decide +kernel
theorem dL_law_2233 : decode cL_law 2233 = .ok (.iadd, 1) := by decide +kernel
theorem dL_law_2234 : decode cL_law 2234 = .ok (.iaload, 1) := by decide +kernel
theorem dL_law_2235 : decode cL_law 2235 = .ok (.aload_n 3, 1) := by decide +kernel
theorem dL_law_2236 : decode cL_law 2236 = .ok (.invokestatic 247, 3) := by decide +kernel
theorem dL_law_2239 : decode cL_law 2239 = .ok (.istore 6, 2) := by decide +kernel
theorem dL_law_2241 : decode cL_law 2241 = .ok (.aload_n 2, 1) := by decide +kernel
theorem dL_law_2242 : decode cL_law 2242 = .ok (.aload_n 0, 1) := by decide +kernel
theorem dL_law_2243 : decode cL_law 2243 = .ok (.iload 5, 2) := by decide +kernel
theorem dL_law_2245 : decode cL_law 2245 = .ok (.iconst 1, 1) := by decide +kernel
theorem dL_law_2246 : decode cL_law 2246 = .ok (.iadd, 1) := by decide +kernel
theorem dL_law_2247 : decode cL_law 2247 = .ok (.iaload, 1) := by decide +kernel
theorem dL_law_2248 : decode cL_law 2248 = .ok (.invokevirtual 249, 3) := by decide +kernel
theorem dL_law_2251 : decode cL_law 2251 = .ok (.istore 7, 2) := by decide +kernel
theorem dL_law_2253 : decode cL_law 2253 = .ok (.aload_n 2, 1) := by decide +kernel
theorem dL_law_2254 : decode cL_law 2254 = .ok (.invokevirtual 136, 3) := by decide +kernel
theorem dL_law_2257 : decode cL_law 2257 = .ok (.iload 6, 2) := by decide +kernel
theorem dL_law_2259 : decode cL_law 2259 = .ok (.if_icmp .eq 5, 3) := by decide +kernel
theorem dL_law_2262 : decode cL_law 2262 = .ok (.iconst 0, 1) := by decide +kernel
theorem dL_law_2263 : decode cL_law 2263 = .ok (.ireturn, 1) := by decide +kernel
theorem dL_law_2264 : decode cL_law 2264 = .ok (.iload 6, 2) := by decide +kernel
theorem dL_law_2266 : decode cL_law 2266 = .ok (.ifCond .ne 22, 3) := by decide +kernel
theorem dL_law_2269 : decode cL_law 2269 = .ok (.aload_n 3, 1) := by decide +kernel
theorem dL_law_2270 : decode cL_law 2270 = .ok (.iconst 0, 1) := by decide +kernel
theorem dL_law_2271 : decode cL_law 2271 = .ok (.laload, 1) := by decide +kernel
theorem dL_law_2272 : decode cL_law 2272 = .ok (.iload 7, 2) := by decide +kernel
theorem dL_law_2274 : decode cL_law 2274 = .ok (.ifCond .eq 7, 3) := by decide +kernel
theorem dL_law_2277 : decode cL_law 2277 = .ok (.lconst 1, 1) := by decide +kernel
theorem dL_law_2278 : decode cL_law 2278 = .ok (.goto 4, 3) := by decide +kernel
theorem dL_law_2281 : decode cL_law 2281 = .ok (.lconst 0, 1) := by decide +kernel
theorem dL_law_2282 : decode cL_law 2282 = .ok (.lcmp, 1) := by decide +kernel
theorem dL_law_2283 : decode cL_law 2283 = .ok (.ifCond .eq 5, 3) := by decide +kernel
theorem dL_law_2286 : decode cL_law 2286 = .ok (.iconst 0, 1) := by decide +kernel
theorem dL_law_2287 : decode cL_law 2287 = .ok (.ireturn, 1) := by decide +kernel
theorem dL_law_2288 : decode cL_law 2288 = .ok (.goto 147, 3) := by decide +kernel
theorem dL_law_2291 : decode cL_law 2291 = .ok (.aload_n 1, 1) := by decide +kernel
theorem dL_law_2292 : decode cL_law 2292 = .ok (.aload 4, 2) := by decide +kernel
theorem dL_law_2294 : decode cL_law 2294 = .ok (.invokestatic 250, 3) := by decide +kernel
theorem dL_law_2297 : decode cL_law 2297 = .ok (.istore 6, 2) := by decide +kernel
theorem dL_law_2299 : decode cL_law 2299 = .ok (.aload_n 2, 1) := by decide +kernel
theorem dL_law_2300 : decode cL_law 2300 = .ok (.invokevirtual 253, 3) := by decide +kernel
theorem dL_law_2303 : decode cL_law 2303 = .ok (.fstore 7, 2) := by decide +kernel
theorem dL_law_2305 : decode cL_law 2305 = .ok (.aload_n 2, 1) := by decide +kernel
theorem dL_law_2306 : decode cL_law 2306 = .ok (.invokevirtual 136, 3) := by decide +kernel
theorem dL_law_2309 : decode cL_law 2309 = .ok (.iload 6, 2) := by decide +kernel
theorem dL_law_2311 : decode cL_law 2311 = .ok (.if_icmp .eq 5, 3) := by decide +kernel
theorem dL_law_2314 : decode cL_law 2314 = .ok (.iconst 0, 1) := by decide +kernel
theorem dL_law_2315 : decode cL_law 2315 = .ok (.ireturn, 1) := by decide +kernel
theorem dL_law_2316 : decode cL_law 2316 = .ok (.iload 6, 2) := by decide +kernel
theorem dL_law_2318 : decode cL_law 2318 = .ok (.ifCond .ne 36, 3) := by decide +kernel
theorem dL_law_2321 : decode cL_law 2321 = .ok (.aload 4, 2) := by decide +kernel
theorem dL_law_2323 : decode cL_law 2323 = .ok (.iconst 0, 1) := by decide +kernel
theorem dL_law_2324 : decode cL_law 2324 = .ok (.daload, 1) := by decide +kernel
theorem dL_law_2325 : decode cL_law 2325 = .ok (.fload 7, 2) := by decide +kernel
theorem dL_law_2327 : decode cL_law 2327 = .ok (.f2d, 1) := by decide +kernel
theorem dL_law_2328 : decode cL_law 2328 = .ok (.dcmp .l, 1) := by decide +kernel
theorem dL_law_2329 : decode cL_law 2329 = .ok (.ifCond .eq 25, 3) := by decide +kernel
theorem dL_law_2332 : decode cL_law 2332 = .ok (.aload 4, 2) := by decide +kernel
theorem dL_law_2334 : decode cL_law 2334 = .ok (.iconst 0, 1) := by decide +kernel
theorem dL_law_2335 : decode cL_law 2335 = .ok (.daload, 1) := by decide +kernel
theorem dL_law_2336 : decode cL_law 2336 = .ok (.aload 4, 2) := by decide +kernel
theorem dL_law_2338 : decode cL_law 2338 = .ok (.iconst 0, 1) := by decide +kernel
theorem dL_law_2339 : decode cL_law 2339 = .ok (.daload, 1) := by decide +kernel
theorem dL_law_2340 : decode cL_law 2340 = .ok (.dcmp .l, 1) := by decide +kernel
theorem dL_law_2341 : decode cL_law 2341 = .ok (.ifCond .eq 11, 3) := by decide +kernel
theorem dL_law_2344 : decode cL_law 2344 = .ok (.fload 7, 2) := by decide +kernel
theorem dL_law_2346 : decode cL_law 2346 = .ok (.fload 7, 2) := by decide +kernel
theorem dL_law_2348 : decode cL_law 2348 = .ok (.fcmp .l, 1) := by decide +kernel
theorem dL_law_2349 : decode cL_law 2349 = .ok (.ifCond .ne 5, 3) := by decide +kernel
theorem dL_law_2352 : decode cL_law 2352 = .ok (.iconst 0, 1) := by decide +kernel
theorem dL_law_2353 : decode cL_law 2353 = .ok (.ireturn, 1) := by decide +kernel
theorem dL_law_2354 : decode cL_law 2354 = .ok (.goto 81, 3) := by decide +kernel
theorem dL_law_2357 : decode cL_law 2357 = .ok (.aload_n 1, 1) := by decide +kernel
theorem dL_law_2358 : decode cL_law 2358 = .ok (.aload 4, 2) := by decide +kernel
theorem dL_law_2360 : decode cL_law 2360 = .ok (.invokestatic 254, 3) := by decide +kernel
theorem dL_law_2363 : decode cL_law 2363 = .ok (.istore 6, 2) := by decide +kernel
theorem dL_law_2365 : decode cL_law 2365 = .ok (.aload_n 2, 1) := by decide +kernel
theorem dL_law_2366 : decode cL_law 2366 = .ok (.invokevirtual 256, 3) := by decide +kernel
theorem dL_law_2369 : decode cL_law 2369 = .ok (.dstore 7, 2) := by decide +kernel
theorem dL_law_2371 : decode cL_law 2371 = .ok (.aload_n 2, 1) := by decide +kernel
theorem dL_law_2372 : decode cL_law 2372 = .ok (.invokevirtual 136, 3) := by decide +kernel
theorem dL_law_2375 : decode cL_law 2375 = .ok (.iload 6, 2) := by decide +kernel
theorem dL_law_2377 : decode cL_law 2377 = .ok (.if_icmp .eq 5, 3) := by decide +kernel
theorem dL_law_2380 : decode cL_law 2380 = .ok (.iconst 0, 1) := by decide +kernel
theorem dL_law_2381 : decode cL_law 2381 = .ok (.ireturn, 1) := by decide +kernel
theorem dL_law_2382 : decode cL_law 2382 = .ok (.iload 6, 2) := by decide +kernel
theorem dL_law_2384 : decode cL_law 2384 = .ok (.ifCond .ne 35, 3) := by decide +kernel
theorem dL_law_2387 : decode cL_law 2387 = .ok (.aload 4, 2) := by decide +kernel
theorem dL_law_2389 : decode cL_law 2389 = .ok (.iconst 0, 1) := by decide +kernel
theorem dL_law_2390 : decode cL_law 2390 = .ok (.daload, 1) := by decide +kernel
theorem dL_law_2391 : decode cL_law 2391 = .ok (.dload 7, 2) := by decide +kernel
theorem dL_law_2393 : decode cL_law 2393 = .ok (.dcmp .l, 1) := by decide +kernel
theorem dL_law_2394 : decode cL_law 2394 = .ok (.ifCond .eq 25, 3) := by decide +kernel
theorem dL_law_2397 : decode cL_law 2397 = .ok (.aload 4, 2) := by decide +kernel
theorem dL_law_2399 : decode cL_law 2399 = .ok (.iconst 0, 1) := by decide +kernel
theorem dL_law_2400 : decode cL_law 2400 = .ok (.daload, 1) := by decide +kernel
theorem dL_law_2401 : decode cL_law 2401 = .ok (.aload 4, 2) := by decide +kernel
theorem dL_law_2403 : decode cL_law 2403 = .ok (.iconst 0, 1) := by decide +kernel
theorem dL_law_2404 : decode cL_law 2404 = .ok (.daload, 1) := by decide +kernel
theorem dL_law_2405 : decode cL_law 2405 = .ok (.dcmp .l, 1) := by decide +kernel
theorem dL_law_2406 : decode cL_law 2406 = .ok (.ifCond .eq 11, 3) := by decide +kernel
theorem dL_law_2409 : decode cL_law 2409 = .ok (.dload 7, 2) := by decide +kernel
theorem dL_law_2411 : decode cL_law 2411 = .ok (.dload 7, 2) := by decide +kernel
theorem dL_law_2413 : decode cL_law 2413 = .ok (.dcmp .l, 1) := by decide +kernel
theorem dL_law_2414 : decode cL_law 2414 = .ok (.ifCond .ne 5, 3) := by decide +kernel
theorem dL_law_2417 : decode cL_law 2417 = .ok (.iconst 0, 1) := by decide +kernel
theorem dL_law_2418 : decode cL_law 2418 = .ok (.ireturn, 1) := by decide +kernel
theorem dL_law_2419 : decode cL_law 2419 = .ok (.goto 16, 3) := by decide +kernel
theorem dL_law_2422 : decode cL_law 2422 = .ok (.aload_n 1, 1) := by decide +kernel
theorem dL_law_2423 : decode cL_law 2423 = .ok (.invokevirtual 257, 3) := by decide +kernel
theorem dL_law_2426 : decode cL_law 2426 = .ok (.aload_n 2, 1) := by decide +kernel
theorem dL_law_2427 : decode cL_law 2427 = .ok (.invokevirtual 261, 3) := by decide +kernel
theorem dL_law_2430 : decode cL_law 2430 = .ok (.if_icmp .eq 5, 3) := by decide +kernel
theorem dL_law_2433 : decode cL_law 2433 = .ok (.iconst 0, 1) := by decide +kernel
theorem dL_law_2434 : decode cL_law 2434 = .ok (.ireturn, 1) := by decide +kernel
theorem dL_law_2435 : decode cL_law 2435 = .ok (.iinc 5 7, 3) := by decide +kernel
theorem dL_law_2438 : decode cL_law 2438 = .ok (.goto (-2410), 3) := by decide +kernel
theorem dL_law_2441 : decode cL_law 2441 = .ok (.iconst 1, 1) := by decide +kernel
theorem dL_law_2442 : decode cL_law 2442 = .ok (.ireturn, 1) := by decide +kernel

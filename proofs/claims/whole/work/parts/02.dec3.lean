theorem dX7_isSheet_6 : decode cX7_isSheet 6 = .ok (.if_icmp .ge 7, 3) := by decide +kernel
theorem dX7_isSheet_9 : decode cX7_isSheet 9 = .ok (.iconst 1, 1) := by decide +kernel
theorem dX7_isSheet_10 : decode cX7_isSheet 10 = .ok (.goto 4, 3) := by decide +kernel
theorem dX7_isSheet_13 : decode cX7_isSheet 13 = .ok (.iconst 0, 1) := by decide +kernel
theorem dX7_isSheet_14 : decode cX7_isSheet 14 = .ok (.ireturn, 1) := by decide +kernel
theorem dX7_oneIf_0 : decode cX7_oneIf 0 = .ok (.iload_n 0, 1) := by decide +kernel
theorem dX7_oneIf_1 : decode cX7_oneIf 1 = .ok (.ifCond .eq 7, 3) := by decide +kernel
theorem dX7_oneIf_4 : decode cX7_oneIf 4 = .ok (.lconst 1, 1) := by decide +kernel
theorem dX7_oneIf_5 : decode cX7_oneIf 5 = .ok (.goto 4, 3) := by decide +kernel
theorem dX7_oneIf_8 : decode cX7_oneIf 8 = .ok (.lconst 0, 1) := by decide +kernel
theorem dX7_oneIf_9 : decode cX7_oneIf 9 = .ok (.lreturn, 1) := by decide +kernel
theorem dX8_init_0 : decode cX8_init 0 = .ok (.aload_n 0, 1) := by decide +kernel
theorem dX8_init_1 : decode cX8_init 1 = .ok (.invokespecial 3, 3) := by decide +kernel
theorem dX8_init_4 : decode cX8_init 4 = .ok (.aload_n 0, 1) := by decide +kernel
theorem dX8_init_5 : decode cX8_init 5 = .ok (.bipush 10, 2) := by decide +kernel
theorem dX8_init_7 : decode cX8_init 7 = .ok (.newarray .int, 2) := by decide +kernel
theorem dX8_init_9 : decode cX8_init 9 = .ok (.putfield 9, 3) := by decide +kernel
theorem dX8_init_12 : decode cX8_init 12 = .ok (.aload_n 0, 1) := by decide +kernel
theorem dX8_init_13 : decode cX8_init 13 = .ok (.bipush 30, 2) := by decide +kernel
theorem dX8_init_15 : decode cX8_init 15 = .ok (.newarray .int, 2) := by decide +kernel
theorem dX8_init_17 : decode cX8_init 17 = .ok (.putfield 13, 3) := by decide +kernel
theorem dX8_init_20 : decode cX8_init 20 = .ok (.aload_n 0, 1) := by decide +kernel
theorem dX8_init_21 : decode cX8_init 21 = .ok (.bipush 30, 2) := by decide +kernel
theorem dX8_init_23 : decode cX8_init 23 = .ok (.newarray .int, 2) := by decide +kernel
theorem dX8_init_25 : decode cX8_init 25 = .ok (.putfield 16, 3) := by decide +kernel
theorem dX8_init_28 : decode cX8_init 28 = .ok (.aload_n 0, 1) := by decide +kernel
theorem dX8_init_29 : decode cX8_init 29 = .ok (.bipush 30, 2) := by decide +kernel
theorem dX8_init_31 : decode cX8_init 31 = .ok (.newarray .int, 2) := by decide +kernel
theorem dX8_init_33 : decode cX8_init 33 = .ok (.putfield 19, 3) := by decide +kernel
theorem dX8_init_36 : decode cX8_init 36 = .ok (.aload_n 0, 1) := by decide +kernel
theorem dX8_init_37 : decode cX8_init 37 = .ok (.bipush 30, 2) := by decide +kernel
theorem dX8_init_39 : decode cX8_init 39 = .ok (.newarray .int, 2) := by decide +kernel
theorem dX8_init_41 : decode cX8_init 41 = .ok (.putfield 22, 3) := by decide +kernel
theorem dX8_init_44 : decode cX8_init 44 = .ok (.aload_n 0, 1) := by decide +kernel
theorem dX8_init_45 : decode cX8_init 45 = .ok (.bipush 30, 2) := by decide +kernel
theorem dX8_init_47 : decode cX8_init 47 = .ok (.newarray .long, 2) := by decide +kernel
theorem dX8_init_49 : decode cX8_init 49 = .ok (.putfield 25, 3) := by decide +kernel
theorem dX8_init_52 : decode cX8_init 52 = .ok (.aload_n 0, 1) := by decide +kernel
theorem dX8_init_53 : decode cX8_init 53 = .ok (.iconst 4, 1) := by decide +kernel
theorem dX8_init_54 : decode cX8_init 54 = .ok (.newarray .int, 2) := by decide +kernel
theorem dX8_init_56 : decode cX8_init 56 = .ok (.putfield 29, 3) := by decide +kernel
theorem dX8_init_59 : decode cX8_init 59 = .ok (.aload_n 0, 1) := by decide +kernel
theorem dX8_init_60 : decode cX8_init 60 = .ok (.sipush 144, 3) := by decide +kernel
theorem dX8_init_63 : decode cX8_init 63 = .ok (.newarray .int, 2) := by decide +kernel
theorem dX8_init_65 : decode cX8_init 65 = .ok (.putfield 32, 3) := by decide +kernel
theorem dX8_init_68 : decode cX8_init 68 = .ok (.aload_n 0, 1) := by decide +kernel
theorem dX8_init_69 : decode cX8_init 69 = .ok (.bipush 20, 2) := by decide +kernel
theorem dX8_init_71 : decode cX8_init 71 = .ok (.newarray .int, 2) := by decide +kernel
theorem dX8_init_73 : decode cX8_init 73 = .ok (.putfield 35, 3) := by decide +kernel
theorem dX8_init_76 : decode cX8_init 76 = .ok (.aload_n 0, 1) := by decide +kernel
theorem dX8_init_77 : decode cX8_init 77 = .ok (.bipush 20, 2) := by decide +kernel
theorem dX8_init_79 : decode cX8_init 79 = .ok (.newarray .int, 2) := by decide +kernel
theorem dX8_init_81 : decode cX8_init 81 = .ok (.putfield 38, 3) := by decide +kernel
theorem dX8_init_84 : decode cX8_init 84 = .ok (.aload_n 0, 1) := by decide +kernel
theorem dX8_init_85 : decode cX8_init 85 = .ok (.bipush 20, 2) := by decide +kernel
theorem dX8_init_87 : decode cX8_init 87 = .ok (.newarray .int, 2) := by decide +kernel
theorem dX8_init_89 : decode cX8_init 89 = .ok (.putfield 41, 3) := by decide +kernel
theorem dX8_init_92 : decode cX8_init 92 = .ok (.aload_n 0, 1) := by decide +kernel
theorem dX8_init_93 : decode cX8_init 93 = .ok (.iconst 4, 1) := by decide +kernel
theorem dX8_init_94 : decode cX8_init 94 = .ok (.newarray .int, 2) := by decide +kernel
theorem dX8_init_96 : decode cX8_init 96 = .ok (.putfield 44, 3) := by decide +kernel
theorem dX8_init_99 : decode cX8_init 99 = .ok (.aload_n 0, 1) := by decide +kernel
theorem dX8_init_100 : decode cX8_init 100 = .ok (.iconst 4, 1) := by decide +kernel
theorem dX8_init_101 : decode cX8_init 101 = .ok (.newarray .int, 2) := by decide +kernel
theorem dX8_init_103 : decode cX8_init 103 = .ok (.putfield 47, 3) := by decide +kernel
theorem dX8_init_106 : decode cX8_init 106 = .ok (.aload_n 0, 1) := by decide +kernel
theorem dX8_init_107 : decode cX8_init 107 = .ok (.sipush 144, 3) := by decide +kernel
theorem dX8_init_110 : decode cX8_init 110 = .ok (.newarray .int, 2) := by decide +kernel
theorem dX8_init_112 : decode cX8_init 112 = .ok (.putfield 50, 3) := by decide +kernel
theorem dX8_init_115 : decode cX8_init 115 = .ok (.aload_n 0, 1) := by decide +kernel
theorem dX8_init_116 : decode cX8_init 116 = .ok (.bipush 30, 2) := by decide +kernel
theorem dX8_init_118 : decode cX8_init 118 = .ok (.newarray .int, 2) := by decide +kernel
theorem dX8_init_120 : decode cX8_init 120 = .ok (.putfield 53, 3) := by decide +kernel
theorem dX8_init_123 : decode cX8_init 123 = .ok (.aload_n 0, 1) := by decide +kernel
theorem dX8_init_124 : decode cX8_init 124 = .ok (.bipush 30, 2) := by decide +kernel
theorem dX8_init_126 : decode cX8_init 126 = .ok (.newarray .int, 2) := by decide +kernel
theorem dX8_init_128 : decode cX8_init 128 = .ok (.putfield 56, 3) := by decide +kernel
theorem dX8_init_131 : decode cX8_init 131 = .ok (.aload_n 0, 1) := by decide +kernel
theorem dX8_init_132 : decode cX8_init 132 = .ok (.sipush 1116, 3) := by decide +kernel
theorem dX8_init_135 : decode cX8_init 135 = .ok (.newarray .int, 2) := by decide +kernel
theorem dX8_init_137 : decode cX8_init 137 = .ok (.putfield 59, 3) := by decide +kernel
theorem dX8_init_140 : decode cX8_init 140 = .ok (.aload_n 0, 1) := by decide +kernel
theorem dX8_init_141 : decode cX8_init 141 = .ok (.sipush 310, 3) := by decide +kernel
theorem dX8_init_144 : decode cX8_init 144 = .ok (.newarray .int, 2) := by decide +kernel
theorem dX8_init_146 : decode cX8_init 146 = .ok (.putfield 62, 3) := by decide +kernel
theorem dX8_init_149 : decode cX8_init 149 = .ok (.aload_n 0, 1) := by decide +kernel
theorem dX8_init_150 : decode cX8_init 150 = .ok (.bipush 30, 2) := by decide +kernel
theorem dX8_init_152 : decode cX8_init 152 = .ok (.newarray .int, 2) := by decide +kernel
theorem dX8_init_154 : decode cX8_init 154 = .ok (.putfield 65, 3) := by decide +kernel
theorem dX8_init_157 : decode cX8_init 157 = .ok (.aload_n 0, 1) := by decide +kernel
theorem dX8_init_158 : decode cX8_init 158 = .ok (.sipush 310, 3) := by decide +kernel
theorem dX8_init_161 : decode cX8_init 161 = .ok (.newarray .boolean, 2) := by decide +kernel
theorem dX8_init_163 : decode cX8_init 163 = .ok (.putfield 68, 3) := by decide +kernel
theorem dX8_init_166 : decode cX8_init 166 = .ok (.aload_n 0, 1) := by decide +kernel
theorem dX8_init_167 : decode cX8_init 167 = .ok (.bipush 30, 2) := by decide +kernel
theorem dX8_init_169 : decode cX8_init 169 = .ok (.newarray .boolean, 2) := by decide +kernel
theorem dX8_init_171 : decode cX8_init 171 = .ok (.putfield 72, 3) := by decide +kernel
theorem dX8_init_174 : decode cX8_init 174 = .ok (.aload_n 0, 1) := by decide +kernel
theorem dX8_init_175 : decode cX8_init 175 = .ok (.bipush 36, 2) := by decide +kernel
theorem dX8_init_177 : decode cX8_init 177 = .ok (.newarray .int, 2) := by decide +kernel
theorem dX8_init_179 : decode cX8_init 179 = .ok (.putfield 75, 3) := by decide +kernel
theorem dX8_init_182 : decode cX8_init 182 = .ok (.iconst 0, 1) := by decide +kernel
theorem dX8_init_183 : decode cX8_init 183 = .ok (.istore_n 1, 1) := by decide +kernel
theorem dX8_init_184 : decode cX8_init 184 = .ok (.iload_n 1, 1) := by decide +kernel
theorem dX8_init_185 : decode cX8_init 185 = .ok (.iconst 4, 1) := by decide +kernel
theorem dX8_init_186 : decode cX8_init 186 = .ok (.if_icmp .ge 18, 3) := by decide +kernel
theorem dX8_init_189 : decode cX8_init 189 = .ok (.aload_n 0, 1) := by decide +kernel
theorem dX8_init_190 : decode cX8_init 190 = .ok (.getfield 29, 3) := by decide +kernel
theorem dX8_init_193 : decode cX8_init 193 = .ok (.iload_n 1, 1) := by decide +kernel
theorem dX8_init_194 : decode cX8_init 194 = .ok (.sipush 1000, 3) := by decide +kernel
theorem dX8_init_197 : decode cX8_init 197 = .ok (.iastore, 1) := by decide +kernel
theorem dX8_init_198 : decode cX8_init 198 = .ok (.iinc 1 1, 3) := by decide +kernel
theorem dX8_init_201 : decode cX8_init 201 = .ok (.goto (-17), 3) := by decide +kernel
theorem dX8_init_204 : decode cX8_init 204 = .ok (.iconst 0, 1) := by decide +kernel
theorem dX8_init_205 : decode cX8_init 205 = .ok (.istore_n 1, 1) := by decide +kernel
theorem dX8_init_206 : decode cX8_init 206 = .ok (.iload_n 1, 1) := by decide +kernel
theorem dX8_init_207 : decode cX8_init 207 = .ok (.sipush 144, 3) := by decide +kernel
theorem dX8_init_210 : decode cX8_init 210 = .ok (.if_icmp .ge 16, 3) := by decide +kernel
theorem dX8_init_213 : decode cX8_init 213 = .ok (.aload_n 0, 1) := by decide +kernel
theorem dX8_init_214 : decode cX8_init 214 = .ok (.getfield 32, 3) := by decide +kernel
theorem dX8_init_217 : decode cX8_init 217 = .ok (.iload_n 1, 1) := by decide +kernel
theorem dX8_init_218 : decode cX8_init 218 = .ok (.iconst (-1), 1) := by decide +kernel
theorem dX8_init_219 : decode cX8_init 219 = .ok (.iastore, 1) := by decide +kernel
theorem dX8_init_220 : decode cX8_init 220 = .ok (.iinc 1 1, 3) := by decide +kernel
theorem dX8_init_223 : decode cX8_init 223 = .ok (.goto (-17), 3) := by decide +kernel
theorem dX8_init_226 : decode cX8_init 226 = .ok (.return_, 1) := by decide +kernel
theorem dX8_in_0 : decode cX8_in 0 = .ok (.lload_n 0, 1) := by decide +kernel
theorem dX8_in_1 : decode cX8_in 1 = .ok (.lload_n 2, 1) := by decide +kernel
theorem dX8_in_2 : decode cX8_in 2 = .ok (.lcmp, 1) := by decide +kernel
theorem dX8_in_3 : decode cX8_in 3 = .ok (.ifCond .lt 14, 3) := by decide +kernel
theorem dX8_in_6 : decode cX8_in 6 = .ok (.lload_n 0, 1) := by decide +kernel
theorem dX8_in_7 : decode cX8_in 7 = .ok (.lload 4, 2) := by decide +kernel
theorem dX8_in_9 : decode cX8_in 9 = .ok (.lcmp, 1) := by decide +kernel
theorem dX8_in_10 : decode cX8_in 10 = .ok (.ifCond .gt 7, 3) := by decide +kernel
theorem dX8_in_13 : decode cX8_in 13 = .ok (.iconst 1, 1) := by decide +kernel
theorem dX8_in_14 : decode cX8_in 14 = .ok (.goto 4, 3) := by decide +kernel
theorem dX8_in_17 : decode cX8_in 17 = .ok (.iconst 0, 1) := by decide +kernel
theorem dX8_in_18 : decode cX8_in 18 = .ok (.ireturn, 1) := by decide +kernel
theorem dX8_told0_0 : decode cX8_told0 0 = .ok (.aload_n 0, 1) := by decide +kernel
theorem dX8_told0_1 : decode cX8_told0 1 = .ok (.dup, 1) := by decide +kernel
theorem dX8_told0_2 : decode cX8_told0 2 = .ok (.getfield 78, 3) := by decide +kernel
theorem dX8_told0_5 : decode cX8_told0 5 = .ok (.lconst 1, 1) := by decide +kernel
theorem dX8_told0_6 : decode cX8_told0 6 = .ok (.ladd, 1) := by decide +kernel
theorem dX8_told0_7 : decode cX8_told0 7 = .ok (.putfield 78, 3) := by decide +kernel
theorem dX8_told0_10 : decode cX8_told0 10 = .ok (.lload_n 1, 1) := by decide +kernel
theorem dX8_told0_11 : decode cX8_told0 11 = .ok (.lreturn, 1) := by decide +kernel
theorem dX8_isUnit_0 : decode cX8_isUnit 0 = .ok (.iload_n 1, 1) := by decide +kernel
theorem dX8_isUnit_1 : decode cX8_isUnit 1 = .ok (.i2l, 1) := by decide +kernel
theorem dX8_isUnit_2 : decode cX8_isUnit 2 = .ok (.lconst 0, 1) := by decide +kernel
theorem dX8_isUnit_3 : decode cX8_isUnit 3 = .ok (.aload_n 0, 1) := by decide +kernel
theorem dX8_isUnit_4 : decode cX8_isUnit 4 = .ok (.getfield 82, 3) := by decide +kernel
theorem dX8_isUnit_7 : decode cX8_isUnit 7 = .ok (.iconst 1, 1) := by decide +kernel
theorem dX8_isUnit_8 : decode cX8_isUnit 8 = .ok (.isub, 1) := by decide +kernel
theorem dX8_isUnit_9 : decode cX8_isUnit 9 = .ok (.i2l, 1) := by decide +kernel
theorem dX8_isUnit_10 : decode cX8_isUnit 10 = .ok (.invokestatic 86, 3) := by decide +kernel
theorem dX8_isUnit_13 : decode cX8_isUnit 13 = .ok (.ireturn, 1) := by decide +kernel
theorem dX8_isYear_0 : decode cX8_isYear 0 = .ok (.iload_n 0, 1) := by decide +kernel
theorem dX8_isYear_1 : decode cX8_isYear 1 = .ok (.i2l, 1) := by decide +kernel
theorem dX8_isYear_2 : decode cX8_isYear 2 = .ok (.ldc2_w 90, 3) := by decide +kernel
theorem dX8_isYear_5 : decode cX8_isYear 5 = .ok (.ldc2_w 92, 3) := by decide +kernel
theorem dX8_isYear_8 : decode cX8_isYear 8 = .ok (.invokestatic 86, 3) := by decide +kernel
theorem dX8_isYear_11 : decode cX8_isYear 11 = .ok (.ireturn, 1) := by decide +kernel
theorem dX8_isCell_0 : decode cX8_isCell 0 = .ok (.iload_n 0, 1) := by decide +kernel
theorem dX8_isCell_1 : decode cX8_isCell 1 = .ok (.i2l, 1) := by decide +kernel
theorem dX8_isCell_2 : decode cX8_isCell 2 = .ok (.lconst 0, 1) := by decide +kernel
theorem dX8_isCell_3 : decode cX8_isCell 3 = .ok (.ldc2_w 94, 3) := by decide +kernel
theorem dX8_isCell_6 : decode cX8_isCell 6 = .ok (.invokestatic 86, 3) := by decide +kernel
theorem dX8_isCell_9 : decode cX8_isCell 9 = .ok (.ireturn, 1) := by decide +kernel
theorem dX8_isHundred_0 : decode cX8_isHundred 0 = .ok (.aload_n 0, 1) := by decide +kernel
theorem dX8_isHundred_1 : decode cX8_isHundred 1 = .ok (.getfield 9, 3) := by decide +kernel
theorem dX8_isHundred_4 : decode cX8_isHundred 4 = .ok (.iload_n 1, 1) := by decide +kernel
theorem dX8_isHundred_5 : decode cX8_isHundred 5 = .ok (.iaload, 1) := by decide +kernel
theorem dX8_isHundred_6 : decode cX8_isHundred 6 = .ok (.iconst 3, 1) := by decide +kernel
theorem dX8_isHundred_7 : decode cX8_isHundred 7 = .ok (.if_icmp .ne 7, 3) := by decide +kernel
theorem dX8_isHundred_10 : decode cX8_isHundred 10 = .ok (.iconst 1, 1) := by decide +kernel
theorem dX8_isHundred_11 : decode cX8_isHundred 11 = .ok (.goto 4, 3) := by decide +kernel
theorem dX8_isHundred_14 : decode cX8_isHundred 14 = .ok (.iconst 0, 1) := by decide +kernel
theorem dX8_isHundred_15 : decode cX8_isHundred 15 = .ok (.ireturn, 1) := by decide +kernel
theorem dX8_unit_0 : decode cX8_unit 0 = .ok (.iload_n 1, 1) := by decide +kernel
theorem dX8_unit_1 : decode cX8_unit 1 = .ok (.i2l, 1) := by decide +kernel
theorem dX8_unit_2 : decode cX8_unit 2 = .ok (.lconst 0, 1) := by decide +kernel
theorem dX8_unit_3 : decode cX8_unit 3 = .ok (.ldc2_w 96, 3) := by decide +kernel
theorem dX8_unit_6 : decode cX8_unit 6 = .ok (.invokestatic 86, 3) := by decide +kernel
theorem dX8_unit_9 : decode cX8_unit 9 = .ok (.ifCond .ne 11, 3) := by decide +kernel
theorem dX8_unit_12 : decode cX8_unit 12 = .ok (.aload_n 0, 1) := by decide +kernel
theorem dX8_unit_13 : decode cX8_unit 13 = .ok (.ldc2_w 98, 3) := by decide +kernel
theorem dX8_unit_16 : decode cX8_unit 16 = .ok (.invokevirtual 100, 3) := by decide +kernel
theorem dX8_unit_19 : decode cX8_unit 19 = .ok (.lreturn, 1) := by decide +kernel
theorem dX8_unit_20 : decode cX8_unit 20 = .ok (.aload_n 0, 1) := by decide +kernel
theorem dX8_unit_21 : decode cX8_unit 21 = .ok (.getfield 82, 3) := by decide +kernel
theorem dX8_unit_24 : decode cX8_unit 24 = .ok (.bipush 10, 2) := by decide +kernel
theorem dX8_unit_26 : decode cX8_unit 26 = .ok (.if_icmp .ne 11, 3) := by decide +kernel
theorem dX8_unit_29 : decode cX8_unit 29 = .ok (.aload_n 0, 1) := by decide +kernel
theorem dX8_unit_30 : decode cX8_unit 30 = .ok (.ldc2_w 104, 3) := by decide +kernel
theorem dX8_unit_33 : decode cX8_unit 33 = .ok (.invokevirtual 100, 3) := by decide +kernel
theorem dX8_unit_36 : decode cX8_unit 36 = .ok (.lreturn, 1) := by decide +kernel
theorem dX8_unit_37 : decode cX8_unit 37 = .ok (.aload_n 0, 1) := by decide +kernel
theorem dX8_unit_38 : decode cX8_unit 38 = .ok (.getfield 9, 3) := by decide +kernel
theorem dX8_unit_41 : decode cX8_unit 41 = .ok (.aload_n 0, 1) := by decide +kernel
theorem dX8_unit_42 : decode cX8_unit 42 = .ok (.getfield 82, 3) := by decide +kernel
theorem dX8_unit_45 : decode cX8_unit 45 = .ok (.iload_n 1, 1) := by decide +kernel
theorem dX8_unit_46 : decode cX8_unit 46 = .ok (.iastore, 1) := by decide +kernel
theorem dX8_unit_47 : decode cX8_unit 47 = .ok (.aload_n 0, 1) := by decide +kernel
theorem dX8_unit_48 : decode cX8_unit 48 = .ok (.dup, 1) := by decide +kernel
theorem dX8_unit_49 : decode cX8_unit 49 = .ok (.getfield 82, 3) := by decide +kernel
theorem dX8_unit_52 : decode cX8_unit 52 = .ok (.iconst 1, 1) := by decide +kernel
theorem dX8_unit_53 : decode cX8_unit 53 = .ok (.iadd, 1) := by decide +kernel
theorem dX8_unit_54 : decode cX8_unit 54 = .ok (.putfield 82, 3) := by decide +kernel
theorem dX8_unit_57 : decode cX8_unit 57 = .ok (.aload_n 0, 1) := by decide +kernel
theorem dX8_unit_58 : decode cX8_unit 58 = .ok (.getfield 82, 3) := by decide +kernel
theorem dX8_unit_61 : decode cX8_unit 61 = .ok (.iconst 1, 1) := by decide +kernel
theorem dX8_unit_62 : decode cX8_unit 62 = .ok (.isub, 1) := by decide +kernel
theorem dX8_unit_63 : decode cX8_unit 63 = .ok (.i2l, 1) := by decide +kernel
theorem dX8_unit_64 : decode cX8_unit 64 = .ok (.lreturn, 1) := by decide +kernel
theorem dX8_as_0 : decode cX8_as 0 = .ok (.aload_n 0, 1) := by decide +kernel
theorem dX8_as_1 : decode cX8_as 1 = .ok (.iload_n 1, 1) := by decide +kernel
theorem dX8_as_2 : decode cX8_as 2 = .ok (.invokevirtual 106, 3) := by decide +kernel
theorem dX8_as_5 : decode cX8_as 5 = .ok (.ifCond .eq 15, 3) := by decide +kernel
theorem dX8_as_8 : decode cX8_as 8 = .ok (.iload_n 2, 1) := by decide +kernel
theorem dX8_as_9 : decode cX8_as 9 = .ok (.i2l, 1) := by decide +kernel
theorem dX8_as_10 : decode cX8_as 10 = .ok (.lconst 0, 1) := by decide +kernel
theorem dX8_as_11 : decode cX8_as 11 = .ok (.ldc2_w 96, 3) := by decide +kernel
theorem dX8_as_14 : decode cX8_as 14 = .ok (.invokestatic 86, 3) := by decide +kernel
theorem dX8_as_17 : decode cX8_as 17 = .ok (.ifCond .ne 11, 3) := by decide +kernel
theorem dX8_as_20 : decode cX8_as 20 = .ok (.aload_n 0, 1) := by decide +kernel
theorem dX8_as_21 : decode cX8_as 21 = .ok (.ldc2_w 98, 3) := by decide +kernel
theorem dX8_as_24 : decode cX8_as 24 = .ok (.invokevirtual 100, 3) := by decide +kernel
theorem dX8_as_27 : decode cX8_as 27 = .ok (.lreturn, 1) := by decide +kernel
theorem dX8_as_28 : decode cX8_as 28 = .ok (.aload_n 0, 1) := by decide +kernel
theorem dX8_as_29 : decode cX8_as 29 = .ok (.getfield 9, 3) := by decide +kernel
theorem dX8_as_32 : decode cX8_as 32 = .ok (.iload_n 1, 1) := by decide +kernel
theorem dX8_as_33 : decode cX8_as 33 = .ok (.iaload, 1) := by decide +kernel
theorem dX8_as_34 : decode cX8_as 34 = .ok (.istore_n 3, 1) := by decide +kernel
theorem dX8_as_35 : decode cX8_as 35 = .ok (.iload_n 2, 1) := by decide +kernel
theorem dX8_as_36 : decode cX8_as 36 = .ok (.ifCond .eq 18, 3) := by decide +kernel
theorem dX8_as_39 : decode cX8_as 39 = .ok (.iload_n 2, 1) := by decide +kernel
theorem dX8_as_40 : decode cX8_as 40 = .ok (.iload_n 3, 1) := by decide +kernel
theorem dX8_as_41 : decode cX8_as 41 = .ok (.if_icmp .eq 13, 3) := by decide +kernel
theorem dX8_as_44 : decode cX8_as 44 = .ok (.iload_n 2, 1) := by decide +kernel
theorem dX8_as_45 : decode cX8_as 45 = .ok (.iconst 1, 1) := by decide +kernel
theorem dX8_as_46 : decode cX8_as 46 = .ok (.if_icmp .ne 12, 3) := by decide +kernel
theorem dX8_as_49 : decode cX8_as 49 = .ok (.iload_n 3, 1) := by decide +kernel
theorem dX8_as_50 : decode cX8_as 50 = .ok (.iconst 2, 1) := by decide +kernel
theorem dX8_as_51 : decode cX8_as 51 = .ok (.if_icmp .ne 7, 3) := by decide +kernel
theorem dX8_as_54 : decode cX8_as 54 = .ok (.iconst 1, 1) := by decide +kernel
theorem dX8_as_55 : decode cX8_as 55 = .ok (.goto 4, 3) := by decide +kernel
theorem dX8_as_58 : decode cX8_as 58 = .ok (.iconst 0, 1) := by decide +kernel
theorem dX8_as_59 : decode cX8_as 59 = .ok (.istore 4, 2) := by decide +kernel
theorem dX8_as_61 : decode cX8_as 61 = .ok (.iload 4, 2) := by decide +kernel
theorem dX8_as_63 : decode cX8_as 63 = .ok (.ifCond .eq 8, 3) := by decide +kernel
theorem dX8_as_66 : decode cX8_as 66 = .ok (.iload_n 1, 1) := by decide +kernel
theorem dX8_as_67 : decode cX8_as 67 = .ok (.i2l, 1) := by decide +kernel
theorem dX8_as_68 : decode cX8_as 68 = .ok (.goto 10, 3) := by decide +kernel
theorem dX8_as_71 : decode cX8_as 71 = .ok (.aload_n 0, 1) := by decide +kernel
theorem dX8_as_72 : decode cX8_as 72 = .ok (.ldc2_w 110, 3) := by decide +kernel
theorem dX8_as_75 : decode cX8_as 75 = .ok (.invokevirtual 100, 3) := by decide +kernel
theorem dX8_as_78 : decode cX8_as 78 = .ok (.lreturn, 1) := by decide +kernel
theorem dX8_add_0 : decode cX8_add 0 = .ok (.aload_n 0, 1) := by decide +kernel
theorem dX8_add_1 : decode cX8_add 1 = .ok (.getfield 112, 3) := by decide +kernel
theorem dX8_add_4 : decode cX8_add 4 = .ok (.bipush 30, 2) := by decide +kernel
theorem dX8_add_6 : decode cX8_add 6 = .ok (.if_icmp .ne 11, 3) := by decide +kernel
theorem dX8_add_9 : decode cX8_add 9 = .ok (.aload_n 0, 1) := by decide +kernel
theorem dX8_add_10 : decode cX8_add 10 = .ok (.ldc2_w 104, 3) := by decide +kernel
theorem dX8_add_13 : decode cX8_add 13 = .ok (.invokevirtual 100, 3) := by decide +kernel
theorem dX8_add_16 : decode cX8_add 16 = .ok (.lreturn, 1) := by decide +kernel
theorem dX8_add_17 : decode cX8_add 17 = .ok (.aload_n 0, 1) := by decide +kernel
theorem dX8_add_18 : decode cX8_add 18 = .ok (.getfield 13, 3) := by decide +kernel
theorem dX8_add_21 : decode cX8_add 21 = .ok (.aload_n 0, 1) := by decide +kernel
theorem dX8_add_22 : decode cX8_add 22 = .ok (.getfield 112, 3) := by decide +kernel
theorem dX8_add_25 : decode cX8_add 25 = .ok (.iload_n 1, 1) := by decide +kernel
theorem dX8_add_26 : decode cX8_add 26 = .ok (.iastore, 1) := by decide +kernel
theorem dX8_add_27 : decode cX8_add 27 = .ok (.aload_n 0, 1) := by decide +kernel
theorem dX8_add_28 : decode cX8_add 28 = .ok (.getfield 16, 3) := by decide +kernel
theorem dX8_add_31 : decode cX8_add 31 = .ok (.aload_n 0, 1) := by decide +kernel
theorem dX8_add_32 : decode cX8_add 32 = .ok (.getfield 112, 3) := by decide +kernel
theorem dX8_add_35 : decode cX8_add 35 = .ok (.iload_n 2, 1) := by decide +kernel
theorem dX8_add_36 : decode cX8_add 36 = .ok (.iastore, 1) := by decide +kernel
theorem dX8_add_37 : decode cX8_add 37 = .ok (.aload_n 0, 1) := by decide +kernel
theorem dX8_add_38 : decode cX8_add 38 = .ok (.getfield 19, 3) := by decide +kernel
theorem dX8_add_41 : decode cX8_add 41 = .ok (.aload_n 0, 1) := by decide +kernel
theorem dX8_add_42 : decode cX8_add 42 = .ok (.getfield 112, 3) := by decide +kernel
theorem dX8_add_45 : decode cX8_add 45 = .ok (.iload_n 3, 1) := by decide +kernel
theorem dX8_add_46 : decode cX8_add 46 = .ok (.iastore, 1) := by decide +kernel
theorem dX8_add_47 : decode cX8_add 47 = .ok (.aload_n 0, 1) := by decide +kernel
theorem dX8_add_48 : decode cX8_add 48 = .ok (.getfield 22, 3) := by decide +kernel
theorem dX8_add_51 : decode cX8_add 51 = .ok (.aload_n 0, 1) := by decide +kernel
theorem dX8_add_52 : decode cX8_add 52 = .ok (.getfield 112, 3) := by decide +kernel
theorem dX8_add_55 : decode cX8_add 55 = .ok (.iload 4, 2) := by decide +kernel
theorem dX8_add_57 : decode cX8_add 57 = .ok (.iastore, 1) := by decide +kernel
theorem dX8_add_58 : decode cX8_add 58 = .ok (.aload_n 0, 1) := by decide +kernel
theorem dX8_add_59 : decode cX8_add 59 = .ok (.getfield 25, 3) := by decide +kernel
theorem dX8_add_62 : decode cX8_add 62 = .ok (.aload_n 0, 1) := by decide +kernel
theorem dX8_add_63 : decode cX8_add 63 = .ok (.getfield 112, 3) := by decide +kernel
theorem dX8_add_66 : decode cX8_add 66 = .ok (.lload 5, 2) := by decide +kernel
theorem dX8_add_68 : decode cX8_add 68 = .ok (.lastore, 1) := by decide +kernel
theorem dX8_add_69 : decode cX8_add 69 = .ok (.aload_n 0, 1) := by decide +kernel
theorem dX8_add_70 : decode cX8_add 70 = .ok (.dup, 1) := by decide +kernel
theorem dX8_add_71 : decode cX8_add 71 = .ok (.getfield 112, 3) := by decide +kernel
theorem dX8_add_74 : decode cX8_add 74 = .ok (.iconst 1, 1) := by decide +kernel
theorem dX8_add_75 : decode cX8_add 75 = .ok (.iadd, 1) := by decide +kernel
theorem dX8_add_76 : decode cX8_add 76 = .ok (.putfield 112, 3) := by decide +kernel
theorem dX8_add_79 : decode cX8_add 79 = .ok (.aload_n 0, 1) := by decide +kernel
theorem dX8_add_80 : decode cX8_add 80 = .ok (.getfield 112, 3) := by decide +kernel
theorem dX8_add_83 : decode cX8_add 83 = .ok (.iconst 1, 1) := by decide +kernel
theorem dX8_add_84 : decode cX8_add 84 = .ok (.isub, 1) := by decide +kernel
theorem dX8_add_85 : decode cX8_add 85 = .ok (.i2l, 1) := by decide +kernel
theorem dX8_add_86 : decode cX8_add 86 = .ok (.lreturn, 1) := by decide +kernel
theorem dX8_found_0 : decode cX8_found 0 = .ok (.aload_n 0, 1) := by decide +kernel
theorem dX8_found_1 : decode cX8_found 1 = .ok (.iload_n 1, 1) := by decide +kernel
theorem dX8_found_2 : decode cX8_found 2 = .ok (.invokevirtual 106, 3) := by decide +kernel
theorem dX8_found_5 : decode cX8_found 5 = .ok (.ifCond .eq 25, 3) := by decide +kernel
theorem dX8_found_8 : decode cX8_found 8 = .ok (.iload_n 2, 1) := by decide +kernel
theorem dX8_found_9 : decode cX8_found 9 = .ok (.invokestatic 115, 3) := by decide +kernel
theorem dX8_found_12 : decode cX8_found 12 = .ok (.ifCond .eq 18, 3) := by decide +kernel
theorem dX8_found_15 : decode cX8_found 15 = .ok (.lload_n 3, 1) := by decide +kernel
theorem dX8_found_16 : decode cX8_found 16 = .ok (.lconst 0, 1) := by decide +kernel
theorem dX8_found_17 : decode cX8_found 17 = .ok (.lcmp, 1) := by decide +kernel
theorem dX8_found_18 : decode cX8_found 18 = .ok (.ifCond .lt 12, 3) := by decide +kernel
theorem dX8_found_21 : decode cX8_found 21 = .ok (.lload_n 3, 1) := by decide +kernel
theorem dX8_found_22 : decode cX8_found 22 = .ok (.bipush 36, 2) := by decide +kernel
theorem dX8_found_24 : decode cX8_found 24 = .ok (.lshr, 1) := by decide +kernel
theorem dX8_found_25 : decode cX8_found 25 = .ok (.lconst 0, 1) := by decide +kernel
theorem dX8_found_26 : decode cX8_found 26 = .ok (.lcmp, 1) := by decide +kernel
theorem dX8_found_27 : decode cX8_found 27 = .ok (.ifCond .eq 11, 3) := by decide +kernel
theorem dX8_found_30 : decode cX8_found 30 = .ok (.aload_n 0, 1) := by decide +kernel
theorem dX8_found_31 : decode cX8_found 31 = .ok (.ldc2_w 98, 3) := by decide +kernel
theorem dX8_found_34 : decode cX8_found 34 = .ok (.invokevirtual 100, 3) := by decide +kernel
theorem dX8_found_37 : decode cX8_found 37 = .ok (.lreturn, 1) := by decide +kernel
theorem dX8_found_38 : decode cX8_found 38 = .ok (.aload_n 0, 1) := by decide +kernel
theorem dX8_found_39 : decode cX8_found 39 = .ok (.iload_n 1, 1) := by decide +kernel
theorem dX8_found_40 : decode cX8_found 40 = .ok (.invokevirtual 118, 3) := by decide +kernel
theorem dX8_found_43 : decode cX8_found 43 = .ok (.ifCond .eq 13, 3) := by decide +kernel
theorem dX8_found_46 : decode cX8_found 46 = .ok (.aload_n 0, 1) := by decide +kernel
theorem dX8_found_47 : decode cX8_found 47 = .ok (.ldc2_w 110, 3) := by decide +kernel
theorem dX8_found_50 : decode cX8_found 50 = .ok (.invokevirtual 100, 3) := by decide +kernel
theorem dX8_found_53 : decode cX8_found 53 = .ok (.goto 12, 3) := by decide +kernel
theorem dX8_found_56 : decode cX8_found 56 = .ok (.aload_n 0, 1) := by decide +kernel
theorem dX8_found_57 : decode cX8_found 57 = .ok (.iconst 0, 1) := by decide +kernel
theorem dX8_found_58 : decode cX8_found 58 = .ok (.iload_n 2, 1) := by decide +kernel
theorem dX8_found_59 : decode cX8_found 59 = .ok (.iload_n 1, 1) := by decide +kernel
theorem dX8_found_60 : decode cX8_found 60 = .ok (.iconst (-1), 1) := by decide +kernel
theorem dX8_found_61 : decode cX8_found 61 = .ok (.lload_n 3, 1) := by decide +kernel
theorem dX8_found_62 : decode cX8_found 62 = .ok (.invokevirtual 121, 3) := by decide +kernel
theorem dX8_found_65 : decode cX8_found 65 = .ok (.lreturn, 1) := by decide +kernel
theorem dX8_move_0 : decode cX8_move 0 = .ok (.aload_n 0, 1) := by decide +kernel
theorem dX8_move_1 : decode cX8_move 1 = .ok (.iload_n 1, 1) := by decide +kernel
theorem dX8_move_2 : decode cX8_move 2 = .ok (.invokevirtual 106, 3) := by decide +kernel
theorem dX8_move_5 : decode cX8_move 5 = .ok (.ifCond .eq 35, 3) := by decide +kernel
theorem dX8_move_8 : decode cX8_move 8 = .ok (.aload_n 0, 1) := by decide +kernel
theorem dX8_move_9 : decode cX8_move 9 = .ok (.iload_n 2, 1) := by decide +kernel
theorem dX8_move_10 : decode cX8_move 10 = .ok (.invokevirtual 106, 3) := by decide +kernel
theorem dX8_move_13 : decode cX8_move 13 = .ok (.ifCond .eq 27, 3) := by decide +kernel
theorem dX8_move_16 : decode cX8_move 16 = .ok (.iload_n 3, 1) := by decide +kernel
theorem dX8_move_17 : decode cX8_move 17 = .ok (.invokestatic 115, 3) := by decide +kernel
theorem dX8_move_20 : decode cX8_move 20 = .ok (.ifCond .eq 20, 3) := by decide +kernel
theorem dX8_move_23 : decode cX8_move 23 = .ok (.lload 4, 2) := by decide +kernel
theorem dX8_move_25 : decode cX8_move 25 = .ok (.lconst 0, 1) := by decide +kernel
theorem dX8_move_26 : decode cX8_move 26 = .ok (.lcmp, 1) := by decide +kernel
theorem dX8_move_27 : decode cX8_move 27 = .ok (.ifCond .lt 13, 3) := by decide +kernel
theorem dX8_move_30 : decode cX8_move 30 = .ok (.lload 4, 2) := by decide +kernel
theorem dX8_move_32 : decode cX8_move 32 = .ok (.bipush 36, 2) := by decide +kernel
theorem dX8_move_34 : decode cX8_move 34 = .ok (.lshr, 1) := by decide +kernel
theorem dX8_move_35 : decode cX8_move 35 = .ok (.lconst 0, 1) := by decide +kernel
theorem dX8_move_36 : decode cX8_move 36 = .ok (.lcmp, 1) := by decide +kernel
theorem dX8_move_37 : decode cX8_move 37 = .ok (.ifCond .eq 11, 3) := by decide +kernel
theorem dX8_move_40 : decode cX8_move 40 = .ok (.aload_n 0, 1) := by decide +kernel
theorem dX8_move_41 : decode cX8_move 41 = .ok (.ldc2_w 98, 3) := by decide +kernel
theorem dX8_move_44 : decode cX8_move 44 = .ok (.invokevirtual 100, 3) := by decide +kernel
theorem dX8_move_47 : decode cX8_move 47 = .ok (.lreturn, 1) := by decide +kernel
theorem dX8_move_48 : decode cX8_move 48 = .ok (.aload_n 0, 1) := by decide +kernel
theorem dX8_move_49 : decode cX8_move 49 = .ok (.iload_n 1, 1) := by decide +kernel
theorem dX8_move_50 : decode cX8_move 50 = .ok (.invokevirtual 118, 3) := by decide +kernel
theorem dX8_move_53 : decode cX8_move 53 = .ok (.ifCond .ne 11, 3) := by decide +kernel
theorem dX8_move_56 : decode cX8_move 56 = .ok (.aload_n 0, 1) := by decide +kernel
theorem dX8_move_57 : decode cX8_move 57 = .ok (.iload_n 2, 1) := by decide +kernel
theorem dX8_move_58 : decode cX8_move 58 = .ok (.invokevirtual 118, 3) := by decide +kernel
theorem dX8_move_61 : decode cX8_move 61 = .ok (.ifCond .eq 11, 3) := by decide +kernel
theorem dX8_move_64 : decode cX8_move 64 = .ok (.aload_n 0, 1) := by decide +kernel
theorem dX8_move_65 : decode cX8_move 65 = .ok (.ldc2_w 110, 3) := by decide +kernel
theorem dX8_move_68 : decode cX8_move 68 = .ok (.invokevirtual 100, 3) := by decide +kernel
theorem dX8_move_71 : decode cX8_move 71 = .ok (.lreturn, 1) := by decide +kernel
theorem dX8_move_72 : decode cX8_move 72 = .ok (.iload_n 1, 1) := by decide +kernel
theorem dX8_move_73 : decode cX8_move 73 = .ok (.iload_n 2, 1) := by decide +kernel
theorem dX8_move_74 : decode cX8_move 74 = .ok (.if_icmp .ne 13, 3) := by decide +kernel
theorem dX8_move_77 : decode cX8_move 77 = .ok (.aload_n 0, 1) := by decide +kernel
theorem dX8_move_78 : decode cX8_move 78 = .ok (.ldc2_w 125, 3) := by decide +kernel
theorem dX8_move_81 : decode cX8_move 81 = .ok (.invokevirtual 100, 3) := by decide +kernel
theorem dX8_move_84 : decode cX8_move 84 = .ok (.goto 13, 3) := by decide +kernel
theorem dX8_move_87 : decode cX8_move 87 = .ok (.aload_n 0, 1) := by decide +kernel
theorem dX8_move_88 : decode cX8_move 88 = .ok (.iconst 1, 1) := by decide +kernel
theorem dX8_move_89 : decode cX8_move 89 = .ok (.iload_n 3, 1) := by decide +kernel
theorem dX8_move_90 : decode cX8_move 90 = .ok (.iload_n 1, 1) := by decide +kernel
theorem dX8_move_91 : decode cX8_move 91 = .ok (.iload_n 2, 1) := by decide +kernel
theorem dX8_move_92 : decode cX8_move 92 = .ok (.lload 4, 2) := by decide +kernel
theorem dX8_move_94 : decode cX8_move 94 = .ok (.invokevirtual 121, 3) := by decide +kernel
theorem dX8_move_97 : decode cX8_move 97 = .ok (.lreturn, 1) := by decide +kernel
theorem dX8_swallow_0 : decode cX8_swallow 0 = .ok (.aload_n 0, 1) := by decide +kernel
theorem dX8_swallow_1 : decode cX8_swallow 1 = .ok (.iload_n 1, 1) := by decide +kernel
theorem dX8_swallow_2 : decode cX8_swallow 2 = .ok (.invokevirtual 106, 3) := by decide +kernel
theorem dX8_swallow_5 : decode cX8_swallow 5 = .ok (.ifCond .eq 18, 3) := by decide +kernel
theorem dX8_swallow_8 : decode cX8_swallow 8 = .ok (.aload_n 0, 1) := by decide +kernel
theorem dX8_swallow_9 : decode cX8_swallow 9 = .ok (.iload_n 2, 1) := by decide +kernel
theorem dX8_swallow_10 : decode cX8_swallow 10 = .ok (.invokevirtual 106, 3) := by decide +kernel
theorem dX8_swallow_13 : decode cX8_swallow 13 = .ok (.ifCond .eq 10, 3) := by decide +kernel
theorem dX8_swallow_16 : decode cX8_swallow 16 = .ok (.iload_n 3, 1) := by decide +kernel
theorem dX8_swallow_17 : decode cX8_swallow 17 = .ok (.invokestatic 115, 3) := by decide +kernel
theorem dX8_swallow_20 : decode cX8_swallow 20 = .ok (.ifCond .ne 11, 3) := by decide +kernel
theorem dX8_swallow_23 : decode cX8_swallow 23 = .ok (.aload_n 0, 1) := by decide +kernel
theorem dX8_swallow_24 : decode cX8_swallow 24 = .ok (.ldc2_w 98, 3) := by decide +kernel
theorem dX8_swallow_27 : decode cX8_swallow 27 = .ok (.invokevirtual 100, 3) := by decide +kernel
theorem dX8_swallow_30 : decode cX8_swallow 30 = .ok (.lreturn, 1) := by decide +kernel
theorem dX8_swallow_31 : decode cX8_swallow 31 = .ok (.aload_n 0, 1) := by decide +kernel
theorem dX8_swallow_32 : decode cX8_swallow 32 = .ok (.iload_n 1, 1) := by decide +kernel
theorem dX8_swallow_33 : decode cX8_swallow 33 = .ok (.invokevirtual 118, 3) := by decide +kernel
theorem dX8_swallow_36 : decode cX8_swallow 36 = .ok (.ifCond .ne 11, 3) := by decide +kernel
theorem dX8_swallow_39 : decode cX8_swallow 39 = .ok (.aload_n 0, 1) := by decide +kernel
theorem dX8_swallow_40 : decode cX8_swallow 40 = .ok (.iload_n 2, 1) := by decide +kernel
theorem dX8_swallow_41 : decode cX8_swallow 41 = .ok (.invokevirtual 118, 3) := by decide +kernel
theorem dX8_swallow_44 : decode cX8_swallow 44 = .ok (.ifCond .eq 11, 3) := by decide +kernel
theorem dX8_swallow_47 : decode cX8_swallow 47 = .ok (.aload_n 0, 1) := by decide +kernel
theorem dX8_swallow_48 : decode cX8_swallow 48 = .ok (.ldc2_w 110, 3) := by decide +kernel
theorem dX8_swallow_51 : decode cX8_swallow 51 = .ok (.invokevirtual 100, 3) := by decide +kernel
theorem dX8_swallow_54 : decode cX8_swallow 54 = .ok (.lreturn, 1) := by decide +kernel
theorem dX8_swallow_55 : decode cX8_swallow 55 = .ok (.iload_n 1, 1) := by decide +kernel
theorem dX8_swallow_56 : decode cX8_swallow 56 = .ok (.iload_n 2, 1) := by decide +kernel
theorem dX8_swallow_57 : decode cX8_swallow 57 = .ok (.if_icmp .ne 13, 3) := by decide +kernel
theorem dX8_swallow_60 : decode cX8_swallow 60 = .ok (.aload_n 0, 1) := by decide +kernel
theorem dX8_swallow_61 : decode cX8_swallow 61 = .ok (.ldc2_w 125, 3) := by decide +kernel
theorem dX8_swallow_64 : decode cX8_swallow 64 = .ok (.invokevirtual 100, 3) := by decide +kernel
theorem dX8_swallow_67 : decode cX8_swallow 67 = .ok (.goto 12, 3) := by decide +kernel
theorem dX8_swallow_70 : decode cX8_swallow 70 = .ok (.aload_n 0, 1) := by decide +kernel
theorem dX8_swallow_71 : decode cX8_swallow 71 = .ok (.iconst 2, 1) := by decide +kernel
theorem dX8_swallow_72 : decode cX8_swallow 72 = .ok (.iload_n 3, 1) := by decide +kernel
theorem dX8_swallow_73 : decode cX8_swallow 73 = .ok (.iload_n 1, 1) := by decide +kernel
theorem dX8_swallow_74 : decode cX8_swallow 74 = .ok (.iload_n 2, 1) := by decide +kernel
theorem dX8_swallow_75 : decode cX8_swallow 75 = .ok (.lconst 0, 1) := by decide +kernel
theorem dX8_swallow_76 : decode cX8_swallow 76 = .ok (.invokevirtual 121, 3) := by decide +kernel
theorem dX8_swallow_79 : decode cX8_swallow 79 = .ok (.lreturn, 1) := by decide +kernel
theorem dX8_back_0 : decode cX8_back 0 = .ok (.iload_n 1, 1) := by decide +kernel
theorem dX8_back_1 : decode cX8_back 1 = .ok (.i2l, 1) := by decide +kernel
theorem dX8_back_2 : decode cX8_back 2 = .ok (.lconst 0, 1) := by decide +kernel
theorem dX8_back_3 : decode cX8_back 3 = .ok (.aload_n 0, 1) := by decide +kernel
theorem dX8_back_4 : decode cX8_back 4 = .ok (.getfield 112, 3) := by decide +kernel
theorem dX8_back_7 : decode cX8_back 7 = .ok (.iconst 1, 1) := by decide +kernel
theorem dX8_back_8 : decode cX8_back 8 = .ok (.isub, 1) := by decide +kernel
theorem dX8_back_9 : decode cX8_back 9 = .ok (.i2l, 1) := by decide +kernel
theorem dX8_back_10 : decode cX8_back 10 = .ok (.invokestatic 86, 3) := by decide +kernel
theorem dX8_back_13 : decode cX8_back 13 = .ok (.ifCond .eq 20, 3) := by decide +kernel
theorem dX8_back_16 : decode cX8_back 16 = .ok (.iload_n 2, 1) := by decide +kernel
theorem dX8_back_17 : decode cX8_back 17 = .ok (.invokestatic 115, 3) := by decide +kernel
theorem dX8_back_20 : decode cX8_back 20 = .ok (.ifCond .eq 13, 3) := by decide +kernel
theorem dX8_back_23 : decode cX8_back 23 = .ok (.iload_n 2, 1) := by decide +kernel
theorem dX8_back_24 : decode cX8_back 24 = .ok (.aload_n 0, 1) := by decide +kernel
theorem dX8_back_25 : decode cX8_back 25 = .ok (.getfield 16, 3) := by decide +kernel
theorem dX8_back_28 : decode cX8_back 28 = .ok (.iload_n 1, 1) := by decide +kernel
theorem dX8_back_29 : decode cX8_back 29 = .ok (.iaload, 1) := by decide +kernel
theorem dX8_back_30 : decode cX8_back 30 = .ok (.if_icmp .ge 11, 3) := by decide +kernel
theorem dX8_back_33 : decode cX8_back 33 = .ok (.aload_n 0, 1) := by decide +kernel
theorem dX8_back_34 : decode cX8_back 34 = .ok (.ldc2_w 98, 3) := by decide +kernel
theorem dX8_back_37 : decode cX8_back 37 = .ok (.invokevirtual 100, 3) := by decide +kernel
theorem dX8_back_40 : decode cX8_back 40 = .ok (.lreturn, 1) := by decide +kernel
theorem dX8_back_41 : decode cX8_back 41 = .ok (.aload_n 0, 1) := by decide +kernel
theorem dX8_back_42 : decode cX8_back 42 = .ok (.getfield 13, 3) := by decide +kernel
theorem dX8_back_45 : decode cX8_back 45 = .ok (.iload_n 1, 1) := by decide +kernel
theorem dX8_back_46 : decode cX8_back 46 = .ok (.iaload, 1) := by decide +kernel
theorem dX8_back_47 : decode cX8_back 47 = .ok (.iconst 2, 1) := by decide +kernel
theorem dX8_back_48 : decode cX8_back 48 = .ok (.if_icmp .le 13, 3) := by decide +kernel
theorem dX8_back_51 : decode cX8_back 51 = .ok (.aload_n 0, 1) := by decide +kernel
theorem dX8_back_52 : decode cX8_back 52 = .ok (.ldc2_w 110, 3) := by decide +kernel
theorem dX8_back_55 : decode cX8_back 55 = .ok (.invokevirtual 100, 3) := by decide +kernel
theorem dX8_back_58 : decode cX8_back 58 = .ok (.goto 12, 3) := by decide +kernel
theorem dX8_back_61 : decode cX8_back 61 = .ok (.aload_n 0, 1) := by decide +kernel
theorem dX8_back_62 : decode cX8_back 62 = .ok (.iconst 3, 1) := by decide +kernel
theorem dX8_back_63 : decode cX8_back 63 = .ok (.iload_n 2, 1) := by decide +kernel
theorem dX8_back_64 : decode cX8_back 64 = .ok (.iload_n 1, 1) := by decide +kernel
theorem dX8_back_65 : decode cX8_back 65 = .ok (.iconst (-1), 1) := by decide +kernel
theorem dX8_back_66 : decode cX8_back 66 = .ok (.lconst 0, 1) := by decide +kernel
theorem dX8_back_67 : decode cX8_back 67 = .ok (.invokevirtual 121, 3) := by decide +kernel
theorem dX8_back_70 : decode cX8_back 70 = .ok (.lreturn, 1) := by decide +kernel
theorem dX8_join_0 : decode cX8_join 0 = .ok (.aload_n 0, 1) := by decide +kernel
theorem dX8_join_1 : decode cX8_join 1 = .ok (.iload_n 1, 1) := by decide +kernel
theorem dX8_join_2 : decode cX8_join 2 = .ok (.invokevirtual 106, 3) := by decide +kernel
theorem dX8_join_5 : decode cX8_join 5 = .ok (.ifCond .eq 18, 3) := by decide +kernel
theorem dX8_join_8 : decode cX8_join 8 = .ok (.aload_n 0, 1) := by decide +kernel
theorem dX8_join_9 : decode cX8_join 9 = .ok (.iload_n 2, 1) := by decide +kernel
theorem dX8_join_10 : decode cX8_join 10 = .ok (.invokevirtual 106, 3) := by decide +kernel
theorem dX8_join_13 : decode cX8_join 13 = .ok (.ifCond .eq 10, 3) := by decide +kernel
theorem dX8_join_16 : decode cX8_join 16 = .ok (.iload_n 3, 1) := by decide +kernel
theorem dX8_join_17 : decode cX8_join 17 = .ok (.invokestatic 115, 3) := by decide +kernel
theorem dX8_join_20 : decode cX8_join 20 = .ok (.ifCond .ne 11, 3) := by decide +kernel
theorem dX8_join_23 : decode cX8_join 23 = .ok (.aload_n 0, 1) := by decide +kernel
theorem dX8_join_24 : decode cX8_join 24 = .ok (.ldc2_w 98, 3) := by decide +kernel
theorem dX8_join_27 : decode cX8_join 27 = .ok (.invokevirtual 100, 3) := by decide +kernel
theorem dX8_join_30 : decode cX8_join 30 = .ok (.lreturn, 1) := by decide +kernel
theorem dX8_join_31 : decode cX8_join 31 = .ok (.aload_n 0, 1) := by decide +kernel
theorem dX8_join_32 : decode cX8_join 32 = .ok (.iload_n 1, 1) := by decide +kernel
theorem dX8_join_33 : decode cX8_join 33 = .ok (.invokevirtual 118, 3) := by decide +kernel
theorem dX8_join_36 : decode cX8_join 36 = .ok (.ifCond .ne 11, 3) := by decide +kernel
theorem dX8_join_39 : decode cX8_join 39 = .ok (.aload_n 0, 1) := by decide +kernel
theorem dX8_join_40 : decode cX8_join 40 = .ok (.iload_n 2, 1) := by decide +kernel
theorem dX8_join_41 : decode cX8_join 41 = .ok (.invokevirtual 118, 3) := by decide +kernel
theorem dX8_join_44 : decode cX8_join 44 = .ok (.ifCond .ne 13, 3) := by decide +kernel
theorem dX8_join_47 : decode cX8_join 47 = .ok (.aload_n 0, 1) := by decide +kernel
theorem dX8_join_48 : decode cX8_join 48 = .ok (.ldc2_w 110, 3) := by decide +kernel
theorem dX8_join_51 : decode cX8_join 51 = .ok (.invokevirtual 100, 3) := by decide +kernel
theorem dX8_join_54 : decode cX8_join 54 = .ok (.goto 12, 3) := by decide +kernel
theorem dX8_join_57 : decode cX8_join 57 = .ok (.aload_n 0, 1) := by decide +kernel
theorem dX8_join_58 : decode cX8_join 58 = .ok (.iconst 4, 1) := by decide +kernel
theorem dX8_join_59 : decode cX8_join 59 = .ok (.iload_n 3, 1) := by decide +kernel
theorem dX8_join_60 : decode cX8_join 60 = .ok (.iload_n 1, 1) := by decide +kernel
theorem dX8_join_61 : decode cX8_join 61 = .ok (.iload_n 2, 1) := by decide +kernel
theorem dX8_join_62 : decode cX8_join 62 = .ok (.lconst 0, 1) := by decide +kernel
theorem dX8_join_63 : decode cX8_join 63 = .ok (.invokevirtual 121, 3) := by decide +kernel
theorem dX8_join_66 : decode cX8_join 66 = .ok (.lreturn, 1) := by decide +kernel
theorem dX8_done_0 : decode cX8_done 0 = .ok (.iconst 0, 1) := by decide +kernel
theorem dX8_done_1 : decode cX8_done 1 = .ok (.istore_n 1, 1) := by decide +kernel
theorem dX8_done_2 : decode cX8_done 2 = .ok (.iload_n 1, 1) := by decide +kernel
theorem dX8_done_3 : decode cX8_done 3 = .ok (.aload_n 0, 1) := by decide +kernel
theorem dX8_done_4 : decode cX8_done 4 = .ok (.getfield 112, 3) := by decide +kernel
theorem dX8_done_7 : decode cX8_done 7 = .ok (.if_icmp .ge 84, 3) := by decide +kernel
theorem dX8_done_10 : decode cX8_done 10 = .ok (.iconst 0, 1) := by decide +kernel
theorem dX8_done_11 : decode cX8_done 11 = .ok (.istore_n 2, 1) := by decide +kernel
theorem dX8_done_12 : decode cX8_done 12 = .ok (.iconst 0, 1) := by decide +kernel
theorem dX8_done_13 : decode cX8_done 13 = .ok (.istore_n 3, 1) := by decide +kernel
theorem dX8_done_14 : decode cX8_done 14 = .ok (.iload_n 3, 1) := by decide +kernel
theorem dX8_done_15 : decode cX8_done 15 = .ok (.aload_n 0, 1) := by decide +kernel
theorem dX8_done_16 : decode cX8_done 16 = .ok (.getfield 112, 3) := by decide +kernel
theorem dX8_done_19 : decode cX8_done 19 = .ok (.if_icmp .ge 52, 3) := by decide +kernel
theorem dX8_done_22 : decode cX8_done 22 = .ok (.iload_n 2, 1) := by decide +kernel
theorem dX8_done_23 : decode cX8_done 23 = .ok (.aload_n 0, 1) := by decide +kernel
theorem dX8_done_24 : decode cX8_done 24 = .ok (.getfield 16, 3) := by decide +kernel
theorem dX8_done_27 : decode cX8_done 27 = .ok (.iload_n 3, 1) := by decide +kernel
theorem dX8_done_28 : decode cX8_done 28 = .ok (.iaload, 1) := by decide +kernel
theorem dX8_done_29 : decode cX8_done 29 = .ok (.aload_n 0, 1) := by decide +kernel
theorem dX8_done_30 : decode cX8_done 30 = .ok (.getfield 16, 3) := by decide +kernel
theorem dX8_done_33 : decode cX8_done 33 = .ok (.iload_n 1, 1) := by decide +kernel
theorem dX8_done_34 : decode cX8_done 34 = .ok (.iaload, 1) := by decide +kernel
theorem dX8_done_35 : decode cX8_done 35 = .ok (.if_icmp .lt 23, 3) := by decide +kernel
theorem dX8_done_38 : decode cX8_done 38 = .ok (.aload_n 0, 1) := by decide +kernel
theorem dX8_done_39 : decode cX8_done 39 = .ok (.getfield 16, 3) := by decide +kernel
theorem dX8_done_42 : decode cX8_done 42 = .ok (.iload_n 3, 1) := by decide +kernel
theorem dX8_done_43 : decode cX8_done 43 = .ok (.iaload, 1) := by decide +kernel
theorem dX8_done_44 : decode cX8_done 44 = .ok (.aload_n 0, 1) := by decide +kernel
theorem dX8_done_45 : decode cX8_done 45 = .ok (.getfield 16, 3) := by decide +kernel
theorem dX8_done_48 : decode cX8_done 48 = .ok (.iload_n 1, 1) := by decide +kernel
theorem dX8_done_49 : decode cX8_done 49 = .ok (.iaload, 1) := by decide +kernel
theorem dX8_done_50 : decode cX8_done 50 = .ok (.if_icmp .ne 12, 3) := by decide +kernel
theorem dX8_done_53 : decode cX8_done 53 = .ok (.iload_n 3, 1) := by decide +kernel
theorem dX8_done_54 : decode cX8_done 54 = .ok (.iload_n 1, 1) := by decide +kernel
theorem dX8_done_55 : decode cX8_done 55 = .ok (.if_icmp .ge 7, 3) := by decide +kernel
theorem dX8_done_58 : decode cX8_done 58 = .ok (.iconst 1, 1) := by decide +kernel
theorem dX8_done_59 : decode cX8_done 59 = .ok (.goto 4, 3) := by decide +kernel
theorem dX8_done_62 : decode cX8_done 62 = .ok (.iconst 0, 1) := by decide +kernel
theorem dX8_done_63 : decode cX8_done 63 = .ok (.iadd, 1) := by decide +kernel
theorem dX8_done_64 : decode cX8_done 64 = .ok (.istore_n 2, 1) := by decide +kernel
theorem dX8_done_65 : decode cX8_done 65 = .ok (.iinc 3 1, 3) := by decide +kernel
theorem dX8_done_68 : decode cX8_done 68 = .ok (.goto (-54), 3) := by decide +kernel
theorem dX8_done_71 : decode cX8_done 71 = .ok (.aload_n 0, 1) := by decide +kernel
theorem dX8_done_72 : decode cX8_done 72 = .ok (.getfield 53, 3) := by decide +kernel
theorem dX8_done_75 : decode cX8_done 75 = .ok (.iload_n 2, 1) := by decide +kernel
theorem dX8_done_76 : decode cX8_done 76 = .ok (.iload_n 1, 1) := by decide +kernel
theorem dX8_done_77 : decode cX8_done 77 = .ok (.iastore, 1) := by decide +kernel
theorem dX8_done_78 : decode cX8_done 78 = .ok (.aload_n 0, 1) := by decide +kernel
theorem dX8_done_79 : decode cX8_done 79 = .ok (.getfield 56, 3) := by decide +kernel
theorem dX8_done_82 : decode cX8_done 82 = .ok (.iload_n 1, 1) := by decide +kernel
theorem dX8_done_83 : decode cX8_done 83 = .ok (.iload_n 2, 1) := by decide +kernel
theorem dX8_done_84 : decode cX8_done 84 = .ok (.iastore, 1) := by decide +kernel
theorem dX8_done_85 : decode cX8_done 85 = .ok (.iinc 1 1, 3) := by decide +kernel
theorem dX8_done_88 : decode cX8_done 88 = .ok (.goto (-86), 3) := by decide +kernel
theorem dX8_done_91 : decode cX8_done 91 = .ok (.iconst 0, 1) := by decide +kernel
theorem dX8_done_92 : decode cX8_done 92 = .ok (.istore_n 1, 1) := by decide +kernel
theorem dX8_done_93 : decode cX8_done 93 = .ok (.iload_n 1, 1) := by decide +kernel
theorem dX8_done_94 : decode cX8_done 94 = .ok (.bipush 36, 2) := by decide +kernel
theorem dX8_done_96 : decode cX8_done 96 = .ok (.if_icmp .ge 17, 3) := by decide +kernel
theorem dX8_done_99 : decode cX8_done 99 = .ok (.aload_n 0, 1) := by decide +kernel
theorem dX8_done_100 : decode cX8_done 100 = .ok (.getfield 59, 3) := by decide +kernel
theorem dX8_done_103 : decode cX8_done 103 = .ok (.iload_n 1, 1) := by decide +kernel
theorem dX8_done_104 : decode cX8_done 104 = .ok (.bipush 10, 2) := by decide +kernel
theorem dX8_done_106 : decode cX8_done 106 = .ok (.iastore, 1) := by decide +kernel
theorem dX8_done_107 : decode cX8_done 107 = .ok (.iinc 1 1, 3) := by decide +kernel
theorem dX8_done_110 : decode cX8_done 110 = .ok (.goto (-17), 3) := by decide +kernel
theorem dX8_done_113 : decode cX8_done 113 = .ok (.iconst 0, 1) := by decide +kernel
theorem dX8_done_114 : decode cX8_done 114 = .ok (.istore_n 1, 1) := by decide +kernel
theorem dX8_done_115 : decode cX8_done 115 = .ok (.iload_n 1, 1) := by decide +kernel
theorem dX8_done_116 : decode cX8_done 116 = .ok (.bipush 10, 2) := by decide +kernel
theorem dX8_done_118 : decode cX8_done 118 = .ok (.if_icmp .ge 23, 3) := by decide +kernel
theorem dX8_done_121 : decode cX8_done 121 = .ok (.aload_n 0, 1) := by decide +kernel
theorem dX8_done_122 : decode cX8_done 122 = .ok (.getfield 68, 3) := by decide +kernel
theorem dX8_done_125 : decode cX8_done 125 = .ok (.iload_n 1, 1) := by decide +kernel
theorem dX8_done_126 : decode cX8_done 126 = .ok (.iconst 0, 1) := by decide +kernel
theorem dX8_done_127 : decode cX8_done 127 = .ok (.bastore, 1) := by decide +kernel
theorem dX8_done_128 : decode cX8_done 128 = .ok (.aload_n 0, 1) := by decide +kernel
theorem dX8_done_129 : decode cX8_done 129 = .ok (.getfield 62, 3) := by decide +kernel
theorem dX8_done_132 : decode cX8_done 132 = .ok (.iload_n 1, 1) := by decide +kernel
theorem dX8_done_133 : decode cX8_done 133 = .ok (.iconst (-1), 1) := by decide +kernel
theorem dX8_done_134 : decode cX8_done 134 = .ok (.iastore, 1) := by decide +kernel
theorem dX8_done_135 : decode cX8_done 135 = .ok (.iinc 1 1, 3) := by decide +kernel
theorem dX8_done_138 : decode cX8_done 138 = .ok (.goto (-23), 3) := by decide +kernel
theorem dX8_done_141 : decode cX8_done 141 = .ok (.iconst 0, 1) := by decide +kernel
theorem dX8_done_142 : decode cX8_done 142 = .ok (.istore_n 1, 1) := by decide +kernel
theorem dX8_done_143 : decode cX8_done 143 = .ok (.iload_n 1, 1) := by decide +kernel
theorem dX8_done_144 : decode cX8_done 144 = .ok (.aload_n 0, 1) := by decide +kernel
theorem dX8_done_145 : decode cX8_done 145 = .ok (.getfield 112, 3) := by decide +kernel
theorem dX8_done_148 : decode cX8_done 148 = .ok (.if_icmp .ge 200, 3) := by decide +kernel
theorem dX8_done_151 : decode cX8_done 151 = .ok (.iconst 0, 1) := by decide +kernel
theorem dX8_done_152 : decode cX8_done 152 = .ok (.istore_n 2, 1) := by decide +kernel
theorem dX8_done_153 : decode cX8_done 153 = .ok (.iload_n 2, 1) := by decide +kernel
theorem dX8_done_154 : decode cX8_done 154 = .ok (.bipush 36, 2) := by decide +kernel
theorem dX8_done_156 : decode cX8_done 156 = .ok (.if_icmp .ge 33, 3) := by decide +kernel
theorem dX8_done_159 : decode cX8_done 159 = .ok (.aload_n 0, 1) := by decide +kernel
theorem dX8_done_160 : decode cX8_done 160 = .ok (.getfield 59, 3) := by decide +kernel
theorem dX8_done_163 : decode cX8_done 163 = .ok (.bipush 36, 2) := by decide +kernel
theorem dX8_done_165 : decode cX8_done 165 = .ok (.iload_n 1, 1) := by decide +kernel
theorem dX8_done_166 : decode cX8_done 166 = .ok (.iconst 1, 1) := by decide +kernel
theorem dX8_done_167 : decode cX8_done 167 = .ok (.iadd, 1) := by decide +kernel
theorem dX8_done_168 : decode cX8_done 168 = .ok (.imul, 1) := by decide +kernel
theorem dX8_done_169 : decode cX8_done 169 = .ok (.iload_n 2, 1) := by decide +kernel
theorem dX8_done_170 : decode cX8_done 170 = .ok (.iadd, 1) := by decide +kernel
theorem dX8_done_171 : decode cX8_done 171 = .ok (.aload_n 0, 1) := by decide +kernel
theorem dX8_done_172 : decode cX8_done 172 = .ok (.getfield 59, 3) := by decide +kernel
theorem dX8_done_175 : decode cX8_done 175 = .ok (.bipush 36, 2) := by decide +kernel
theorem dX8_done_177 : decode cX8_done 177 = .ok (.iload_n 1, 1) := by decide +kernel
theorem dX8_done_178 : decode cX8_done 178 = .ok (.imul, 1) := by decide +kernel
theorem dX8_done_179 : decode cX8_done 179 = .ok (.iload_n 2, 1) := by decide +kernel
theorem dX8_done_180 : decode cX8_done 180 = .ok (.iadd, 1) := by decide +kernel
theorem dX8_done_181 : decode cX8_done 181 = .ok (.iaload, 1) := by decide +kernel
theorem dX8_done_182 : decode cX8_done 182 = .ok (.iastore, 1) := by decide +kernel
theorem dX8_done_183 : decode cX8_done 183 = .ok (.iinc 2 1, 3) := by decide +kernel
theorem dX8_done_186 : decode cX8_done 186 = .ok (.goto (-33), 3) := by decide +kernel
theorem dX8_done_189 : decode cX8_done 189 = .ok (.iconst 0, 1) := by decide +kernel
theorem dX8_done_190 : decode cX8_done 190 = .ok (.istore_n 2, 1) := by decide +kernel
theorem dX8_done_191 : decode cX8_done 191 = .ok (.iload_n 2, 1) := by decide +kernel
theorem dX8_done_192 : decode cX8_done 192 = .ok (.bipush 10, 2) := by decide +kernel
theorem dX8_done_194 : decode cX8_done 194 = .ok (.if_icmp .ge 57, 3) := by decide +kernel
theorem dX8_done_197 : decode cX8_done 197 = .ok (.aload_n 0, 1) := by decide +kernel
theorem dX8_done_198 : decode cX8_done 198 = .ok (.getfield 68, 3) := by decide +kernel
theorem dX8_done_201 : decode cX8_done 201 = .ok (.bipush 10, 2) := by decide +kernel
theorem dX8_done_203 : decode cX8_done 203 = .ok (.iload_n 1, 1) := by decide +kernel
theorem dX8_done_204 : decode cX8_done 204 = .ok (.iconst 1, 1) := by decide +kernel
theorem dX8_done_205 : decode cX8_done 205 = .ok (.iadd, 1) := by decide +kernel
theorem dX8_done_206 : decode cX8_done 206 = .ok (.imul, 1) := by decide +kernel
theorem dX8_done_207 : decode cX8_done 207 = .ok (.iload_n 2, 1) := by decide +kernel
theorem dX8_done_208 : decode cX8_done 208 = .ok (.iadd, 1) := by decide +kernel
theorem dX8_done_209 : decode cX8_done 209 = .ok (.aload_n 0, 1) := by decide +kernel
theorem dX8_done_210 : decode cX8_done 210 = .ok (.getfield 68, 3) := by decide +kernel
theorem dX8_done_213 : decode cX8_done 213 = .ok (.bipush 10, 2) := by decide +kernel
theorem dX8_done_215 : decode cX8_done 215 = .ok (.iload_n 1, 1) := by decide +kernel
theorem dX8_done_216 : decode cX8_done 216 = .ok (.imul, 1) := by decide +kernel
theorem dX8_done_217 : decode cX8_done 217 = .ok (.iload_n 2, 1) := by decide +kernel
theorem dX8_done_218 : decode cX8_done 218 = .ok (.iadd, 1) := by decide +kernel
theorem dX8_done_219 : decode cX8_done 219 = .ok (.baload, 1) := by decide +kernel
theorem dX8_done_220 : decode cX8_done 220 = .ok (.bastore, 1) := by decide +kernel
theorem dX8_done_221 : decode cX8_done 221 = .ok (.aload_n 0, 1) := by decide +kernel
theorem dX8_done_222 : decode cX8_done 222 = .ok (.getfield 62, 3) := by decide +kernel
theorem dX8_done_225 : decode cX8_done 225 = .ok (.bipush 10, 2) := by decide +kernel
theorem dX8_done_227 : decode cX8_done 227 = .ok (.iload_n 1, 1) := by decide +kernel
theorem dX8_done_228 : decode cX8_done 228 = .ok (.iconst 1, 1) := by decide +kernel
theorem dX8_done_229 : decode cX8_done 229 = .ok (.iadd, 1) := by decide +kernel
theorem dX8_done_230 : decode cX8_done 230 = .ok (.imul, 1) := by decide +kernel
theorem dX8_done_231 : decode cX8_done 231 = .ok (.iload_n 2, 1) := by decide +kernel
theorem dX8_done_232 : decode cX8_done 232 = .ok (.iadd, 1) := by decide +kernel
theorem dX8_done_233 : decode cX8_done 233 = .ok (.aload_n 0, 1) := by decide +kernel
theorem dX8_done_234 : decode cX8_done 234 = .ok (.getfield 62, 3) := by decide +kernel
theorem dX8_done_237 : decode cX8_done 237 = .ok (.bipush 10, 2) := by decide +kernel
theorem dX8_done_239 : decode cX8_done 239 = .ok (.iload_n 1, 1) := by decide +kernel
theorem dX8_done_240 : decode cX8_done 240 = .ok (.imul, 1) := by decide +kernel
theorem dX8_done_241 : decode cX8_done 241 = .ok (.iload_n 2, 1) := by decide +kernel
theorem dX8_done_242 : decode cX8_done 242 = .ok (.iadd, 1) := by decide +kernel
theorem dX8_done_243 : decode cX8_done 243 = .ok (.iaload, 1) := by decide +kernel
theorem dX8_done_244 : decode cX8_done 244 = .ok (.iastore, 1) := by decide +kernel
theorem dX8_done_245 : decode cX8_done 245 = .ok (.iinc 2 1, 3) := by decide +kernel
theorem dX8_done_248 : decode cX8_done 248 = .ok (.goto (-57), 3) := by decide +kernel
theorem dX8_done_251 : decode cX8_done 251 = .ok (.aload_n 0, 1) := by decide +kernel
theorem dX8_done_252 : decode cX8_done 252 = .ok (.getfield 53, 3) := by decide +kernel
theorem dX8_done_255 : decode cX8_done 255 = .ok (.iload_n 1, 1) := by decide +kernel
theorem dX8_done_256 : decode cX8_done 256 = .ok (.iaload, 1) := by decide +kernel
theorem dX8_done_257 : decode cX8_done 257 = .ok (.istore_n 2, 1) := by decide +kernel
theorem dX8_done_258 : decode cX8_done 258 = .ok (.aload_n 0, 1) := by decide +kernel
theorem dX8_done_259 : decode cX8_done 259 = .ok (.getfield 72, 3) := by decide +kernel
theorem dX8_done_262 : decode cX8_done 262 = .ok (.iload_n 2, 1) := by decide +kernel
theorem dX8_done_263 : decode cX8_done 263 = .ok (.aload_n 0, 1) := by decide +kernel
theorem dX8_done_264 : decode cX8_done 264 = .ok (.iload_n 2, 1) := by decide +kernel
theorem dX8_done_265 : decode cX8_done 265 = .ok (.iload_n 1, 1) := by decide +kernel
theorem dX8_done_266 : decode cX8_done 266 = .ok (.iconst 1, 1) := by decide +kernel
theorem dX8_done_267 : decode cX8_done 267 = .ok (.iadd, 1) := by decide +kernel
theorem dX8_done_268 : decode cX8_done 268 = .ok (.invokevirtual 127, 3) := by decide +kernel
theorem dX8_done_271 : decode cX8_done 271 = .ok (.ifCond .ne 7, 3) := by decide +kernel
theorem dX8_done_274 : decode cX8_done 274 = .ok (.iconst 1, 1) := by decide +kernel
theorem dX8_done_275 : decode cX8_done 275 = .ok (.goto 4, 3) := by decide +kernel
theorem dX8_done_278 : decode cX8_done 278 = .ok (.iconst 0, 1) := by decide +kernel
theorem dX8_done_279 : decode cX8_done 279 = .ok (.bastore, 1) := by decide +kernel
theorem dX8_done_280 : decode cX8_done 280 = .ok (.aload_n 0, 1) := by decide +kernel
theorem dX8_done_281 : decode cX8_done 281 = .ok (.getfield 65, 3) := by decide +kernel
theorem dX8_done_284 : decode cX8_done 284 = .ok (.iload_n 2, 1) := by decide +kernel
theorem dX8_done_285 : decode cX8_done 285 = .ok (.iconst 0, 1) := by decide +kernel
theorem dX8_done_286 : decode cX8_done 286 = .ok (.iastore, 1) := by decide +kernel
theorem dX8_done_287 : decode cX8_done 287 = .ok (.iconst 0, 1) := by decide +kernel
theorem dX8_done_288 : decode cX8_done 288 = .ok (.istore_n 3, 1) := by decide +kernel
theorem dX8_done_289 : decode cX8_done 289 = .ok (.iload_n 3, 1) := by decide +kernel
theorem dX8_done_290 : decode cX8_done 290 = .ok (.bipush 36, 2) := by decide +kernel
theorem dX8_done_292 : decode cX8_done 292 = .ok (.if_icmp .ge 50, 3) := by decide +kernel
theorem dX8_done_295 : decode cX8_done 295 = .ok (.aload_n 0, 1) := by decide +kernel
theorem dX8_done_296 : decode cX8_done 296 = .ok (.getfield 65, 3) := by decide +kernel
theorem dX8_done_299 : decode cX8_done 299 = .ok (.iload_n 2, 1) := by decide +kernel
theorem dX8_done_300 : decode cX8_done 300 = .ok (.dup2, 1) := by decide +kernel
theorem dX8_done_301 : decode cX8_done 301 = .ok (.iaload, 1) := by decide +kernel
theorem dX8_done_302 : decode cX8_done 302 = .ok (.aload_n 0, 1) := by decide +kernel
theorem dX8_done_303 : decode cX8_done 303 = .ok (.getfield 59, 3) := by decide +kernel
theorem dX8_done_306 : decode cX8_done 306 = .ok (.bipush 36, 2) := by decide +kernel
theorem dX8_done_308 : decode cX8_done 308 = .ok (.iload_n 1, 1) := by decide +kernel
theorem dX8_done_309 : decode cX8_done 309 = .ok (.iconst 1, 1) := by decide +kernel
theorem dX8_done_310 : decode cX8_done 310 = .ok (.iadd, 1) := by decide +kernel
theorem dX8_done_311 : decode cX8_done 311 = .ok (.imul, 1) := by decide +kernel
theorem dX8_done_312 : decode cX8_done 312 = .ok (.iload_n 3, 1) := by decide +kernel
theorem dX8_done_313 : decode cX8_done 313 = .ok (.iadd, 1) := by decide +kernel
theorem dX8_done_314 : decode cX8_done 314 = .ok (.iaload, 1) := by decide +kernel
theorem dX8_done_315 : decode cX8_done 315 = .ok (.aload_n 0, 1) := by decide +kernel
theorem dX8_done_316 : decode cX8_done 316 = .ok (.getfield 59, 3) := by decide +kernel
theorem dX8_done_319 : decode cX8_done 319 = .ok (.bipush 36, 2) := by decide +kernel
theorem dX8_done_321 : decode cX8_done 321 = .ok (.iload_n 1, 1) := by decide +kernel
theorem dX8_done_322 : decode cX8_done 322 = .ok (.imul, 1) := by decide +kernel
theorem dX8_done_323 : decode cX8_done 323 = .ok (.iload_n 3, 1) := by decide +kernel
theorem dX8_done_324 : decode cX8_done 324 = .ok (.iadd, 1) := by decide +kernel
theorem dX8_done_325 : decode cX8_done 325 = .ok (.iaload, 1) := by decide +kernel
theorem dX8_done_326 : decode cX8_done 326 = .ok (.if_icmp .eq 7, 3) := by decide +kernel
theorem dX8_done_329 : decode cX8_done 329 = .ok (.iconst 1, 1) := by decide +kernel
theorem dX8_done_330 : decode cX8_done 330 = .ok (.goto 4, 3) := by decide +kernel
theorem dX8_done_333 : decode cX8_done 333 = .ok (.iconst 0, 1) := by decide +kernel
theorem dX8_done_334 : decode cX8_done 334 = .ok (.iadd, 1) := by decide +kernel
theorem dX8_done_335 : decode cX8_done 335 = .ok (.iastore, 1) := by decide +kernel
theorem dX8_done_336 : decode cX8_done 336 = .ok (.iinc 3 1, 3) := by decide +kernel
theorem dX8_done_339 : decode cX8_done 339 = .ok (.goto (-50), 3) := by decide +kernel
theorem dX8_done_342 : decode cX8_done 342 = .ok (.iinc 1 1, 3) := by decide +kernel
theorem dX8_done_345 : decode cX8_done 345 = .ok (.goto (-202), 3) := by decide +kernel
theorem dX8_done_348 : decode cX8_done 348 = .ok (.return_, 1) := by decide +kernel
theorem dX8_does_0 : decode cX8_does 0 = .ok (.aload_n 0, 1) := by decide +kernel
theorem dX8_does_1 : decode cX8_does 1 = .ok (.getfield 19, 3) := by decide +kernel
theorem dX8_does_4 : decode cX8_does 4 = .ok (.iload_n 1, 1) := by decide +kernel
theorem dX8_does_5 : decode cX8_does 5 = .ok (.iaload, 1) := by decide +kernel
theorem dX8_does_6 : decode cX8_does 6 = .ok (.istore_n 3, 1) := by decide +kernel
theorem dX8_does_7 : decode cX8_does 7 = .ok (.aload_n 0, 1) := by decide +kernel
theorem dX8_does_8 : decode cX8_does 8 = .ok (.getfield 22, 3) := by decide +kernel
theorem dX8_does_11 : decode cX8_does 11 = .ok (.iload_n 1, 1) := by decide +kernel
theorem dX8_does_12 : decode cX8_does 12 = .ok (.iaload, 1) := by decide +kernel
theorem dX8_does_13 : decode cX8_does 13 = .ok (.istore 4, 2) := by decide +kernel
theorem dX8_does_15 : decode cX8_does 15 = .ok (.aload_n 0, 1) := by decide +kernel
theorem dX8_does_16 : decode cX8_does 16 = .ok (.getfield 13, 3) := by decide +kernel
theorem dX8_does_19 : decode cX8_does 19 = .ok (.iload_n 1, 1) := by decide +kernel
theorem dX8_does_20 : decode cX8_does 20 = .ok (.iaload, 1) := by decide +kernel
theorem dX8_does_21 : decode cX8_does 21 = .ok (.tableswitch 250 0 3 #[31, 106, 158, 238], 31) := by decide +kernel
theorem dX8_does_52 : decode cX8_does 52 = .ok (.aload_n 0, 1) := by decide +kernel
theorem dX8_does_53 : decode cX8_does 53 = .ok (.getfield 68, 3) := by decide +kernel
theorem dX8_does_56 : decode cX8_does 56 = .ok (.bipush 10, 2) := by decide +kernel
theorem dX8_does_58 : decode cX8_does 58 = .ok (.iload_n 2, 1) := by decide +kernel
theorem dX8_does_59 : decode cX8_does 59 = .ok (.imul, 1) := by decide +kernel
theorem dX8_does_60 : decode cX8_does 60 = .ok (.iload_n 3, 1) := by decide +kernel
theorem dX8_does_61 : decode cX8_does 61 = .ok (.iadd, 1) := by decide +kernel
theorem dX8_does_62 : decode cX8_does 62 = .ok (.baload, 1) := by decide +kernel
theorem dX8_does_63 : decode cX8_does 63 = .ok (.ifCond .eq 5, 3) := by decide +kernel
theorem dX8_does_66 : decode cX8_does 66 = .ok (.iconst 0, 1) := by decide +kernel
theorem dX8_does_67 : decode cX8_does 67 = .ok (.ireturn, 1) := by decide +kernel
theorem dX8_does_68 : decode cX8_does 68 = .ok (.aload_n 0, 1) := by decide +kernel
theorem dX8_does_69 : decode cX8_does 69 = .ok (.getfield 68, 3) := by decide +kernel
theorem dX8_does_72 : decode cX8_does 72 = .ok (.bipush 10, 2) := by decide +kernel
theorem dX8_does_74 : decode cX8_does 74 = .ok (.iload_n 2, 1) := by decide +kernel
theorem dX8_does_75 : decode cX8_does 75 = .ok (.imul, 1) := by decide +kernel
theorem dX8_does_76 : decode cX8_does 76 = .ok (.iload_n 3, 1) := by decide +kernel
theorem dX8_does_77 : decode cX8_does 77 = .ok (.iadd, 1) := by decide +kernel
theorem dX8_does_78 : decode cX8_does 78 = .ok (.iconst 1, 1) := by decide +kernel
theorem dX8_does_79 : decode cX8_does 79 = .ok (.bastore, 1) := by decide +kernel
theorem dX8_does_80 : decode cX8_does 80 = .ok (.iconst 0, 1) := by decide +kernel
theorem dX8_does_81 : decode cX8_does 81 = .ok (.istore 5, 2) := by decide +kernel
theorem dX8_does_83 : decode cX8_does 83 = .ok (.iload 5, 2) := by decide +kernel
theorem dX8_does_85 : decode cX8_does 85 = .ok (.bipush 36, 2) := by decide +kernel
theorem dX8_does_87 : decode cX8_does 87 = .ok (.if_icmp .ge 38, 3) := by decide +kernel
theorem dX8_does_90 : decode cX8_does 90 = .ok (.aload_n 0, 1) := by decide +kernel
theorem dX8_does_91 : decode cX8_does 91 = .ok (.getfield 25, 3) := by decide +kernel
theorem dX8_does_94 : decode cX8_does 94 = .ok (.iload_n 1, 1) := by decide +kernel
theorem dX8_does_95 : decode cX8_does 95 = .ok (.laload, 1) := by decide +kernel
theorem dX8_does_96 : decode cX8_does 96 = .ok (.iload 5, 2) := by decide +kernel
theorem dX8_does_98 : decode cX8_does 98 = .ok (.lshr, 1) := by decide +kernel
theorem dX8_does_99 : decode cX8_does 99 = .ok (.lconst 1, 1) := by decide +kernel
theorem dX8_does_100 : decode cX8_does 100 = .ok (.land, 1) := by decide +kernel
theorem dX8_does_101 : decode cX8_does 101 = .ok (.lconst 1, 1) := by decide +kernel
theorem dX8_does_102 : decode cX8_does 102 = .ok (.lcmp, 1) := by decide +kernel
theorem dX8_does_103 : decode cX8_does 103 = .ok (.ifCond .ne 16, 3) := by decide +kernel
theorem dX8_does_106 : decode cX8_does 106 = .ok (.aload_n 0, 1) := by decide +kernel
theorem dX8_does_107 : decode cX8_does 107 = .ok (.getfield 59, 3) := by decide +kernel
theorem dX8_does_110 : decode cX8_does 110 = .ok (.bipush 36, 2) := by decide +kernel
theorem dX8_does_112 : decode cX8_does 112 = .ok (.iload_n 2, 1) := by decide +kernel
theorem dX8_does_113 : decode cX8_does 113 = .ok (.imul, 1) := by decide +kernel
theorem dX8_does_114 : decode cX8_does 114 = .ok (.iload 5, 2) := by decide +kernel
theorem dX8_does_116 : decode cX8_does 116 = .ok (.iadd, 1) := by decide +kernel
theorem dX8_does_117 : decode cX8_does 117 = .ok (.iload_n 3, 1) := by decide +kernel
theorem dX8_does_118 : decode cX8_does 118 = .ok (.iastore, 1) := by decide +kernel
theorem dX8_does_119 : decode cX8_does 119 = .ok (.iinc 5 1, 3) := by decide +kernel
theorem dX8_does_122 : decode cX8_does 122 = .ok (.goto (-39), 3) := by decide +kernel
theorem dX8_does_125 : decode cX8_does 125 = .ok (.iconst 1, 1) := by decide +kernel
theorem dX8_does_126 : decode cX8_does 126 = .ok (.ireturn, 1) := by decide +kernel
theorem dX8_does_127 : decode cX8_does 127 = .ok (.aload_n 0, 1) := by decide +kernel
theorem dX8_does_128 : decode cX8_does 128 = .ok (.getfield 68, 3) := by decide +kernel
theorem dX8_does_131 : decode cX8_does 131 = .ok (.bipush 10, 2) := by decide +kernel
theorem dX8_does_133 : decode cX8_does 133 = .ok (.iload_n 2, 1) := by decide +kernel
theorem dX8_does_134 : decode cX8_does 134 = .ok (.imul, 1) := by decide +kernel
theorem dX8_does_135 : decode cX8_does 135 = .ok (.iload_n 3, 1) := by decide +kernel
theorem dX8_does_136 : decode cX8_does 136 = .ok (.iadd, 1) := by decide +kernel
theorem dX8_does_137 : decode cX8_does 137 = .ok (.baload, 1) := by decide +kernel
theorem dX8_does_138 : decode cX8_does 138 = .ok (.ifCond .eq 39, 3) := by decide +kernel
theorem dX8_does_141 : decode cX8_does 141 = .ok (.aload_n 0, 1) := by decide +kernel
theorem dX8_does_142 : decode cX8_does 142 = .ok (.getfield 68, 3) := by decide +kernel
theorem dX8_does_145 : decode cX8_does 145 = .ok (.bipush 10, 2) := by decide +kernel
theorem dX8_does_147 : decode cX8_does 147 = .ok (.iload_n 2, 1) := by decide +kernel
theorem dX8_does_148 : decode cX8_does 148 = .ok (.imul, 1) := by decide +kernel
theorem dX8_does_149 : decode cX8_does 149 = .ok (.iload 4, 2) := by decide +kernel
theorem dX8_does_151 : decode cX8_does 151 = .ok (.iadd, 1) := by decide +kernel
theorem dX8_does_152 : decode cX8_does 152 = .ok (.baload, 1) := by decide +kernel
theorem dX8_does_153 : decode cX8_does 153 = .ok (.ifCond .eq 24, 3) := by decide +kernel
theorem dX8_does_156 : decode cX8_does 156 = .ok (.aload_n 0, 1) := by decide +kernel
theorem dX8_does_157 : decode cX8_does 157 = .ok (.iload_n 2, 1) := by decide +kernel
theorem dX8_does_158 : decode cX8_does 158 = .ok (.iload_n 3, 1) := by decide +kernel
theorem dX8_does_159 : decode cX8_does 159 = .ok (.iload 4, 2) := by decide +kernel
theorem dX8_does_161 : decode cX8_does 161 = .ok (.aload_n 0, 1) := by decide +kernel
theorem dX8_does_162 : decode cX8_does 162 = .ok (.getfield 25, 3) := by decide +kernel
theorem dX8_does_165 : decode cX8_does 165 = .ok (.iload_n 1, 1) := by decide +kernel
theorem dX8_does_166 : decode cX8_does 166 = .ok (.laload, 1) := by decide +kernel
theorem dX8_does_167 : decode cX8_does 167 = .ok (.invokevirtual 131, 3) := by decide +kernel
theorem dX8_does_170 : decode cX8_does 170 = .ok (.ifCond .le 7, 3) := by decide +kernel
theorem dX8_does_173 : decode cX8_does 173 = .ok (.iconst 1, 1) := by decide +kernel
theorem dX8_does_174 : decode cX8_does 174 = .ok (.goto 4, 3) := by decide +kernel
theorem dX8_does_177 : decode cX8_does 177 = .ok (.iconst 0, 1) := by decide +kernel
theorem dX8_does_178 : decode cX8_does 178 = .ok (.ireturn, 1) := by decide +kernel
theorem dX8_does_179 : decode cX8_does 179 = .ok (.aload_n 0, 1) := by decide +kernel
theorem dX8_does_180 : decode cX8_does 180 = .ok (.getfield 68, 3) := by decide +kernel
theorem dX8_does_183 : decode cX8_does 183 = .ok (.bipush 10, 2) := by decide +kernel
theorem dX8_does_185 : decode cX8_does 185 = .ok (.iload_n 2, 1) := by decide +kernel
theorem dX8_does_186 : decode cX8_does 186 = .ok (.imul, 1) := by decide +kernel
theorem dX8_does_187 : decode cX8_does 187 = .ok (.iload_n 3, 1) := by decide +kernel
theorem dX8_does_188 : decode cX8_does 188 = .ok (.iadd, 1) := by decide +kernel
theorem dX8_does_189 : decode cX8_does 189 = .ok (.baload, 1) := by decide +kernel
theorem dX8_does_190 : decode cX8_does 190 = .ok (.ifCond .eq 28, 3) := by decide +kernel
theorem dX8_does_193 : decode cX8_does 193 = .ok (.aload_n 0, 1) := by decide +kernel
theorem dX8_does_194 : decode cX8_does 194 = .ok (.getfield 68, 3) := by decide +kernel
theorem dX8_does_197 : decode cX8_does 197 = .ok (.bipush 10, 2) := by decide +kernel
theorem dX8_does_199 : decode cX8_does 199 = .ok (.iload_n 2, 1) := by decide +kernel
theorem dX8_does_200 : decode cX8_does 200 = .ok (.imul, 1) := by decide +kernel
theorem dX8_does_201 : decode cX8_does 201 = .ok (.iload 4, 2) := by decide +kernel
theorem dX8_does_203 : decode cX8_does 203 = .ok (.iadd, 1) := by decide +kernel
theorem dX8_does_204 : decode cX8_does 204 = .ok (.baload, 1) := by decide +kernel
theorem dX8_does_205 : decode cX8_does 205 = .ok (.ifCond .eq 13, 3) := by decide +kernel
theorem dX8_does_208 : decode cX8_does 208 = .ok (.aload_n 0, 1) := by decide +kernel
theorem dX8_does_209 : decode cX8_does 209 = .ok (.getfield 9, 3) := by decide +kernel
theorem dX8_does_212 : decode cX8_does 212 = .ok (.iload_n 3, 1) := by decide +kernel
theorem dX8_does_213 : decode cX8_does 213 = .ok (.iaload, 1) := by decide +kernel
theorem dX8_does_214 : decode cX8_does 214 = .ok (.iconst 2, 1) := by decide +kernel
theorem dX8_does_215 : decode cX8_does 215 = .ok (.if_icmp .ne 5, 3) := by decide +kernel
theorem dX8_does_218 : decode cX8_does 218 = .ok (.iconst 0, 1) := by decide +kernel
theorem dX8_does_219 : decode cX8_does 219 = .ok (.ireturn, 1) := by decide +kernel
theorem dX8_does_220 : decode cX8_does 220 = .ok (.aload_n 0, 1) := by decide +kernel
theorem dX8_does_221 : decode cX8_does 221 = .ok (.iload_n 2, 1) := by decide +kernel
theorem dX8_does_222 : decode cX8_does 222 = .ok (.iload_n 3, 1) := by decide +kernel
theorem dX8_does_223 : decode cX8_does 223 = .ok (.iload 4, 2) := by decide +kernel
theorem dX8_does_225 : decode cX8_does 225 = .ok (.ldc2_w 135, 3) := by decide +kernel
theorem dX8_does_228 : decode cX8_does 228 = .ok (.invokevirtual 131, 3) := by decide +kernel
theorem dX8_does_231 : decode cX8_does 231 = .ok (.istore 5, 2) := by decide +kernel
theorem dX8_does_233 : decode cX8_does 233 = .ok (.aload_n 0, 1) := by decide +kernel
theorem dX8_does_234 : decode cX8_does 234 = .ok (.getfield 68, 3) := by decide +kernel
theorem dX8_does_237 : decode cX8_does 237 = .ok (.bipush 10, 2) := by decide +kernel
theorem dX8_does_239 : decode cX8_does 239 = .ok (.iload_n 2, 1) := by decide +kernel
theorem dX8_does_240 : decode cX8_does 240 = .ok (.imul, 1) := by decide +kernel
theorem dX8_does_241 : decode cX8_does 241 = .ok (.iload_n 3, 1) := by decide +kernel
theorem dX8_does_242 : decode cX8_does 242 = .ok (.iadd, 1) := by decide +kernel
theorem dX8_does_243 : decode cX8_does 243 = .ok (.iconst 0, 1) := by decide +kernel
theorem dX8_does_244 : decode cX8_does 244 = .ok (.bastore, 1) := by decide +kernel
theorem dX8_does_245 : decode cX8_does 245 = .ok (.aload_n 0, 1) := by decide +kernel
theorem dX8_does_246 : decode cX8_does 246 = .ok (.getfield 62, 3) := by decide +kernel
theorem dX8_does_249 : decode cX8_does 249 = .ok (.bipush 10, 2) := by decide +kernel
theorem dX8_does_251 : decode cX8_does 251 = .ok (.iload_n 2, 1) := by decide +kernel
theorem dX8_does_252 : decode cX8_does 252 = .ok (.imul, 1) := by decide +kernel
theorem dX8_does_253 : decode cX8_does 253 = .ok (.iload_n 3, 1) := by decide +kernel
theorem dX8_does_254 : decode cX8_does 254 = .ok (.iadd, 1) := by decide +kernel
theorem dX8_does_255 : decode cX8_does 255 = .ok (.iconst (-1), 1) := by decide +kernel
theorem dX8_does_256 : decode cX8_does 256 = .ok (.iastore, 1) := by decide +kernel
theorem dX8_does_257 : decode cX8_does 257 = .ok (.iconst 1, 1) := by decide +kernel
theorem dX8_does_258 : decode cX8_does 258 = .ok (.ireturn, 1) := by decide +kernel
theorem dX8_does_259 : decode cX8_does 259 = .ok (.aload_n 0, 1) := by decide +kernel
theorem dX8_does_260 : decode cX8_does 260 = .ok (.aload_n 0, 1) := by decide +kernel
theorem dX8_does_261 : decode cX8_does 261 = .ok (.getfield 56, 3) := by decide +kernel
theorem dX8_does_264 : decode cX8_does 264 = .ok (.iload_n 3, 1) := by decide +kernel
theorem dX8_does_265 : decode cX8_does 265 = .ok (.iaload, 1) := by decide +kernel
theorem dX8_does_266 : decode cX8_does 266 = .ok (.iload_n 2, 1) := by decide +kernel
theorem dX8_does_267 : decode cX8_does 267 = .ok (.invokevirtual 137, 3) := by decide +kernel
theorem dX8_does_270 : decode cX8_does 270 = .ok (.ireturn, 1) := by decide +kernel
theorem dX8_does_271 : decode cX8_does 271 = .ok (.aload_n 0, 1) := by decide +kernel
theorem dX8_does_272 : decode cX8_does 272 = .ok (.getfield 68, 3) := by decide +kernel
theorem dX8_does_275 : decode cX8_does 275 = .ok (.bipush 10, 2) := by decide +kernel
theorem dX8_does_277 : decode cX8_does 277 = .ok (.iload_n 2, 1) := by decide +kernel
theorem dX8_does_278 : decode cX8_does 278 = .ok (.imul, 1) := by decide +kernel
theorem dX8_does_279 : decode cX8_does 279 = .ok (.iload_n 3, 1) := by decide +kernel
theorem dX8_does_280 : decode cX8_does 280 = .ok (.iadd, 1) := by decide +kernel
theorem dX8_does_281 : decode cX8_does 281 = .ok (.baload, 1) := by decide +kernel

theorem dX8_most_73 : decode cX8_most 73 = .ok (.aload_n 0, 1) := by decide +kernel
theorem dX8_most_74 : decode cX8_most 74 = .ok (.getfield 55, 3) := by decide +kernel
theorem dX8_most_77 : decode cX8_most 77 = .ok (.iload 5, 2) := by decide +kernel
theorem dX8_most_79 : decode cX8_most 79 = .ok (.iaload, 1) := by decide +kernel
theorem dX8_most_80 : decode cX8_most 80 = .ok (.ifCond .le 22, 3) := by decide +kernel
theorem dX8_most_83 : decode cX8_most 83 = .ok (.aload_n 0, 1) := by decide +kernel
theorem dX8_most_84 : decode cX8_most 84 = .ok (.iload 5, 2) := by decide +kernel
theorem dX8_most_86 : decode cX8_most 86 = .ok (.invokevirtual 266, 3) := by decide +kernel
theorem dX8_most_89 : decode cX8_most 89 = .ok (.ifCond .eq 13, 3) := by decide +kernel
theorem dX8_most_92 : decode cX8_most 92 = .ok (.aload_n 0, 1) := by decide +kernel
theorem dX8_most_93 : decode cX8_most 93 = .ok (.getfield 55, 3) := by decide +kernel
theorem dX8_most_96 : decode cX8_most 96 = .ok (.iload 5, 2) := by decide +kernel
theorem dX8_most_98 : decode cX8_most 98 = .ok (.iaload, 1) := by decide +kernel
theorem dX8_most_99 : decode cX8_most 99 = .ok (.goto 4, 3) := by decide +kernel
theorem dX8_most_102 : decode cX8_most 102 = .ok (.iconst 0, 1) := by decide +kernel
theorem dX8_most_103 : decode cX8_most 103 = .ok (.iastore, 1) := by decide +kernel
theorem dX8_most_104 : decode cX8_most 104 = .ok (.aload_n 0, 1) := by decide +kernel
theorem dX8_most_105 : decode cX8_most 105 = .ok (.getfield 58, 3) := by decide +kernel
theorem dX8_most_108 : decode cX8_most 108 = .ok (.iload 5, 2) := by decide +kernel
theorem dX8_most_110 : decode cX8_most 110 = .ok (.iconst 0, 1) := by decide +kernel
theorem dX8_most_111 : decode cX8_most 111 = .ok (.iastore, 1) := by decide +kernel
theorem dX8_most_112 : decode cX8_most 112 = .ok (.iinc 5 1, 3) := by decide +kernel
theorem dX8_most_115 : decode cX8_most 115 = .ok (.goto (-55), 3) := by decide +kernel
theorem dX8_most_118 : decode cX8_most 118 = .ok (.iconst 0, 1) := by decide +kernel
theorem dX8_most_119 : decode cX8_most 119 = .ok (.istore 5, 2) := by decide +kernel
theorem dX8_most_121 : decode cX8_most 121 = .ok (.iconst 1, 1) := by decide +kernel
theorem dX8_most_122 : decode cX8_most 122 = .ok (.istore 6, 2) := by decide +kernel
theorem dX8_most_124 : decode cX8_most 124 = .ok (.iload 6, 2) := by decide +kernel
theorem dX8_most_126 : decode cX8_most 126 = .ok (.ifCond .eq 145, 3) := by decide +kernel
theorem dX8_most_129 : decode cX8_most 129 = .ok (.iconst 0, 1) := by decide +kernel
theorem dX8_most_130 : decode cX8_most 130 = .ok (.istore 7, 2) := by decide +kernel
theorem dX8_most_132 : decode cX8_most 132 = .ok (.iconst 0, 1) := by decide +kernel
theorem dX8_most_133 : decode cX8_most 133 = .ok (.istore 8, 2) := by decide +kernel
theorem dX8_most_135 : decode cX8_most 135 = .ok (.iconst 0, 1) := by decide +kernel
theorem dX8_most_136 : decode cX8_most 136 = .ok (.istore 9, 2) := by decide +kernel
theorem dX8_most_138 : decode cX8_most 138 = .ok (.iload 9, 2) := by decide +kernel
theorem dX8_most_140 : decode cX8_most 140 = .ok (.bipush 6, 2) := by decide +kernel
theorem dX8_most_142 : decode cX8_most 142 = .ok (.if_icmp .ge 95, 3) := by decide +kernel
theorem dX8_most_145 : decode cX8_most 145 = .ok (.iload 7, 2) := by decide +kernel
theorem dX8_most_147 : decode cX8_most 147 = .ok (.aload_n 0, 1) := by decide +kernel
theorem dX8_most_148 : decode cX8_most 148 = .ok (.getfield 58, 3) := by decide +kernel
theorem dX8_most_151 : decode cX8_most 151 = .ok (.iload 9, 2) := by decide +kernel
theorem dX8_most_153 : decode cX8_most 153 = .ok (.iaload, 1) := by decide +kernel
theorem dX8_most_154 : decode cX8_most 154 = .ok (.ifCond .le 23, 3) := by decide +kernel
theorem dX8_most_157 : decode cX8_most 157 = .ok (.aload_n 0, 1) := by decide +kernel
theorem dX8_most_158 : decode cX8_most 158 = .ok (.getfield 58, 3) := by decide +kernel
theorem dX8_most_161 : decode cX8_most 161 = .ok (.iload 9, 2) := by decide +kernel
theorem dX8_most_163 : decode cX8_most 163 = .ok (.iaload, 1) := by decide +kernel
theorem dX8_most_164 : decode cX8_most 164 = .ok (.aload_n 0, 1) := by decide +kernel
theorem dX8_most_165 : decode cX8_most 165 = .ok (.iload 9, 2) := by decide +kernel
theorem dX8_most_167 : decode cX8_most 167 = .ok (.iload 4, 2) := by decide +kernel
theorem dX8_most_169 : decode cX8_most 169 = .ok (.iconst 0, 1) := by decide +kernel
theorem dX8_most_170 : decode cX8_most 170 = .ok (.invokevirtual 159, 3) := by decide +kernel
theorem dX8_most_173 : decode cX8_most 173 = .ok (.imul, 1) := by decide +kernel
theorem dX8_most_174 : decode cX8_most 174 = .ok (.goto 4, 3) := by decide +kernel
theorem dX8_most_177 : decode cX8_most 177 = .ok (.iconst 0, 1) := by decide +kernel
theorem dX8_most_178 : decode cX8_most 178 = .ok (.iadd, 1) := by decide +kernel
theorem dX8_most_179 : decode cX8_most 179 = .ok (.istore 7, 2) := by decide +kernel
theorem dX8_most_181 : decode cX8_most 181 = .ok (.iload 8, 2) := by decide +kernel
theorem dX8_most_183 : decode cX8_most 183 = .ok (.aload_n 0, 1) := by decide +kernel
theorem dX8_most_184 : decode cX8_most 184 = .ok (.getfield 58, 3) := by decide +kernel
theorem dX8_most_187 : decode cX8_most 187 = .ok (.iload 9, 2) := by decide +kernel
theorem dX8_most_189 : decode cX8_most 189 = .ok (.iaload, 1) := by decide +kernel
theorem dX8_most_190 : decode cX8_most 190 = .ok (.ifCond .le 37, 3) := by decide +kernel
theorem dX8_most_193 : decode cX8_most 193 = .ok (.aload_n 0, 1) := by decide +kernel
theorem dX8_most_194 : decode cX8_most 194 = .ok (.getfield 58, 3) := by decide +kernel
theorem dX8_most_197 : decode cX8_most 197 = .ok (.iload 9, 2) := by decide +kernel
theorem dX8_most_199 : decode cX8_most 199 = .ok (.iaload, 1) := by decide +kernel
theorem dX8_most_200 : decode cX8_most 200 = .ok (.iload_n 3, 1) := by decide +kernel
theorem dX8_most_201 : decode cX8_most 201 = .ok (.ifCond .ne 7, 3) := by decide +kernel
theorem dX8_most_204 : decode cX8_most 204 = .ok (.iconst 1, 1) := by decide +kernel
theorem dX8_most_205 : decode cX8_most 205 = .ok (.goto 18, 3) := by decide +kernel
theorem dX8_most_208 : decode cX8_most 208 = .ok (.aload_n 0, 1) := by decide +kernel
theorem dX8_most_209 : decode cX8_most 209 = .ok (.getfield 19, 3) := by decide +kernel
theorem dX8_most_212 : decode cX8_most 212 = .ok (.iload 9, 2) := by decide +kernel
theorem dX8_most_214 : decode cX8_most 214 = .ok (.iaload, 1) := by decide +kernel
theorem dX8_most_215 : decode cX8_most 215 = .ok (.aload_n 0, 1) := by decide +kernel
theorem dX8_most_216 : decode cX8_most 216 = .ok (.getfield 16, 3) := by decide +kernel
theorem dX8_most_219 : decode cX8_most 219 = .ok (.iload 9, 2) := by decide +kernel
theorem dX8_most_221 : decode cX8_most 221 = .ok (.iaload, 1) := by decide +kernel
theorem dX8_most_222 : decode cX8_most 222 = .ok (.iadd, 1) := by decide +kernel
theorem dX8_most_223 : decode cX8_most 223 = .ok (.imul, 1) := by decide +kernel
theorem dX8_most_224 : decode cX8_most 224 = .ok (.goto 4, 3) := by decide +kernel
theorem dX8_most_227 : decode cX8_most 227 = .ok (.iconst 0, 1) := by decide +kernel
theorem dX8_most_228 : decode cX8_most 228 = .ok (.iadd, 1) := by decide +kernel
theorem dX8_most_229 : decode cX8_most 229 = .ok (.istore 8, 2) := by decide +kernel
theorem dX8_most_231 : decode cX8_most 231 = .ok (.iinc 9 1, 3) := by decide +kernel
theorem dX8_most_234 : decode cX8_most 234 = .ok (.goto (-96), 3) := by decide +kernel
theorem dX8_most_237 : decode cX8_most 237 = .ok (.iload 7, 2) := by decide +kernel
theorem dX8_most_239 : decode cX8_most 239 = .ok (.aload_n 0, 1) := by decide +kernel
theorem dX8_most_240 : decode cX8_most 240 = .ok (.getfield 77, 3) := by decide +kernel
theorem dX8_most_243 : decode cX8_most 243 = .ok (.if_icmp .gt 15, 3) := by decide +kernel
theorem dX8_most_246 : decode cX8_most 246 = .ok (.iload 8, 2) := by decide +kernel
theorem dX8_most_248 : decode cX8_most 248 = .ok (.iload 5, 2) := by decide +kernel
theorem dX8_most_250 : decode cX8_most 250 = .ok (.if_icmp .le 8, 3) := by decide +kernel
theorem dX8_most_253 : decode cX8_most 253 = .ok (.iload 8, 2) := by decide +kernel
theorem dX8_most_255 : decode cX8_most 255 = .ok (.goto 5, 3) := by decide +kernel
theorem dX8_most_258 : decode cX8_most 258 = .ok (.iload 5, 2) := by decide +kernel
theorem dX8_most_260 : decode cX8_most 260 = .ok (.istore 5, 2) := by decide +kernel
theorem dX8_most_262 : decode cX8_most 262 = .ok (.aload_n 0, 1) := by decide +kernel
theorem dX8_most_263 : decode cX8_most 263 = .ok (.invokevirtual 269, 3) := by decide +kernel
theorem dX8_most_266 : decode cX8_most 266 = .ok (.istore 6, 2) := by decide +kernel
theorem dX8_most_268 : decode cX8_most 268 = .ok (.goto (-144), 3) := by decide +kernel
theorem dX8_most_271 : decode cX8_most 271 = .ok (.iload 5, 2) := by decide +kernel
theorem dX8_most_273 : decode cX8_most 273 = .ok (.ireturn, 1) := by decide +kernel
theorem dX8_layPlaces_0 : decode cX8_layPlaces 0 = .ok (.iconst 0, 1) := by decide +kernel
theorem dX8_layPlaces_1 : decode cX8_layPlaces 1 = .ok (.istore_n 2, 1) := by decide +kernel
theorem dX8_layPlaces_2 : decode cX8_layPlaces 2 = .ok (.iconst 0, 1) := by decide +kernel
theorem dX8_layPlaces_3 : decode cX8_layPlaces 3 = .ok (.istore_n 3, 1) := by decide +kernel
theorem dX8_layPlaces_4 : decode cX8_layPlaces 4 = .ok (.iload_n 3, 1) := by decide +kernel
theorem dX8_layPlaces_5 : decode cX8_layPlaces 5 = .ok (.iconst 4, 1) := by decide +kernel
theorem dX8_layPlaces_6 : decode cX8_layPlaces 6 = .ok (.if_icmp .gt 61, 3) := by decide +kernel
theorem dX8_layPlaces_9 : decode cX8_layPlaces 9 = .ok (.aload_n 0, 1) := by decide +kernel
theorem dX8_layPlaces_10 : decode cX8_layPlaces 10 = .ok (.getfield 101, 3) := by decide +kernel
theorem dX8_layPlaces_13 : decode cX8_layPlaces 13 = .ok (.istore 4, 2) := by decide +kernel
theorem dX8_layPlaces_15 : decode cX8_layPlaces 15 = .ok (.iload 4, 2) := by decide +kernel
theorem dX8_layPlaces_17 : decode cX8_layPlaces 17 = .ok (.iload_n 1, 1) := by decide +kernel
theorem dX8_layPlaces_18 : decode cX8_layPlaces 18 = .ok (.if_icmp .gt 43, 3) := by decide +kernel
theorem dX8_layPlaces_21 : decode cX8_layPlaces 21 = .ok (.aload_n 0, 1) := by decide +kernel
theorem dX8_layPlaces_22 : decode cX8_layPlaces 22 = .ok (.aload_n 0, 1) := by decide +kernel
theorem dX8_layPlaces_23 : decode cX8_layPlaces 23 = .ok (.getfield 7, 3) := by decide +kernel
theorem dX8_layPlaces_26 : decode cX8_layPlaces 26 = .ok (.iload 4, 2) := by decide +kernel
theorem dX8_layPlaces_28 : decode cX8_layPlaces 28 = .ok (.iaload, 1) := by decide +kernel
theorem dX8_layPlaces_29 : decode cX8_layPlaces 29 = .ok (.invokevirtual 150, 3) := by decide +kernel
theorem dX8_layPlaces_32 : decode cX8_layPlaces 32 = .ok (.iload_n 3, 1) := by decide +kernel
theorem dX8_layPlaces_33 : decode cX8_layPlaces 33 = .ok (.if_icmp .ne 22, 3) := by decide +kernel
theorem dX8_layPlaces_36 : decode cX8_layPlaces 36 = .ok (.aload_n 0, 1) := by decide +kernel
theorem dX8_layPlaces_37 : decode cX8_layPlaces 37 = .ok (.getfield 61, 3) := by decide +kernel
theorem dX8_layPlaces_40 : decode cX8_layPlaces 40 = .ok (.iload_n 2, 1) := by decide +kernel
theorem dX8_layPlaces_41 : decode cX8_layPlaces 41 = .ok (.iload_n 3, 1) := by decide +kernel
theorem dX8_layPlaces_42 : decode cX8_layPlaces 42 = .ok (.iastore, 1) := by decide +kernel
theorem dX8_layPlaces_43 : decode cX8_layPlaces 43 = .ok (.aload_n 0, 1) := by decide +kernel
theorem dX8_layPlaces_44 : decode cX8_layPlaces 44 = .ok (.getfield 61, 3) := by decide +kernel
theorem dX8_layPlaces_47 : decode cX8_layPlaces 47 = .ok (.iload_n 2, 1) := by decide +kernel
theorem dX8_layPlaces_48 : decode cX8_layPlaces 48 = .ok (.iconst 1, 1) := by decide +kernel
theorem dX8_layPlaces_49 : decode cX8_layPlaces 49 = .ok (.iadd, 1) := by decide +kernel
theorem dX8_layPlaces_50 : decode cX8_layPlaces 50 = .ok (.iload_n 3, 1) := by decide +kernel
theorem dX8_layPlaces_51 : decode cX8_layPlaces 51 = .ok (.iastore, 1) := by decide +kernel
theorem dX8_layPlaces_52 : decode cX8_layPlaces 52 = .ok (.iinc 2 2, 3) := by decide +kernel
theorem dX8_layPlaces_55 : decode cX8_layPlaces 55 = .ok (.iinc 4 1, 3) := by decide +kernel
theorem dX8_layPlaces_58 : decode cX8_layPlaces 58 = .ok (.goto (-43), 3) := by decide +kernel
theorem dX8_layPlaces_61 : decode cX8_layPlaces 61 = .ok (.iinc 3 1, 3) := by decide +kernel
theorem dX8_layPlaces_64 : decode cX8_layPlaces 64 = .ok (.goto (-60), 3) := by decide +kernel
theorem dX8_layPlaces_67 : decode cX8_layPlaces 67 = .ok (.iload_n 2, 1) := by decide +kernel
theorem dX8_layPlaces_68 : decode cX8_layPlaces 68 = .ok (.ireturn, 1) := by decide +kernel
theorem dX8_least_0 : decode cX8_least 0 = .ok (.iload_n 1, 1) := by decide +kernel
theorem dX8_least_1 : decode cX8_least 1 = .ok (.invokestatic 254, 3) := by decide +kernel
theorem dX8_least_4 : decode cX8_least 4 = .ok (.ifCond .ne 6, 3) := by decide +kernel
theorem dX8_least_7 : decode cX8_least 7 = .ok (.bipush (-2), 2) := by decide +kernel
theorem dX8_least_9 : decode cX8_least 9 = .ok (.ireturn, 1) := by decide +kernel
theorem dX8_least_10 : decode cX8_least 10 = .ok (.aload_n 0, 1) := by decide +kernel
theorem dX8_least_11 : decode cX8_least 11 = .ok (.iload_n 2, 1) := by decide +kernel
theorem dX8_least_12 : decode cX8_least 12 = .ok (.invokevirtual 260, 3) := by decide +kernel
theorem dX8_least_15 : decode cX8_least 15 = .ok (.ifCond .eq 11, 3) := by decide +kernel
theorem dX8_least_18 : decode cX8_least 18 = .ok (.aload_n 0, 1) := by decide +kernel
theorem dX8_least_19 : decode cX8_least 19 = .ok (.iload_n 1, 1) := by decide +kernel
theorem dX8_least_20 : decode cX8_least 20 = .ok (.invokevirtual 257, 3) := by decide +kernel
theorem dX8_least_23 : decode cX8_least 23 = .ok (.ifCond .ne 5, 3) := by decide +kernel
theorem dX8_least_26 : decode cX8_least 26 = .ok (.iconst (-1), 1) := by decide +kernel
theorem dX8_least_27 : decode cX8_least 27 = .ok (.ireturn, 1) := by decide +kernel
theorem dX8_least_28 : decode cX8_least 28 = .ok (.aload_n 0, 1) := by decide +kernel
theorem dX8_least_29 : decode cX8_least 29 = .ok (.getfield 249, 3) := by decide +kernel
theorem dX8_least_32 : decode cX8_least 32 = .ok (.bipush 12, 2) := by decide +kernel
theorem dX8_least_34 : decode cX8_least 34 = .ok (.if_icmp .le 6, 3) := by decide +kernel
theorem dX8_least_37 : decode cX8_least 37 = .ok (.bipush (-4), 2) := by decide +kernel
theorem dX8_least_39 : decode cX8_least 39 = .ok (.ireturn, 1) := by decide +kernel
theorem dX8_least_40 : decode cX8_least 40 = .ok (.aload_n 0, 1) := by decide +kernel
theorem dX8_least_41 : decode cX8_least 41 = .ok (.iload_n 2, 1) := by decide +kernel
theorem dX8_least_42 : decode cX8_least 42 = .ok (.invokevirtual 273, 3) := by decide +kernel
theorem dX8_least_45 : decode cX8_least 45 = .ok (.aload_n 0, 1) := by decide +kernel
theorem dX8_least_46 : decode cX8_least 46 = .ok (.getfield 249, 3) := by decide +kernel
theorem dX8_least_49 : decode cX8_least 49 = .ok (.if_icmp .ge 6, 3) := by decide +kernel
theorem dX8_least_52 : decode cX8_least 52 = .ok (.bipush (-6), 2) := by decide +kernel
theorem dX8_least_54 : decode cX8_least 54 = .ok (.ireturn, 1) := by decide +kernel
theorem dX8_least_55 : decode cX8_least 55 = .ok (.iconst 0, 1) := by decide +kernel
theorem dX8_least_56 : decode cX8_least 56 = .ok (.istore_n 3, 1) := by decide +kernel
theorem dX8_least_57 : decode cX8_least 57 = .ok (.iconst 0, 1) := by decide +kernel
theorem dX8_least_58 : decode cX8_least 58 = .ok (.istore 4, 2) := by decide +kernel
theorem dX8_least_60 : decode cX8_least 60 = .ok (.iconst 4, 1) := by decide +kernel
theorem dX8_least_61 : decode cX8_least 61 = .ok (.istore 5, 2) := by decide +kernel
theorem dX8_least_63 : decode cX8_least 63 = .ok (.iload 5, 2) := by decide +kernel
theorem dX8_least_65 : decode cX8_least 65 = .ok (.ifCond .le 87, 3) := by decide +kernel
theorem dX8_least_68 : decode cX8_least 68 = .ok (.iconst 0, 1) := by decide +kernel
theorem dX8_least_69 : decode cX8_least 69 = .ok (.istore 6, 2) := by decide +kernel
theorem dX8_least_71 : decode cX8_least 71 = .ok (.iload 6, 2) := by decide +kernel
theorem dX8_least_73 : decode cX8_least 73 = .ok (.bipush 6, 2) := by decide +kernel
theorem dX8_least_75 : decode cX8_least 75 = .ok (.if_icmp .ge 71, 3) := by decide +kernel
theorem dX8_least_78 : decode cX8_least 78 = .ok (.iconst 0, 1) := by decide +kernel
theorem dX8_least_79 : decode cX8_least 79 = .ok (.istore 7, 2) := by decide +kernel
theorem dX8_least_81 : decode cX8_least 81 = .ok (.iload 7, 2) := by decide +kernel
theorem dX8_least_83 : decode cX8_least 83 = .ok (.aload_n 0, 1) := by decide +kernel
theorem dX8_least_84 : decode cX8_least 84 = .ok (.getfield 55, 3) := by decide +kernel
theorem dX8_least_87 : decode cX8_least 87 = .ok (.iload 6, 2) := by decide +kernel
theorem dX8_least_89 : decode cX8_least 89 = .ok (.iaload, 1) := by decide +kernel
theorem dX8_least_90 : decode cX8_least 90 = .ok (.if_icmp .ge 50, 3) := by decide +kernel
theorem dX8_least_93 : decode cX8_least 93 = .ok (.aload_n 0, 1) := by decide +kernel
theorem dX8_least_94 : decode cX8_least 94 = .ok (.getfield 16, 3) := by decide +kernel
theorem dX8_least_97 : decode cX8_least 97 = .ok (.iload 6, 2) := by decide +kernel
theorem dX8_least_99 : decode cX8_least 99 = .ok (.iaload, 1) := by decide +kernel
theorem dX8_least_100 : decode cX8_least 100 = .ok (.iload 5, 2) := by decide +kernel
theorem dX8_least_102 : decode cX8_least 102 = .ok (.if_icmp .ne 38, 3) := by decide +kernel
theorem dX8_least_105 : decode cX8_least 105 = .ok (.iload_n 3, 1) := by decide +kernel
theorem dX8_least_106 : decode cX8_least 106 = .ok (.bipush 11, 2) := by decide +kernel
theorem dX8_least_108 : decode cX8_least 108 = .ok (.iload 5, 2) := by decide +kernel
theorem dX8_least_110 : decode cX8_least 110 = .ok (.imul, 1) := by decide +kernel
theorem dX8_least_111 : decode cX8_least 111 = .ok (.iconst 4, 1) := by decide +kernel
theorem dX8_least_112 : decode cX8_least 112 = .ok (.aload_n 0, 1) := by decide +kernel
theorem dX8_least_113 : decode cX8_least 113 = .ok (.getfield 61, 3) := by decide +kernel
theorem dX8_least_116 : decode cX8_least 116 = .ok (.iload 4, 2) := by decide +kernel
theorem dX8_least_118 : decode cX8_least 118 = .ok (.iaload, 1) := by decide +kernel
theorem dX8_least_119 : decode cX8_least 119 = .ok (.iadd, 1) := by decide +kernel
theorem dX8_least_120 : decode cX8_least 120 = .ok (.imul, 1) := by decide +kernel
theorem dX8_least_121 : decode cX8_least 121 = .ok (.aload_n 0, 1) := by decide +kernel
theorem dX8_least_122 : decode cX8_least 122 = .ok (.getfield 19, 3) := by decide +kernel
theorem dX8_least_125 : decode cX8_least 125 = .ok (.iload 6, 2) := by decide +kernel
theorem dX8_least_127 : decode cX8_least 127 = .ok (.iaload, 1) := by decide +kernel
theorem dX8_least_128 : decode cX8_least 128 = .ok (.iadd, 1) := by decide +kernel
theorem dX8_least_129 : decode cX8_least 129 = .ok (.iadd, 1) := by decide +kernel
theorem dX8_least_130 : decode cX8_least 130 = .ok (.istore_n 3, 1) := by decide +kernel
theorem dX8_least_131 : decode cX8_least 131 = .ok (.iinc 4 1, 3) := by decide +kernel
theorem dX8_least_134 : decode cX8_least 134 = .ok (.iinc 7 1, 3) := by decide +kernel
theorem dX8_least_137 : decode cX8_least 137 = .ok (.goto (-56), 3) := by decide +kernel
theorem dX8_least_140 : decode cX8_least 140 = .ok (.iinc 6 1, 3) := by decide +kernel
theorem dX8_least_143 : decode cX8_least 143 = .ok (.goto (-72), 3) := by decide +kernel
theorem dX8_least_146 : decode cX8_least 146 = .ok (.iinc 5 (-1), 3) := by decide +kernel
theorem dX8_least_149 : decode cX8_least 149 = .ok (.goto (-86), 3) := by decide +kernel
theorem dX8_least_152 : decode cX8_least 152 = .ok (.iconst 1, 1) := by decide +kernel
theorem dX8_least_153 : decode cX8_least 153 = .ok (.istore 5, 2) := by decide +kernel
theorem dX8_least_155 : decode cX8_least 155 = .ok (.iconst 0, 1) := by decide +kernel
theorem dX8_least_156 : decode cX8_least 156 = .ok (.istore 6, 2) := by decide +kernel
theorem dX8_least_158 : decode cX8_least 158 = .ok (.iload 6, 2) := by decide +kernel
theorem dX8_least_160 : decode cX8_least 160 = .ok (.bipush 6, 2) := by decide +kernel
theorem dX8_least_162 : decode cX8_least 162 = .ok (.if_icmp .ge 40, 3) := by decide +kernel
theorem dX8_least_165 : decode cX8_least 165 = .ok (.iload 5, 2) := by decide +kernel
theorem dX8_least_167 : decode cX8_least 167 = .ok (.ifCond .eq 26, 3) := by decide +kernel
theorem dX8_least_170 : decode cX8_least 170 = .ok (.aload_n 0, 1) := by decide +kernel
theorem dX8_least_171 : decode cX8_least 171 = .ok (.getfield 55, 3) := by decide +kernel
theorem dX8_least_174 : decode cX8_least 174 = .ok (.iload 6, 2) := by decide +kernel
theorem dX8_least_176 : decode cX8_least 176 = .ok (.iaload, 1) := by decide +kernel
theorem dX8_least_177 : decode cX8_least 177 = .ok (.ifCond .eq 12, 3) := by decide +kernel
theorem dX8_least_180 : decode cX8_least 180 = .ok (.aload_n 0, 1) := by decide +kernel
theorem dX8_least_181 : decode cX8_least 181 = .ok (.iload 6, 2) := by decide +kernel
theorem dX8_least_183 : decode cX8_least 183 = .ok (.invokevirtual 266, 3) := by decide +kernel
theorem dX8_least_186 : decode cX8_least 186 = .ok (.ifCond .eq 7, 3) := by decide +kernel
theorem dX8_least_189 : decode cX8_least 189 = .ok (.iconst 1, 1) := by decide +kernel
theorem dX8_least_190 : decode cX8_least 190 = .ok (.goto 4, 3) := by decide +kernel
theorem dX8_least_193 : decode cX8_least 193 = .ok (.iconst 0, 1) := by decide +kernel
theorem dX8_least_194 : decode cX8_least 194 = .ok (.istore 5, 2) := by decide +kernel
theorem dX8_least_196 : decode cX8_least 196 = .ok (.iinc 6 1, 3) := by decide +kernel
theorem dX8_least_199 : decode cX8_least 199 = .ok (.goto (-41), 3) := by decide +kernel
theorem dX8_least_202 : decode cX8_least 202 = .ok (.iload 5, 2) := by decide +kernel
theorem dX8_least_204 : decode cX8_least 204 = .ok (.ifCond .eq 7, 3) := by decide +kernel
theorem dX8_least_207 : decode cX8_least 207 = .ok (.iload_n 3, 1) := by decide +kernel
theorem dX8_least_208 : decode cX8_least 208 = .ok (.goto 5, 3) := by decide +kernel
theorem dX8_least_211 : decode cX8_least 211 = .ok (.bipush (-6), 2) := by decide +kernel
theorem dX8_least_213 : decode cX8_least 213 = .ok (.ireturn, 1) := by decide +kernel
theorem dX8_ends_0 : decode cX8_ends 0 = .ok (.aload_n 0, 1) := by decide +kernel
theorem dX8_ends_1 : decode cX8_ends 1 = .ok (.iload_n 1, 1) := by decide +kernel
theorem dX8_ends_2 : decode cX8_ends 2 = .ok (.invokevirtual 163, 3) := by decide +kernel
theorem dX8_ends_5 : decode cX8_ends 5 = .ok (.ifCond .ne 5, 3) := by decide +kernel
theorem dX8_ends_8 : decode cX8_ends 8 = .ok (.iconst (-1), 1) := by decide +kernel
theorem dX8_ends_9 : decode cX8_ends 9 = .ok (.ireturn, 1) := by decide +kernel
theorem dX8_ends_10 : decode cX8_ends 10 = .ok (.aload_n 0, 1) := by decide +kernel
theorem dX8_ends_11 : decode cX8_ends 11 = .ok (.iload_n 1, 1) := by decide +kernel
theorem dX8_ends_12 : decode cX8_ends 12 = .ok (.invokevirtual 266, 3) := by decide +kernel
theorem dX8_ends_15 : decode cX8_ends 15 = .ok (.ifCond .ne 6, 3) := by decide +kernel
theorem dX8_ends_18 : decode cX8_ends 18 = .ok (.bipush (-3), 2) := by decide +kernel
theorem dX8_ends_20 : decode cX8_ends 20 = .ok (.ireturn, 1) := by decide +kernel
theorem dX8_ends_21 : decode cX8_ends 21 = .ok (.aload_n 0, 1) := by decide +kernel
theorem dX8_ends_22 : decode cX8_ends 22 = .ok (.getfield 77, 3) := by decide +kernel
theorem dX8_ends_25 : decode cX8_ends 25 = .ok (.istore_n 2, 1) := by decide +kernel
theorem dX8_ends_26 : decode cX8_ends 26 = .ok (.aload_n 0, 1) := by decide +kernel
theorem dX8_ends_27 : decode cX8_ends 27 = .ok (.getfield 101, 3) := by decide +kernel
theorem dX8_ends_30 : decode cX8_ends 30 = .ok (.istore_n 3, 1) := by decide +kernel
theorem dX8_ends_31 : decode cX8_ends 31 = .ok (.iload_n 3, 1) := by decide +kernel
theorem dX8_ends_32 : decode cX8_ends 32 = .ok (.bipush 14, 2) := by decide +kernel
theorem dX8_ends_34 : decode cX8_ends 34 = .ok (.if_icmp .ge 30, 3) := by decide +kernel
theorem dX8_ends_37 : decode cX8_ends 37 = .ok (.iload_n 2, 1) := by decide +kernel
theorem dX8_ends_38 : decode cX8_ends 38 = .ok (.aload_n 0, 1) := by decide +kernel
theorem dX8_ends_39 : decode cX8_ends 39 = .ok (.iload_n 1, 1) := by decide +kernel
theorem dX8_ends_40 : decode cX8_ends 40 = .ok (.aload_n 0, 1) := by decide +kernel
theorem dX8_ends_41 : decode cX8_ends 41 = .ok (.getfield 7, 3) := by decide +kernel
theorem dX8_ends_44 : decode cX8_ends 44 = .ok (.iload_n 3, 1) := by decide +kernel
theorem dX8_ends_45 : decode cX8_ends 45 = .ok (.iaload, 1) := by decide +kernel
theorem dX8_ends_46 : decode cX8_ends 46 = .ok (.iconst 0, 1) := by decide +kernel
theorem dX8_ends_47 : decode cX8_ends 47 = .ok (.invokevirtual 159, 3) := by decide +kernel
theorem dX8_ends_50 : decode cX8_ends 50 = .ok (.isub, 1) := by decide +kernel
theorem dX8_ends_51 : decode cX8_ends 51 = .ok (.istore_n 2, 1) := by decide +kernel
theorem dX8_ends_52 : decode cX8_ends 52 = .ok (.iload_n 2, 1) := by decide +kernel
theorem dX8_ends_53 : decode cX8_ends 53 = .ok (.ifCond .ge 5, 3) := by decide +kernel
theorem dX8_ends_56 : decode cX8_ends 56 = .ok (.iload_n 3, 1) := by decide +kernel
theorem dX8_ends_57 : decode cX8_ends 57 = .ok (.ireturn, 1) := by decide +kernel
theorem dX8_ends_58 : decode cX8_ends 58 = .ok (.iinc 3 1, 3) := by decide +kernel
theorem dX8_ends_61 : decode cX8_ends 61 = .ok (.goto (-30), 3) := by decide +kernel
theorem dX8_ends_64 : decode cX8_ends 64 = .ok (.bipush (-6), 2) := by decide +kernel
theorem dX8_ends_66 : decode cX8_ends 66 = .ok (.ireturn, 1) := by decide +kernel
theorem dX8_mark_0 : decode cX8_mark 0 = .ok (.aload_n 0, 1) := by decide +kernel
theorem dX8_mark_1 : decode cX8_mark 1 = .ok (.getfield 77, 3) := by decide +kernel
theorem dX8_mark_4 : decode cX8_mark 4 = .ok (.sipush 200, 3) := by decide +kernel
theorem dX8_mark_7 : decode cX8_mark 7 = .ok (.idiv, 1) := by decide +kernel
theorem dX8_mark_8 : decode cX8_mark 8 = .ok (.ireturn, 1) := by decide +kernel
theorem dX8_keep_0 : decode cX8_keep 0 = .ok (.aload_n 0, 1) := by decide +kernel
theorem dX8_keep_1 : decode cX8_keep 1 = .ok (.iload_n 1, 1) := by decide +kernel
theorem dX8_keep_2 : decode cX8_keep 2 = .ok (.invokevirtual 163, 3) := by decide +kernel
theorem dX8_keep_5 : decode cX8_keep 5 = .ok (.ifCond .eq 10, 3) := by decide +kernel
theorem dX8_keep_8 : decode cX8_keep 8 = .ok (.iload_n 2, 1) := by decide +kernel
theorem dX8_keep_9 : decode cX8_keep 9 = .ok (.invokestatic 119, 3) := by decide +kernel
theorem dX8_keep_12 : decode cX8_keep 12 = .ok (.ifCond .ne 5, 3) := by decide +kernel
theorem dX8_keep_15 : decode cX8_keep 15 = .ok (.iconst (-1), 1) := by decide +kernel
theorem dX8_keep_16 : decode cX8_keep 16 = .ok (.ireturn, 1) := by decide +kernel
theorem dX8_keep_17 : decode cX8_keep 17 = .ok (.iconst 0, 1) := by decide +kernel
theorem dX8_keep_18 : decode cX8_keep 18 = .ok (.istore_n 3, 1) := by decide +kernel
theorem dX8_keep_19 : decode cX8_keep 19 = .ok (.iload_n 2, 1) := by decide +kernel
theorem dX8_keep_20 : decode cX8_keep 20 = .ok (.iconst 1, 1) := by decide +kernel
theorem dX8_keep_21 : decode cX8_keep 21 = .ok (.iadd, 1) := by decide +kernel
theorem dX8_keep_22 : decode cX8_keep 22 = .ok (.istore 4, 2) := by decide +kernel
theorem dX8_keep_24 : decode cX8_keep 24 = .ok (.iload 4, 2) := by decide +kernel
theorem dX8_keep_26 : decode cX8_keep 26 = .ok (.bipush 14, 2) := by decide +kernel
theorem dX8_keep_28 : decode cX8_keep 28 = .ok (.if_icmp .ge 25, 3) := by decide +kernel
theorem dX8_keep_31 : decode cX8_keep 31 = .ok (.iload_n 3, 1) := by decide +kernel
theorem dX8_keep_32 : decode cX8_keep 32 = .ok (.aload_n 0, 1) := by decide +kernel
theorem dX8_keep_33 : decode cX8_keep 33 = .ok (.iload_n 1, 1) := by decide +kernel
theorem dX8_keep_34 : decode cX8_keep 34 = .ok (.aload_n 0, 1) := by decide +kernel
theorem dX8_keep_35 : decode cX8_keep 35 = .ok (.getfield 7, 3) := by decide +kernel
theorem dX8_keep_38 : decode cX8_keep 38 = .ok (.iload 4, 2) := by decide +kernel
theorem dX8_keep_40 : decode cX8_keep 40 = .ok (.iaload, 1) := by decide +kernel
theorem dX8_keep_41 : decode cX8_keep 41 = .ok (.iconst 1, 1) := by decide +kernel
theorem dX8_keep_42 : decode cX8_keep 42 = .ok (.invokevirtual 159, 3) := by decide +kernel
theorem dX8_keep_45 : decode cX8_keep 45 = .ok (.iadd, 1) := by decide +kernel
theorem dX8_keep_46 : decode cX8_keep 46 = .ok (.istore_n 3, 1) := by decide +kernel
theorem dX8_keep_47 : decode cX8_keep 47 = .ok (.iinc 4 1, 3) := by decide +kernel
theorem dX8_keep_50 : decode cX8_keep 50 = .ok (.goto (-26), 3) := by decide +kernel
theorem dX8_keep_53 : decode cX8_keep 53 = .ok (.iload_n 3, 1) := by decide +kernel
theorem dX8_keep_54 : decode cX8_keep 54 = .ok (.ireturn, 1) := by decide +kernel
theorem dX8_seen_0 : decode cX8_seen 0 = .ok (.iload_n 1, 1) := by decide +kernel
theorem dX8_seen_1 : decode cX8_seen 1 = .ok (.i2l, 1) := by decide +kernel
theorem dX8_seen_2 : decode cX8_seen 2 = .ok (.lconst 0, 1) := by decide +kernel
theorem dX8_seen_3 : decode cX8_seen 3 = .ok (.ldc2_w 123, 3) := by decide +kernel
theorem dX8_seen_6 : decode cX8_seen 6 = .ok (.invokestatic 83, 3) := by decide +kernel
theorem dX8_seen_9 : decode cX8_seen 9 = .ok (.ifCond .eq 15, 3) := by decide +kernel
theorem dX8_seen_12 : decode cX8_seen 12 = .ok (.iload_n 2, 1) := by decide +kernel
theorem dX8_seen_13 : decode cX8_seen 13 = .ok (.i2l, 1) := by decide +kernel
theorem dX8_seen_14 : decode cX8_seen 14 = .ok (.lconst 0, 1) := by decide +kernel
theorem dX8_seen_15 : decode cX8_seen 15 = .ok (.ldc2_w 276, 3) := by decide +kernel
theorem dX8_seen_18 : decode cX8_seen 18 = .ok (.invokestatic 83, 3) := by decide +kernel
theorem dX8_seen_21 : decode cX8_seen 21 = .ok (.ifCond .ne 6, 3) := by decide +kernel
theorem dX8_seen_24 : decode cX8_seen 24 = .ok (.bipush (-2), 2) := by decide +kernel
theorem dX8_seen_26 : decode cX8_seen 26 = .ok (.ireturn, 1) := by decide +kernel
theorem dX8_seen_27 : decode cX8_seen 27 = .ok (.aload_n 0, 1) := by decide +kernel
theorem dX8_seen_28 : decode cX8_seen 28 = .ok (.getfield 278, 3) := by decide +kernel
theorem dX8_seen_31 : decode cX8_seen 31 = .ok (.bipush 8, 2) := by decide +kernel
theorem dX8_seen_33 : decode cX8_seen 33 = .ok (.if_icmp .ne 6, 3) := by decide +kernel
theorem dX8_seen_36 : decode cX8_seen 36 = .ok (.bipush (-4), 2) := by decide +kernel
theorem dX8_seen_38 : decode cX8_seen 38 = .ok (.ireturn, 1) := by decide +kernel
theorem dX8_seen_39 : decode cX8_seen 39 = .ok (.aload_n 0, 1) := by decide +kernel
theorem dX8_seen_40 : decode cX8_seen 40 = .ok (.getfield 25, 3) := by decide +kernel
theorem dX8_seen_43 : decode cX8_seen 43 = .ok (.aload_n 0, 1) := by decide +kernel
theorem dX8_seen_44 : decode cX8_seen 44 = .ok (.getfield 278, 3) := by decide +kernel
theorem dX8_seen_47 : decode cX8_seen 47 = .ok (.iload_n 1, 1) := by decide +kernel
theorem dX8_seen_48 : decode cX8_seen 48 = .ok (.iastore, 1) := by decide +kernel
theorem dX8_seen_49 : decode cX8_seen 49 = .ok (.aload_n 0, 1) := by decide +kernel
theorem dX8_seen_50 : decode cX8_seen 50 = .ok (.getfield 28, 3) := by decide +kernel
theorem dX8_seen_53 : decode cX8_seen 53 = .ok (.aload_n 0, 1) := by decide +kernel
theorem dX8_seen_54 : decode cX8_seen 54 = .ok (.getfield 278, 3) := by decide +kernel
theorem dX8_seen_57 : decode cX8_seen 57 = .ok (.iload_n 2, 1) := by decide +kernel
theorem dX8_seen_58 : decode cX8_seen 58 = .ok (.iastore, 1) := by decide +kernel
theorem dX8_seen_59 : decode cX8_seen 59 = .ok (.aload_n 0, 1) := by decide +kernel
theorem dX8_seen_60 : decode cX8_seen 60 = .ok (.dup, 1) := by decide +kernel
theorem dX8_seen_61 : decode cX8_seen 61 = .ok (.getfield 278, 3) := by decide +kernel
theorem dX8_seen_64 : decode cX8_seen 64 = .ok (.iconst 1, 1) := by decide +kernel
theorem dX8_seen_65 : decode cX8_seen 65 = .ok (.iadd, 1) := by decide +kernel
theorem dX8_seen_66 : decode cX8_seen 66 = .ok (.putfield 278, 3) := by decide +kernel
theorem dX8_seen_69 : decode cX8_seen 69 = .ok (.aload_n 0, 1) := by decide +kernel
theorem dX8_seen_70 : decode cX8_seen 70 = .ok (.getfield 278, 3) := by decide +kernel
theorem dX8_seen_73 : decode cX8_seen 73 = .ok (.ireturn, 1) := by decide +kernel
theorem dX8_forget_0 : decode cX8_forget 0 = .ok (.aload_n 0, 1) := by decide +kernel
theorem dX8_forget_1 : decode cX8_forget 1 = .ok (.getfield 278, 3) := by decide +kernel
theorem dX8_forget_4 : decode cX8_forget 4 = .ok (.istore_n 1, 1) := by decide +kernel
theorem dX8_forget_5 : decode cX8_forget 5 = .ok (.aload_n 0, 1) := by decide +kernel
theorem dX8_forget_6 : decode cX8_forget 6 = .ok (.iconst 0, 1) := by decide +kernel
theorem dX8_forget_7 : decode cX8_forget 7 = .ok (.putfield 278, 3) := by decide +kernel
theorem dX8_forget_10 : decode cX8_forget 10 = .ok (.iload_n 1, 1) := by decide +kernel
theorem dX8_forget_11 : decode cX8_forget 11 = .ok (.ireturn, 1) := by decide +kernel
theorem dX8_isLeak_0 : decode cX8_isLeak 0 = .ok (.aload_n 0, 1) := by decide +kernel
theorem dX8_isLeak_1 : decode cX8_isLeak 1 = .ok (.iload_n 1, 1) := by decide +kernel
theorem dX8_isLeak_2 : decode cX8_isLeak 2 = .ok (.putfield 201, 3) := by decide +kernel
theorem dX8_isLeak_5 : decode cX8_isLeak 5 = .ok (.aload_n 0, 1) := by decide +kernel
theorem dX8_isLeak_6 : decode cX8_isLeak 6 = .ok (.bipush 10, 2) := by decide +kernel
theorem dX8_isLeak_8 : decode cX8_isLeak 8 = .ok (.iload_n 2, 1) := by decide +kernel
theorem dX8_isLeak_9 : decode cX8_isLeak 9 = .ok (.imul, 1) := by decide +kernel
theorem dX8_isLeak_10 : decode cX8_isLeak 10 = .ok (.putfield 204, 3) := by decide +kernel
theorem dX8_isLeak_13 : decode cX8_isLeak 13 = .ok (.aload_n 0, 1) := by decide +kernel
theorem dX8_isLeak_14 : decode cX8_isLeak 14 = .ok (.invokevirtual 225, 3) := by decide +kernel
theorem dX8_isLeak_17 : decode cX8_isLeak 17 = .ok (.aload_n 0, 1) := by decide +kernel
theorem dX8_isLeak_18 : decode cX8_isLeak 18 = .ok (.getfield 179, 3) := by decide +kernel
theorem dX8_isLeak_21 : decode cX8_isLeak 21 = .ok (.ifCond .ge 7, 3) := by decide +kernel
theorem dX8_isLeak_24 : decode cX8_isLeak 24 = .ok (.iconst 1, 1) := by decide +kernel
theorem dX8_isLeak_25 : decode cX8_isLeak 25 = .ok (.goto 4, 3) := by decide +kernel
theorem dX8_isLeak_28 : decode cX8_isLeak 28 = .ok (.iconst 0, 1) := by decide +kernel
theorem dX8_isLeak_29 : decode cX8_isLeak 29 = .ok (.istore_n 3, 1) := by decide +kernel
theorem dX8_isLeak_30 : decode cX8_isLeak 30 = .ok (.iconst 0, 1) := by decide +kernel
theorem dX8_isLeak_31 : decode cX8_isLeak 31 = .ok (.istore 4, 2) := by decide +kernel
theorem dX8_isLeak_33 : decode cX8_isLeak 33 = .ok (.iload 4, 2) := by decide +kernel
theorem dX8_isLeak_35 : decode cX8_isLeak 35 = .ok (.aload_n 0, 1) := by decide +kernel
theorem dX8_isLeak_36 : decode cX8_isLeak 36 = .ok (.getfield 278, 3) := by decide +kernel
theorem dX8_isLeak_39 : decode cX8_isLeak 39 = .ok (.if_icmp .ge 55, 3) := by decide +kernel
theorem dX8_isLeak_42 : decode cX8_isLeak 42 = .ok (.iload_n 3, 1) := by decide +kernel
theorem dX8_isLeak_43 : decode cX8_isLeak 43 = .ok (.ifCond .eq 43, 3) := by decide +kernel
theorem dX8_isLeak_46 : decode cX8_isLeak 46 = .ok (.aload_n 0, 1) := by decide +kernel
theorem dX8_isLeak_47 : decode cX8_isLeak 47 = .ok (.getfield 25, 3) := by decide +kernel
theorem dX8_isLeak_50 : decode cX8_isLeak 50 = .ok (.iload 4, 2) := by decide +kernel
theorem dX8_isLeak_52 : decode cX8_isLeak 52 = .ok (.iaload, 1) := by decide +kernel
theorem dX8_isLeak_53 : decode cX8_isLeak 53 = .ok (.aload_n 0, 1) := by decide +kernel
theorem dX8_isLeak_54 : decode cX8_isLeak 54 = .ok (.getfield 137, 3) := by decide +kernel
theorem dX8_isLeak_57 : decode cX8_isLeak 57 = .ok (.if_icmp .gt 29, 3) := by decide +kernel
theorem dX8_isLeak_60 : decode cX8_isLeak 60 = .ok (.aload_n 0, 1) := by decide +kernel
theorem dX8_isLeak_61 : decode cX8_isLeak 61 = .ok (.getfield 52, 3) := by decide +kernel
theorem dX8_isLeak_64 : decode cX8_isLeak 64 = .ok (.aload_n 0, 1) := by decide +kernel
theorem dX8_isLeak_65 : decode cX8_isLeak 65 = .ok (.getfield 25, 3) := by decide +kernel
theorem dX8_isLeak_68 : decode cX8_isLeak 68 = .ok (.iload 4, 2) := by decide +kernel
theorem dX8_isLeak_70 : decode cX8_isLeak 70 = .ok (.iaload, 1) := by decide +kernel
theorem dX8_isLeak_71 : decode cX8_isLeak 71 = .ok (.iaload, 1) := by decide +kernel
theorem dX8_isLeak_72 : decode cX8_isLeak 72 = .ok (.aload_n 0, 1) := by decide +kernel
theorem dX8_isLeak_73 : decode cX8_isLeak 73 = .ok (.getfield 28, 3) := by decide +kernel
theorem dX8_isLeak_76 : decode cX8_isLeak 76 = .ok (.iload 4, 2) := by decide +kernel
theorem dX8_isLeak_78 : decode cX8_isLeak 78 = .ok (.iaload, 1) := by decide +kernel
theorem dX8_isLeak_79 : decode cX8_isLeak 79 = .ok (.if_icmp .ne 7, 3) := by decide +kernel
theorem dX8_isLeak_82 : decode cX8_isLeak 82 = .ok (.iconst 1, 1) := by decide +kernel
theorem dX8_isLeak_83 : decode cX8_isLeak 83 = .ok (.goto 4, 3) := by decide +kernel
theorem dX8_isLeak_86 : decode cX8_isLeak 86 = .ok (.iconst 0, 1) := by decide +kernel
theorem dX8_isLeak_87 : decode cX8_isLeak 87 = .ok (.istore_n 3, 1) := by decide +kernel
theorem dX8_isLeak_88 : decode cX8_isLeak 88 = .ok (.iinc 4 1, 3) := by decide +kernel
theorem dX8_isLeak_91 : decode cX8_isLeak 91 = .ok (.goto (-58), 3) := by decide +kernel
theorem dX8_isLeak_94 : decode cX8_isLeak 94 = .ok (.aload_n 0, 1) := by decide +kernel
theorem dX8_isLeak_95 : decode cX8_isLeak 95 = .ok (.invokevirtual 237, 3) := by decide +kernel
theorem dX8_isLeak_98 : decode cX8_isLeak 98 = .ok (.iload_n 3, 1) := by decide +kernel
theorem dX8_isLeak_99 : decode cX8_isLeak 99 = .ok (.ireturn, 1) := by decide +kernel
theorem dX8_countLeak_0 : decode cX8_countLeak 0 = .ok (.aload_n 0, 1) := by decide +kernel
theorem dX8_countLeak_1 : decode cX8_countLeak 1 = .ok (.dup, 1) := by decide +kernel
theorem dX8_countLeak_2 : decode cX8_countLeak 2 = .ok (.getfield 281, 3) := by decide +kernel
theorem dX8_countLeak_5 : decode cX8_countLeak 5 = .ok (.iconst 1, 1) := by decide +kernel
theorem dX8_countLeak_6 : decode cX8_countLeak 6 = .ok (.iadd, 1) := by decide +kernel
theorem dX8_countLeak_7 : decode cX8_countLeak 7 = .ok (.putfield 281, 3) := by decide +kernel
theorem dX8_countLeak_10 : decode cX8_countLeak 10 = .ok (.aload_n 0, 1) := by decide +kernel
theorem dX8_countLeak_11 : decode cX8_countLeak 11 = .ok (.dup, 1) := by decide +kernel
theorem dX8_countLeak_12 : decode cX8_countLeak 12 = .ok (.getfield 284, 3) := by decide +kernel
theorem dX8_countLeak_15 : decode cX8_countLeak 15 = .ok (.iload_n 1, 1) := by decide +kernel
theorem dX8_countLeak_16 : decode cX8_countLeak 16 = .ok (.bipush 30, 2) := by decide +kernel
theorem dX8_countLeak_18 : decode cX8_countLeak 18 = .ok (.if_icmp .ge 9, 3) := by decide +kernel
theorem dX8_countLeak_21 : decode cX8_countLeak 21 = .ok (.iconst 1, 1) := by decide +kernel
theorem dX8_countLeak_22 : decode cX8_countLeak 22 = .ok (.iload_n 1, 1) := by decide +kernel
theorem dX8_countLeak_23 : decode cX8_countLeak 23 = .ok (.ishl, 1) := by decide +kernel
theorem dX8_countLeak_24 : decode cX8_countLeak 24 = .ok (.goto 4, 3) := by decide +kernel
theorem dX8_countLeak_27 : decode cX8_countLeak 27 = .ok (.iconst 0, 1) := by decide +kernel
theorem dX8_countLeak_28 : decode cX8_countLeak 28 = .ok (.ior, 1) := by decide +kernel
theorem dX8_countLeak_29 : decode cX8_countLeak 29 = .ok (.putfield 284, 3) := by decide +kernel
theorem dX8_countLeak_32 : decode cX8_countLeak 32 = .ok (.iconst 0, 1) := by decide +kernel
theorem dX8_countLeak_33 : decode cX8_countLeak 33 = .ok (.istore_n 2, 1) := by decide +kernel
theorem dX8_countLeak_34 : decode cX8_countLeak 34 = .ok (.iload_n 2, 1) := by decide +kernel
theorem dX8_countLeak_35 : decode cX8_countLeak 35 = .ok (.aload_n 0, 1) := by decide +kernel
theorem dX8_countLeak_36 : decode cX8_countLeak 36 = .ok (.getfield 137, 3) := by decide +kernel
theorem dX8_countLeak_39 : decode cX8_countLeak 39 = .ok (.if_icmp .ge 31, 3) := by decide +kernel
theorem dX8_countLeak_42 : decode cX8_countLeak 42 = .ok (.aload_n 0, 1) := by decide +kernel
theorem dX8_countLeak_43 : decode cX8_countLeak 43 = .ok (.getfield 64, 3) := by decide +kernel
theorem dX8_countLeak_46 : decode cX8_countLeak 46 = .ok (.bipush 21, 2) := by decide +kernel
theorem dX8_countLeak_48 : decode cX8_countLeak 48 = .ok (.iload_n 2, 1) := by decide +kernel
theorem dX8_countLeak_49 : decode cX8_countLeak 49 = .ok (.imul, 1) := by decide +kernel
theorem dX8_countLeak_50 : decode cX8_countLeak 50 = .ok (.aload_n 0, 1) := by decide +kernel
theorem dX8_countLeak_51 : decode cX8_countLeak 51 = .ok (.getfield 52, 3) := by decide +kernel
theorem dX8_countLeak_54 : decode cX8_countLeak 54 = .ok (.iload_n 2, 1) := by decide +kernel
theorem dX8_countLeak_55 : decode cX8_countLeak 55 = .ok (.iconst 1, 1) := by decide +kernel
theorem dX8_countLeak_56 : decode cX8_countLeak 56 = .ok (.iadd, 1) := by decide +kernel
theorem dX8_countLeak_57 : decode cX8_countLeak 57 = .ok (.iaload, 1) := by decide +kernel
theorem dX8_countLeak_58 : decode cX8_countLeak 58 = .ok (.iadd, 1) := by decide +kernel
theorem dX8_countLeak_59 : decode cX8_countLeak 59 = .ok (.dup2, 1) := by decide +kernel
theorem dX8_countLeak_60 : decode cX8_countLeak 60 = .ok (.iaload, 1) := by decide +kernel
theorem dX8_countLeak_61 : decode cX8_countLeak 61 = .ok (.iconst 1, 1) := by decide +kernel
theorem dX8_countLeak_62 : decode cX8_countLeak 62 = .ok (.iadd, 1) := by decide +kernel
theorem dX8_countLeak_63 : decode cX8_countLeak 63 = .ok (.iastore, 1) := by decide +kernel
theorem dX8_countLeak_64 : decode cX8_countLeak 64 = .ok (.iinc 2 1, 3) := by decide +kernel
theorem dX8_countLeak_67 : decode cX8_countLeak 67 = .ok (.goto (-33), 3) := by decide +kernel
theorem dX8_countLeak_70 : decode cX8_countLeak 70 = .ok (.return_, 1) := by decide +kernel
theorem dX8_goLeaks_0 : decode cX8_goLeaks 0 = .ok (.aload_n 0, 1) := by decide +kernel
theorem dX8_goLeaks_1 : decode cX8_goLeaks 1 = .ok (.invokevirtual 222, 3) := by decide +kernel
theorem dX8_goLeaks_4 : decode cX8_goLeaks 4 = .ok (.aload_n 0, 1) := by decide +kernel
theorem dX8_goLeaks_5 : decode cX8_goLeaks 5 = .ok (.iconst 0, 1) := by decide +kernel
theorem dX8_goLeaks_6 : decode cX8_goLeaks 6 = .ok (.putfield 281, 3) := by decide +kernel
theorem dX8_goLeaks_9 : decode cX8_goLeaks 9 = .ok (.aload_n 0, 1) := by decide +kernel
theorem dX8_goLeaks_10 : decode cX8_goLeaks 10 = .ok (.iconst 0, 1) := by decide +kernel
theorem dX8_goLeaks_11 : decode cX8_goLeaks 11 = .ok (.putfield 284, 3) := by decide +kernel
theorem dX8_goLeaks_14 : decode cX8_goLeaks 14 = .ok (.iconst 0, 1) := by decide +kernel
theorem dX8_goLeaks_15 : decode cX8_goLeaks 15 = .ok (.istore_n 2, 1) := by decide +kernel
theorem dX8_goLeaks_16 : decode cX8_goLeaks 16 = .ok (.iload_n 2, 1) := by decide +kernel
theorem dX8_goLeaks_17 : decode cX8_goLeaks 17 = .ok (.sipush 1260, 3) := by decide +kernel
theorem dX8_goLeaks_20 : decode cX8_goLeaks 20 = .ok (.if_icmp .ge 16, 3) := by decide +kernel
theorem dX8_goLeaks_23 : decode cX8_goLeaks 23 = .ok (.aload_n 0, 1) := by decide +kernel
theorem dX8_goLeaks_24 : decode cX8_goLeaks 24 = .ok (.getfield 64, 3) := by decide +kernel
theorem dX8_goLeaks_27 : decode cX8_goLeaks 27 = .ok (.iload_n 2, 1) := by decide +kernel
theorem dX8_goLeaks_28 : decode cX8_goLeaks 28 = .ok (.iconst 0, 1) := by decide +kernel
theorem dX8_goLeaks_29 : decode cX8_goLeaks 29 = .ok (.iastore, 1) := by decide +kernel
theorem dX8_goLeaks_30 : decode cX8_goLeaks 30 = .ok (.iinc 2 1, 3) := by decide +kernel
theorem dX8_goLeaks_33 : decode cX8_goLeaks 33 = .ok (.goto (-17), 3) := by decide +kernel
theorem dX8_goLeaks_36 : decode cX8_goLeaks 36 = .ok (.bipush (-6), 2) := by decide +kernel
theorem dX8_goLeaks_38 : decode cX8_goLeaks 38 = .ok (.istore_n 2, 1) := by decide +kernel
theorem dX8_goLeaks_39 : decode cX8_goLeaks 39 = .ok (.iconst 0, 1) := by decide +kernel
theorem dX8_goLeaks_40 : decode cX8_goLeaks 40 = .ok (.istore_n 3, 1) := by decide +kernel
theorem dX8_goLeaks_41 : decode cX8_goLeaks 41 = .ok (.iload_n 3, 1) := by decide +kernel
theorem dX8_goLeaks_42 : decode cX8_goLeaks 42 = .ok (.aload_n 0, 1) := by decide +kernel
theorem dX8_goLeaks_43 : decode cX8_goLeaks 43 = .ok (.getfield 137, 3) := by decide +kernel
theorem dX8_goLeaks_46 : decode cX8_goLeaks 46 = .ok (.if_icmp .ge 62, 3) := by decide +kernel
theorem dX8_goLeaks_49 : decode cX8_goLeaks 49 = .ok (.iconst 1, 1) := by decide +kernel
theorem dX8_goLeaks_50 : decode cX8_goLeaks 50 = .ok (.istore 4, 2) := by decide +kernel
theorem dX8_goLeaks_52 : decode cX8_goLeaks 52 = .ok (.iload 4, 2) := by decide +kernel
theorem dX8_goLeaks_54 : decode cX8_goLeaks 54 = .ok (.sipush 200, 3) := by decide +kernel
theorem dX8_goLeaks_57 : decode cX8_goLeaks 57 = .ok (.if_icmp .gt 45, 3) := by decide +kernel
theorem dX8_goLeaks_60 : decode cX8_goLeaks 60 = .ok (.aload_n 0, 1) := by decide +kernel
theorem dX8_goLeaks_61 : decode cX8_goLeaks 61 = .ok (.iload_n 3, 1) := by decide +kernel
theorem dX8_goLeaks_62 : decode cX8_goLeaks 62 = .ok (.iload 4, 2) := by decide +kernel
theorem dX8_goLeaks_64 : decode cX8_goLeaks 64 = .ok (.invokevirtual 287, 3) := by decide +kernel
theorem dX8_goLeaks_67 : decode cX8_goLeaks 67 = .ok (.ifCond .eq 29, 3) := by decide +kernel
theorem dX8_goLeaks_70 : decode cX8_goLeaks 70 = .ok (.aload_n 0, 1) := by decide +kernel
theorem dX8_goLeaks_71 : decode cX8_goLeaks 71 = .ok (.getfield 281, 3) := by decide +kernel
theorem dX8_goLeaks_74 : decode cX8_goLeaks 74 = .ok (.iload_n 1, 1) := by decide +kernel
theorem dX8_goLeaks_75 : decode cX8_goLeaks 75 = .ok (.if_icmp .ne 14, 3) := by decide +kernel
theorem dX8_goLeaks_78 : decode cX8_goLeaks 78 = .ok (.sipush 1000, 3) := by decide +kernel
theorem dX8_goLeaks_81 : decode cX8_goLeaks 81 = .ok (.iload_n 3, 1) := by decide +kernel
theorem dX8_goLeaks_82 : decode cX8_goLeaks 82 = .ok (.imul, 1) := by decide +kernel
theorem dX8_goLeaks_83 : decode cX8_goLeaks 83 = .ok (.iload 4, 2) := by decide +kernel
theorem dX8_goLeaks_85 : decode cX8_goLeaks 85 = .ok (.iadd, 1) := by decide +kernel
theorem dX8_goLeaks_86 : decode cX8_goLeaks 86 = .ok (.goto 4, 3) := by decide +kernel
theorem dX8_goLeaks_89 : decode cX8_goLeaks 89 = .ok (.iload_n 2, 1) := by decide +kernel
theorem dX8_goLeaks_90 : decode cX8_goLeaks 90 = .ok (.istore_n 2, 1) := by decide +kernel
theorem dX8_goLeaks_91 : decode cX8_goLeaks 91 = .ok (.aload_n 0, 1) := by decide +kernel
theorem dX8_goLeaks_92 : decode cX8_goLeaks 92 = .ok (.iload_n 3, 1) := by decide +kernel
theorem dX8_goLeaks_93 : decode cX8_goLeaks 93 = .ok (.invokevirtual 291, 3) := by decide +kernel
theorem dX8_goLeaks_96 : decode cX8_goLeaks 96 = .ok (.iinc 4 1, 3) := by decide +kernel
theorem dX8_goLeaks_99 : decode cX8_goLeaks 99 = .ok (.goto (-47), 3) := by decide +kernel
theorem dX8_goLeaks_102 : decode cX8_goLeaks 102 = .ok (.iinc 3 1, 3) := by decide +kernel
theorem dX8_goLeaks_105 : decode cX8_goLeaks 105 = .ok (.goto (-64), 3) := by decide +kernel
theorem dX8_goLeaks_108 : decode cX8_goLeaks 108 = .ok (.aload_n 0, 1) := by decide +kernel
theorem dX8_goLeaks_109 : decode cX8_goLeaks 109 = .ok (.bipush (-6), 2) := by decide +kernel
theorem dX8_goLeaks_111 : decode cX8_goLeaks 111 = .ok (.putfield 201, 3) := by decide +kernel
theorem dX8_goLeaks_114 : decode cX8_goLeaks 114 = .ok (.iload_n 2, 1) := by decide +kernel
theorem dX8_goLeaks_115 : decode cX8_goLeaks 115 = .ok (.ireturn, 1) := by decide +kernel
theorem dX8_leaks_0 : decode cX8_leaks 0 = .ok (.aload_n 0, 1) := by decide +kernel
theorem dX8_leaks_1 : decode cX8_leaks 1 = .ok (.invokevirtual 242, 3) := by decide +kernel
theorem dX8_leaks_4 : decode cX8_leaks 4 = .ok (.istore_n 2, 1) := by decide +kernel
theorem dX8_leaks_5 : decode cX8_leaks 5 = .ok (.iload_n 2, 1) := by decide +kernel
theorem dX8_leaks_6 : decode cX8_leaks 6 = .ok (.bipush (-6), 2) := by decide +kernel
theorem dX8_leaks_8 : decode cX8_leaks 8 = .ok (.if_icmp .eq 5, 3) := by decide +kernel
theorem dX8_leaks_11 : decode cX8_leaks 11 = .ok (.iload_n 2, 1) := by decide +kernel
theorem dX8_leaks_12 : decode cX8_leaks 12 = .ok (.ireturn, 1) := by decide +kernel
theorem dX8_leaks_13 : decode cX8_leaks 13 = .ok (.aload_n 0, 1) := by decide +kernel
theorem dX8_leaks_14 : decode cX8_leaks 14 = .ok (.iload_n 1, 1) := by decide +kernel
theorem dX8_leaks_15 : decode cX8_leaks 15 = .ok (.invokevirtual 294, 3) := by decide +kernel
theorem dX8_leaks_18 : decode cX8_leaks 18 = .ok (.istore_n 3, 1) := by decide +kernel
theorem dX8_leaks_19 : decode cX8_leaks 19 = .ok (.iload_n 1, 1) := by decide +kernel
theorem dX8_leaks_20 : decode cX8_leaks 20 = .ok (.iconst (-1), 1) := by decide +kernel
theorem dX8_leaks_21 : decode cX8_leaks 21 = .ok (.if_icmp .ne 10, 3) := by decide +kernel
theorem dX8_leaks_24 : decode cX8_leaks 24 = .ok (.aload_n 0, 1) := by decide +kernel
theorem dX8_leaks_25 : decode cX8_leaks 25 = .ok (.getfield 281, 3) := by decide +kernel
theorem dX8_leaks_28 : decode cX8_leaks 28 = .ok (.goto 4, 3) := by decide +kernel
theorem dX8_leaks_31 : decode cX8_leaks 31 = .ok (.iload_n 3, 1) := by decide +kernel
theorem dX8_leaks_32 : decode cX8_leaks 32 = .ok (.ireturn, 1) := by decide +kernel
theorem dX8_where_0 : decode cX8_where 0 = .ok (.aload_n 0, 1) := by decide +kernel
theorem dX8_where_1 : decode cX8_where 1 = .ok (.invokevirtual 242, 3) := by decide +kernel
theorem dX8_where_4 : decode cX8_where 4 = .ok (.istore_n 1, 1) := by decide +kernel
theorem dX8_where_5 : decode cX8_where 5 = .ok (.iload_n 1, 1) := by decide +kernel
theorem dX8_where_6 : decode cX8_where 6 = .ok (.bipush (-6), 2) := by decide +kernel
theorem dX8_where_8 : decode cX8_where 8 = .ok (.if_icmp .eq 5, 3) := by decide +kernel
theorem dX8_where_11 : decode cX8_where 11 = .ok (.iload_n 1, 1) := by decide +kernel
theorem dX8_where_12 : decode cX8_where 12 = .ok (.ireturn, 1) := by decide +kernel
theorem dX8_where_13 : decode cX8_where 13 = .ok (.aload_n 0, 1) := by decide +kernel
theorem dX8_where_14 : decode cX8_where 14 = .ok (.bipush (-6), 2) := by decide +kernel
theorem dX8_where_16 : decode cX8_where 16 = .ok (.invokevirtual 294, 3) := by decide +kernel
theorem dX8_where_19 : decode cX8_where 19 = .ok (.pop, 1) := by decide +kernel
theorem dX8_where_20 : decode cX8_where 20 = .ok (.aload_n 0, 1) := by decide +kernel
theorem dX8_where_21 : decode cX8_where 21 = .ok (.getfield 284, 3) := by decide +kernel
theorem dX8_where_24 : decode cX8_where 24 = .ok (.ireturn, 1) := by decide +kernel
theorem dX8_mostMarks_0 : decode cX8_mostMarks 0 = .ok (.iconst 0, 1) := by decide +kernel
theorem dX8_mostMarks_1 : decode cX8_mostMarks 1 = .ok (.istore_n 2, 1) := by decide +kernel
theorem dX8_mostMarks_2 : decode cX8_mostMarks 2 = .ok (.iconst 0, 1) := by decide +kernel
theorem dX8_mostMarks_3 : decode cX8_mostMarks 3 = .ok (.istore_n 3, 1) := by decide +kernel
theorem dX8_mostMarks_4 : decode cX8_mostMarks 4 = .ok (.iload_n 3, 1) := by decide +kernel
theorem dX8_mostMarks_5 : decode cX8_mostMarks 5 = .ok (.bipush 21, 2) := by decide +kernel
theorem dX8_mostMarks_7 : decode cX8_mostMarks 7 = .ok (.if_icmp .ge 40, 3) := by decide +kernel
theorem dX8_mostMarks_10 : decode cX8_mostMarks 10 = .ok (.aload_n 0, 1) := by decide +kernel
theorem dX8_mostMarks_11 : decode cX8_mostMarks 11 = .ok (.getfield 64, 3) := by decide +kernel
theorem dX8_mostMarks_14 : decode cX8_mostMarks 14 = .ok (.bipush 21, 2) := by decide +kernel
theorem dX8_mostMarks_16 : decode cX8_mostMarks 16 = .ok (.iload_n 1, 1) := by decide +kernel
theorem dX8_mostMarks_17 : decode cX8_mostMarks 17 = .ok (.imul, 1) := by decide +kernel
theorem dX8_mostMarks_18 : decode cX8_mostMarks 18 = .ok (.iload_n 3, 1) := by decide +kernel
theorem dX8_mostMarks_19 : decode cX8_mostMarks 19 = .ok (.iadd, 1) := by decide +kernel
theorem dX8_mostMarks_20 : decode cX8_mostMarks 20 = .ok (.iaload, 1) := by decide +kernel
theorem dX8_mostMarks_21 : decode cX8_mostMarks 21 = .ok (.iload_n 2, 1) := by decide +kernel
theorem dX8_mostMarks_22 : decode cX8_mostMarks 22 = .ok (.if_icmp .le 17, 3) := by decide +kernel
theorem dX8_mostMarks_25 : decode cX8_mostMarks 25 = .ok (.aload_n 0, 1) := by decide +kernel
theorem dX8_mostMarks_26 : decode cX8_mostMarks 26 = .ok (.getfield 64, 3) := by decide +kernel
theorem dX8_mostMarks_29 : decode cX8_mostMarks 29 = .ok (.bipush 21, 2) := by decide +kernel
theorem dX8_mostMarks_31 : decode cX8_mostMarks 31 = .ok (.iload_n 1, 1) := by decide +kernel
theorem dX8_mostMarks_32 : decode cX8_mostMarks 32 = .ok (.imul, 1) := by decide +kernel
theorem dX8_mostMarks_33 : decode cX8_mostMarks 33 = .ok (.iload_n 3, 1) := by decide +kernel
theorem dX8_mostMarks_34 : decode cX8_mostMarks 34 = .ok (.iadd, 1) := by decide +kernel
theorem dX8_mostMarks_35 : decode cX8_mostMarks 35 = .ok (.iaload, 1) := by decide +kernel
theorem dX8_mostMarks_36 : decode cX8_mostMarks 36 = .ok (.goto 4, 3) := by decide +kernel
theorem dX8_mostMarks_39 : decode cX8_mostMarks 39 = .ok (.iload_n 2, 1) := by decide +kernel
theorem dX8_mostMarks_40 : decode cX8_mostMarks 40 = .ok (.istore_n 2, 1) := by decide +kernel
theorem dX8_mostMarks_41 : decode cX8_mostMarks 41 = .ok (.iinc 3 1, 3) := by decide +kernel
theorem dX8_mostMarks_44 : decode cX8_mostMarks 44 = .ok (.goto (-40), 3) := by decide +kernel
theorem dX8_mostMarks_47 : decode cX8_mostMarks 47 = .ok (.iload_n 2, 1) := by decide +kernel
theorem dX8_mostMarks_48 : decode cX8_mostMarks 48 = .ok (.ireturn, 1) := by decide +kernel
theorem dX8_weigh_0 : decode cX8_weigh 0 = .ok (.iload_n 1, 1) := by decide +kernel
theorem dX8_weigh_1 : decode cX8_weigh 1 = .ok (.i2l, 1) := by decide +kernel
theorem dX8_weigh_2 : decode cX8_weigh 2 = .ok (.lconst 0, 1) := by decide +kernel
theorem dX8_weigh_3 : decode cX8_weigh 3 = .ok (.lconst 1, 1) := by decide +kernel
theorem dX8_weigh_4 : decode cX8_weigh 4 = .ok (.invokestatic 83, 3) := by decide +kernel
theorem dX8_weigh_7 : decode cX8_weigh 7 = .ok (.ifCond .ne 6, 3) := by decide +kernel
theorem dX8_weigh_10 : decode cX8_weigh 10 = .ok (.bipush (-2), 2) := by decide +kernel
theorem dX8_weigh_12 : decode cX8_weigh 12 = .ok (.ireturn, 1) := by decide +kernel
theorem dX8_weigh_13 : decode cX8_weigh 13 = .ok (.aload_n 0, 1) := by decide +kernel
theorem dX8_weigh_14 : decode cX8_weigh 14 = .ok (.invokevirtual 242, 3) := by decide +kernel
theorem dX8_weigh_17 : decode cX8_weigh 17 = .ok (.istore_n 2, 1) := by decide +kernel
theorem dX8_weigh_18 : decode cX8_weigh 18 = .ok (.iload_n 2, 1) := by decide +kernel
theorem dX8_weigh_19 : decode cX8_weigh 19 = .ok (.bipush (-6), 2) := by decide +kernel
theorem dX8_weigh_21 : decode cX8_weigh 21 = .ok (.if_icmp .eq 5, 3) := by decide +kernel
theorem dX8_weigh_24 : decode cX8_weigh 24 = .ok (.iload_n 2, 1) := by decide +kernel
theorem dX8_weigh_25 : decode cX8_weigh 25 = .ok (.ireturn, 1) := by decide +kernel
theorem dX8_weigh_26 : decode cX8_weigh 26 = .ok (.aload_n 0, 1) := by decide +kernel
theorem dX8_weigh_27 : decode cX8_weigh 27 = .ok (.bipush (-6), 2) := by decide +kernel
theorem dX8_weigh_29 : decode cX8_weigh 29 = .ok (.invokevirtual 294, 3) := by decide +kernel
theorem dX8_weigh_32 : decode cX8_weigh 32 = .ok (.pop, 1) := by decide +kernel
theorem dX8_weigh_33 : decode cX8_weigh 33 = .ok (.aload_n 0, 1) := by decide +kernel
theorem dX8_weigh_34 : decode cX8_weigh 34 = .ok (.getfield 281, 3) := by decide +kernel
theorem dX8_weigh_37 : decode cX8_weigh 37 = .ok (.ifCond .ne 6, 3) := by decide +kernel
theorem dX8_weigh_40 : decode cX8_weigh 40 = .ok (.bipush (-6), 2) := by decide +kernel
theorem dX8_weigh_42 : decode cX8_weigh 42 = .ok (.ireturn, 1) := by decide +kernel
theorem dX8_weigh_43 : decode cX8_weigh 43 = .ok (.iconst 0, 1) := by decide +kernel
theorem dX8_weigh_44 : decode cX8_weigh 44 = .ok (.istore_n 3, 1) := by decide +kernel
theorem dX8_weigh_45 : decode cX8_weigh 45 = .ok (.iconst 1, 1) := by decide +kernel
theorem dX8_weigh_46 : decode cX8_weigh 46 = .ok (.istore 4, 2) := by decide +kernel
theorem dX8_weigh_48 : decode cX8_weigh 48 = .ok (.iload 4, 2) := by decide +kernel
theorem dX8_weigh_50 : decode cX8_weigh 50 = .ok (.aload_n 0, 1) := by decide +kernel
theorem dX8_weigh_51 : decode cX8_weigh 51 = .ok (.getfield 137, 3) := by decide +kernel
theorem dX8_weigh_54 : decode cX8_weigh 54 = .ok (.if_icmp .ge 30, 3) := by decide +kernel
theorem dX8_weigh_57 : decode cX8_weigh 57 = .ok (.aload_n 0, 1) := by decide +kernel
theorem dX8_weigh_58 : decode cX8_weigh 58 = .ok (.iload 4, 2) := by decide +kernel
theorem dX8_weigh_60 : decode cX8_weigh 60 = .ok (.invokevirtual 297, 3) := by decide +kernel
theorem dX8_weigh_63 : decode cX8_weigh 63 = .ok (.aload_n 0, 1) := by decide +kernel
theorem dX8_weigh_64 : decode cX8_weigh 64 = .ok (.iload_n 3, 1) := by decide +kernel
theorem dX8_weigh_65 : decode cX8_weigh 65 = .ok (.invokevirtual 297, 3) := by decide +kernel
theorem dX8_weigh_68 : decode cX8_weigh 68 = .ok (.if_icmp .ge 8, 3) := by decide +kernel
theorem dX8_weigh_71 : decode cX8_weigh 71 = .ok (.iload 4, 2) := by decide +kernel
theorem dX8_weigh_73 : decode cX8_weigh 73 = .ok (.goto 4, 3) := by decide +kernel
theorem dX8_weigh_76 : decode cX8_weigh 76 = .ok (.iload_n 3, 1) := by decide +kernel
theorem dX8_weigh_77 : decode cX8_weigh 77 = .ok (.istore_n 3, 1) := by decide +kernel
theorem dX8_weigh_78 : decode cX8_weigh 78 = .ok (.iinc 4 1, 3) := by decide +kernel
theorem dX8_weigh_81 : decode cX8_weigh 81 = .ok (.goto (-33), 3) := by decide +kernel
theorem dX8_weigh_84 : decode cX8_weigh 84 = .ok (.iload_n 1, 1) := by decide +kernel
theorem dX8_weigh_85 : decode cX8_weigh 85 = .ok (.ifCond .ne 7, 3) := by decide +kernel
theorem dX8_weigh_88 : decode cX8_weigh 88 = .ok (.iload_n 3, 1) := by decide +kernel
theorem dX8_weigh_89 : decode cX8_weigh 89 = .ok (.goto 8, 3) := by decide +kernel
theorem dX8_weigh_92 : decode cX8_weigh 92 = .ok (.aload_n 0, 1) := by decide +kernel
theorem dX8_weigh_93 : decode cX8_weigh 93 = .ok (.iload_n 3, 1) := by decide +kernel
theorem dX8_weigh_94 : decode cX8_weigh 94 = .ok (.invokevirtual 297, 3) := by decide +kernel
theorem dX8_weigh_97 : decode cX8_weigh 97 = .ok (.ireturn, 1) := by decide +kernel
theorem dX8_lowest_0 : decode cX8_lowest 0 = .ok (.lload_n 2, 1) := by decide +kernel
theorem dX8_lowest_1 : decode cX8_lowest 1 = .ok (.lstore 5, 2) := by decide +kernel
theorem dX8_lowest_3 : decode cX8_lowest 3 = .ok (.lload_n 0, 1) := by decide +kernel
theorem dX8_lowest_4 : decode cX8_lowest 4 = .ok (.lstore 7, 2) := by decide +kernel
theorem dX8_lowest_6 : decode cX8_lowest 6 = .ok (.lload 7, 2) := by decide +kernel
theorem dX8_lowest_8 : decode cX8_lowest 8 = .ok (.lconst 0, 1) := by decide +kernel
theorem dX8_lowest_9 : decode cX8_lowest 9 = .ok (.lcmp, 1) := by decide +kernel
theorem dX8_lowest_10 : decode cX8_lowest 10 = .ok (.ifCond .eq 21, 3) := by decide +kernel
theorem dX8_lowest_13 : decode cX8_lowest 13 = .ok (.lload 5, 2) := by decide +kernel
theorem dX8_lowest_15 : decode cX8_lowest 15 = .ok (.lload 7, 2) := by decide +kernel
theorem dX8_lowest_17 : decode cX8_lowest 17 = .ok (.lrem, 1) := by decide +kernel
theorem dX8_lowest_18 : decode cX8_lowest 18 = .ok (.lstore 9, 2) := by decide +kernel
theorem dX8_lowest_20 : decode cX8_lowest 20 = .ok (.lload 7, 2) := by decide +kernel
theorem dX8_lowest_22 : decode cX8_lowest 22 = .ok (.lstore 5, 2) := by decide +kernel
theorem dX8_lowest_24 : decode cX8_lowest 24 = .ok (.lload 9, 2) := by decide +kernel
theorem dX8_lowest_26 : decode cX8_lowest 26 = .ok (.lstore 7, 2) := by decide +kernel
theorem dX8_lowest_28 : decode cX8_lowest 28 = .ok (.goto (-22), 3) := by decide +kernel
theorem dX8_lowest_31 : decode cX8_lowest 31 = .ok (.iload 4, 2) := by decide +kernel
theorem dX8_lowest_33 : decode cX8_lowest 33 = .ok (.ifCond .ne 10, 3) := by decide +kernel
theorem dX8_lowest_36 : decode cX8_lowest 36 = .ok (.lload_n 0, 1) := by decide +kernel
theorem dX8_lowest_37 : decode cX8_lowest 37 = .ok (.lload 5, 2) := by decide +kernel
theorem dX8_lowest_39 : decode cX8_lowest 39 = .ok (.ldiv, 1) := by decide +kernel
theorem dX8_lowest_40 : decode cX8_lowest 40 = .ok (.goto 7, 3) := by decide +kernel
theorem dX8_lowest_43 : decode cX8_lowest 43 = .ok (.lload_n 2, 1) := by decide +kernel
theorem dX8_lowest_44 : decode cX8_lowest 44 = .ok (.lload 5, 2) := by decide +kernel
theorem dX8_lowest_46 : decode cX8_lowest 46 = .ok (.ldiv, 1) := by decide +kernel
theorem dX8_lowest_47 : decode cX8_lowest 47 = .ok (.lreturn, 1) := by decide +kernel
theorem dX8_canWithoutEnd_0 : decode cX8_canWithoutEnd 0 = .ok (.aload_n 0, 1) := by decide +kernel
theorem dX8_canWithoutEnd_1 : decode cX8_canWithoutEnd 1 = .ok (.ldc_w 300, 3) := by decide +kernel
theorem dX8_canWithoutEnd_4 : decode cX8_canWithoutEnd 4 = .ok (.putfield 77, 3) := by decide +kernel
theorem dX8_canWithoutEnd_7 : decode cX8_canWithoutEnd 7 = .ok (.aload_n 0, 1) := by decide +kernel
theorem dX8_canWithoutEnd_8 : decode cX8_canWithoutEnd 8 = .ok (.ldc_w 301, 3) := by decide +kernel
theorem dX8_canWithoutEnd_11 : decode cX8_canWithoutEnd 11 = .ok (.putfield 176, 3) := by decide +kernel
theorem dX8_canWithoutEnd_14 : decode cX8_canWithoutEnd 14 = .ok (.aload_n 0, 1) := by decide +kernel
theorem dX8_canWithoutEnd_15 : decode cX8_canWithoutEnd 15 = .ok (.invokevirtual 225, 3) := by decide +kernel
theorem dX8_canWithoutEnd_18 : decode cX8_canWithoutEnd 18 = .ok (.aload_n 0, 1) := by decide +kernel
theorem dX8_canWithoutEnd_19 : decode cX8_canWithoutEnd 19 = .ok (.getfield 101, 3) := by decide +kernel
theorem dX8_canWithoutEnd_22 : decode cX8_canWithoutEnd 22 = .ok (.istore_n 1, 1) := by decide +kernel
theorem dX8_canWithoutEnd_23 : decode cX8_canWithoutEnd 23 = .ok (.aload_n 0, 1) := by decide +kernel
theorem dX8_canWithoutEnd_24 : decode cX8_canWithoutEnd 24 = .ok (.invokevirtual 237, 3) := by decide +kernel
theorem dX8_canWithoutEnd_27 : decode cX8_canWithoutEnd 27 = .ok (.aload_n 0, 1) := by decide +kernel
theorem dX8_canWithoutEnd_28 : decode cX8_canWithoutEnd 28 = .ok (.sipush 4000, 3) := by decide +kernel
theorem dX8_canWithoutEnd_31 : decode cX8_canWithoutEnd 31 = .ok (.putfield 176, 3) := by decide +kernel
theorem dX8_canWithoutEnd_34 : decode cX8_canWithoutEnd 34 = .ok (.aload_n 0, 1) := by decide +kernel
theorem dX8_canWithoutEnd_35 : decode cX8_canWithoutEnd 35 = .ok (.iload_n 1, 1) := by decide +kernel
theorem dX8_canWithoutEnd_36 : decode cX8_canWithoutEnd 36 = .ok (.putfield 231, 3) := by decide +kernel
theorem dX8_canWithoutEnd_39 : decode cX8_canWithoutEnd 39 = .ok (.aload_n 0, 1) := by decide +kernel
theorem dX8_canWithoutEnd_40 : decode cX8_canWithoutEnd 40 = .ok (.getfield 179, 3) := by decide +kernel
theorem dX8_canWithoutEnd_43 : decode cX8_canWithoutEnd 43 = .ok (.ifCond .ge 7, 3) := by decide +kernel
theorem dX8_canWithoutEnd_46 : decode cX8_canWithoutEnd 46 = .ok (.iconst 1, 1) := by decide +kernel
theorem dX8_canWithoutEnd_47 : decode cX8_canWithoutEnd 47 = .ok (.goto 4, 3) := by decide +kernel
theorem dX8_canWithoutEnd_50 : decode cX8_canWithoutEnd 50 = .ok (.iconst 0, 1) := by decide +kernel
theorem dX8_canWithoutEnd_51 : decode cX8_canWithoutEnd 51 = .ok (.ireturn, 1) := by decide +kernel
theorem dX8_gust_0 : decode cX8_gust 0 = .ok (.iload_n 1, 1) := by decide +kernel
theorem dX8_gust_1 : decode cX8_gust 1 = .ok (.i2l, 1) := by decide +kernel
theorem dX8_gust_2 : decode cX8_gust 2 = .ok (.lconst 0, 1) := by decide +kernel
theorem dX8_gust_3 : decode cX8_gust 3 = .ok (.ldc2_w 302, 3) := by decide +kernel
theorem dX8_gust_6 : decode cX8_gust 6 = .ok (.invokestatic 83, 3) := by decide +kernel
theorem dX8_gust_9 : decode cX8_gust 9 = .ok (.ifCond .eq 23, 3) := by decide +kernel
theorem dX8_gust_12 : decode cX8_gust 12 = .ok (.iload_n 2, 1) := by decide +kernel
theorem dX8_gust_13 : decode cX8_gust 13 = .ok (.i2l, 1) := by decide +kernel
theorem dX8_gust_14 : decode cX8_gust 14 = .ok (.lconst 0, 1) := by decide +kernel
theorem dX8_gust_15 : decode cX8_gust 15 = .ok (.lconst 1, 1) := by decide +kernel
theorem dX8_gust_16 : decode cX8_gust 16 = .ok (.invokestatic 83, 3) := by decide +kernel
theorem dX8_gust_19 : decode cX8_gust 19 = .ok (.ifCond .eq 13, 3) := by decide +kernel
theorem dX8_gust_22 : decode cX8_gust 22 = .ok (.iload_n 3, 1) := by decide +kernel
theorem dX8_gust_23 : decode cX8_gust 23 = .ok (.i2l, 1) := by decide +kernel
theorem dX8_gust_24 : decode cX8_gust 24 = .ok (.lconst 0, 1) := by decide +kernel
theorem dX8_gust_25 : decode cX8_gust 25 = .ok (.lconst 1, 1) := by decide +kernel
theorem dX8_gust_26 : decode cX8_gust 26 = .ok (.invokestatic 83, 3) := by decide +kernel
theorem dX8_gust_29 : decode cX8_gust 29 = .ok (.ifCond .ne 7, 3) := by decide +kernel
theorem dX8_gust_32 : decode cX8_gust 32 = .ok (.ldc2_w 304, 3) := by decide +kernel
theorem dX8_gust_35 : decode cX8_gust 35 = .ok (.lreturn, 1) := by decide +kernel
theorem dX8_gust_36 : decode cX8_gust 36 = .ok (.aload_n 0, 1) := by decide +kernel
theorem dX8_gust_37 : decode cX8_gust 37 = .ok (.invokevirtual 219, 3) := by decide +kernel
theorem dX8_gust_40 : decode cX8_gust 40 = .ok (.ifCond .lt 7, 3) := by decide +kernel
theorem dX8_gust_43 : decode cX8_gust 43 = .ok (.ldc2_w 306, 3) := by decide +kernel
theorem dX8_gust_46 : decode cX8_gust 46 = .ok (.lreturn, 1) := by decide +kernel
theorem dX8_gust_47 : decode cX8_gust 47 = .ok (.aload_n 0, 1) := by decide +kernel
theorem dX8_gust_48 : decode cX8_gust 48 = .ok (.invokevirtual 222, 3) := by decide +kernel
theorem dX8_gust_51 : decode cX8_gust 51 = .ok (.aload_n 0, 1) := by decide +kernel
theorem dX8_gust_52 : decode cX8_gust 52 = .ok (.invokevirtual 308, 3) := by decide +kernel
theorem dX8_gust_55 : decode cX8_gust 55 = .ok (.ifCond .ne 7, 3) := by decide +kernel
theorem dX8_gust_58 : decode cX8_gust 58 = .ok (.ldc2_w 311, 3) := by decide +kernel
theorem dX8_gust_61 : decode cX8_gust 61 = .ok (.lreturn, 1) := by decide +kernel
theorem dX8_gust_62 : decode cX8_gust 62 = .ok (.aload_n 0, 1) := by decide +kernel
theorem dX8_gust_63 : decode cX8_gust 63 = .ok (.getfield 231, 3) := by decide +kernel
theorem dX8_gust_66 : decode cX8_gust 66 = .ok (.aload_n 0, 1) := by decide +kernel
theorem dX8_gust_67 : decode cX8_gust 67 = .ok (.getfield 101, 3) := by decide +kernel
theorem dX8_gust_70 : decode cX8_gust 70 = .ok (.isub, 1) := by decide +kernel
theorem dX8_gust_71 : decode cX8_gust 71 = .ok (.iconst 1, 1) := by decide +kernel
theorem dX8_gust_72 : decode cX8_gust 72 = .ok (.iadd, 1) := by decide +kernel
theorem dX8_gust_73 : decode cX8_gust 73 = .ok (.istore 4, 2) := by decide +kernel
theorem dX8_gust_75 : decode cX8_gust 75 = .ok (.iload 4, 2) := by decide +kernel
theorem dX8_gust_77 : decode cX8_gust 77 = .ok (.bipush 8, 2) := by decide +kernel
theorem dX8_gust_79 : decode cX8_gust 79 = .ok (.if_icmp .le 7, 3) := by decide +kernel
theorem dX8_gust_82 : decode cX8_gust 82 = .ok (.ldc2_w 313, 3) := by decide +kernel
theorem dX8_gust_85 : decode cX8_gust 85 = .ok (.lreturn, 1) := by decide +kernel
theorem dX8_gust_86 : decode cX8_gust 86 = .ok (.lconst 0, 1) := by decide +kernel
theorem dX8_gust_87 : decode cX8_gust 87 = .ok (.lstore 5, 2) := by decide +kernel
theorem dX8_gust_89 : decode cX8_gust 89 = .ok (.lconst 0, 1) := by decide +kernel
theorem dX8_gust_90 : decode cX8_gust 90 = .ok (.lstore 7, 2) := by decide +kernel
theorem dX8_gust_92 : decode cX8_gust 92 = .ok (.iconst 0, 1) := by decide +kernel
theorem dX8_gust_93 : decode cX8_gust 93 = .ok (.istore 9, 2) := by decide +kernel
theorem dX8_gust_95 : decode cX8_gust 95 = .ok (.iload 9, 2) := by decide +kernel
theorem dX8_gust_97 : decode cX8_gust 97 = .ok (.iconst 1, 1) := by decide +kernel
theorem dX8_gust_98 : decode cX8_gust 98 = .ok (.iload 4, 2) := by decide +kernel
theorem dX8_gust_100 : decode cX8_gust 100 = .ok (.ishl, 1) := by decide +kernel
theorem dX8_gust_101 : decode cX8_gust 101 = .ok (.if_icmp .ge 86, 3) := by decide +kernel
theorem dX8_gust_104 : decode cX8_gust 104 = .ok (.lconst 1, 1) := by decide +kernel
theorem dX8_gust_105 : decode cX8_gust 105 = .ok (.lstore 10, 2) := by decide +kernel
theorem dX8_gust_107 : decode cX8_gust 107 = .ok (.iconst 0, 1) := by decide +kernel
theorem dX8_gust_108 : decode cX8_gust 108 = .ok (.istore 12, 2) := by decide +kernel
theorem dX8_gust_110 : decode cX8_gust 110 = .ok (.iload 12, 2) := by decide +kernel
theorem dX8_gust_112 : decode cX8_gust 112 = .ok (.iload 4, 2) := by decide +kernel
theorem dX8_gust_114 : decode cX8_gust 114 = .ok (.if_icmp .ge 35, 3) := by decide +kernel
theorem dX8_gust_117 : decode cX8_gust 117 = .ok (.lload 10, 2) := by decide +kernel
theorem dX8_gust_119 : decode cX8_gust 119 = .ok (.iload 9, 2) := by decide +kernel
theorem dX8_gust_121 : decode cX8_gust 121 = .ok (.iload 12, 2) := by decide +kernel
theorem dX8_gust_123 : decode cX8_gust 123 = .ok (.ishr, 1) := by decide +kernel
theorem dX8_gust_124 : decode cX8_gust 124 = .ok (.iconst 1, 1) := by decide +kernel
theorem dX8_gust_125 : decode cX8_gust 125 = .ok (.iand, 1) := by decide +kernel
theorem dX8_gust_126 : decode cX8_gust 126 = .ok (.iconst 1, 1) := by decide +kernel
theorem dX8_gust_127 : decode cX8_gust 127 = .ok (.if_icmp .ne 8, 3) := by decide +kernel
theorem dX8_gust_130 : decode cX8_gust 130 = .ok (.iload_n 1, 1) := by decide +kernel
theorem dX8_gust_131 : decode cX8_gust 131 = .ok (.i2l, 1) := by decide +kernel
theorem dX8_gust_132 : decode cX8_gust 132 = .ok (.goto 8, 3) := by decide +kernel
theorem dX8_gust_135 : decode cX8_gust 135 = .ok (.bipush 10, 2) := by decide +kernel
theorem dX8_gust_137 : decode cX8_gust 137 = .ok (.iload_n 1, 1) := by decide +kernel
theorem dX8_gust_138 : decode cX8_gust 138 = .ok (.isub, 1) := by decide +kernel
theorem dX8_gust_139 : decode cX8_gust 139 = .ok (.i2l, 1) := by decide +kernel
theorem dX8_gust_140 : decode cX8_gust 140 = .ok (.lmul, 1) := by decide +kernel
theorem dX8_gust_141 : decode cX8_gust 141 = .ok (.lstore 10, 2) := by decide +kernel
theorem dX8_gust_143 : decode cX8_gust 143 = .ok (.iinc 12 1, 3) := by decide +kernel
theorem dX8_gust_146 : decode cX8_gust 146 = .ok (.goto (-36), 3) := by decide +kernel
theorem dX8_gust_149 : decode cX8_gust 149 = .ok (.aload_n 0, 1) := by decide +kernel
theorem dX8_gust_150 : decode cX8_gust 150 = .ok (.iload 9, 2) := by decide +kernel
theorem dX8_gust_152 : decode cX8_gust 152 = .ok (.aload_n 0, 1) := by decide +kernel
theorem dX8_gust_153 : decode cX8_gust 153 = .ok (.getfield 101, 3) := by decide +kernel
theorem dX8_gust_156 : decode cX8_gust 156 = .ok (.ishl, 1) := by decide +kernel
theorem dX8_gust_157 : decode cX8_gust 157 = .ok (.putfield 153, 3) := by decide +kernel
theorem dX8_gust_160 : decode cX8_gust 160 = .ok (.lload 7, 2) := by decide +kernel
theorem dX8_gust_162 : decode cX8_gust 162 = .ok (.lload 10, 2) := by decide +kernel
theorem dX8_gust_164 : decode cX8_gust 164 = .ok (.ladd, 1) := by decide +kernel
theorem dX8_gust_165 : decode cX8_gust 165 = .ok (.lstore 7, 2) := by decide +kernel
theorem dX8_gust_167 : decode cX8_gust 167 = .ok (.lload 5, 2) := by decide +kernel
theorem dX8_gust_169 : decode cX8_gust 169 = .ok (.lload 10, 2) := by decide +kernel
theorem dX8_gust_171 : decode cX8_gust 171 = .ok (.aload_n 0, 1) := by decide +kernel
theorem dX8_gust_172 : decode cX8_gust 172 = .ok (.iload_n 2, 1) := by decide +kernel
theorem dX8_gust_173 : decode cX8_gust 173 = .ok (.invokevirtual 315, 3) := by decide +kernel
theorem dX8_gust_176 : decode cX8_gust 176 = .ok (.i2l, 1) := by decide +kernel
theorem dX8_gust_177 : decode cX8_gust 177 = .ok (.lmul, 1) := by decide +kernel
theorem dX8_gust_178 : decode cX8_gust 178 = .ok (.ladd, 1) := by decide +kernel
theorem dX8_gust_179 : decode cX8_gust 179 = .ok (.lstore 5, 2) := by decide +kernel
theorem dX8_gust_181 : decode cX8_gust 181 = .ok (.iinc 9 1, 3) := by decide +kernel
theorem dX8_gust_184 : decode cX8_gust 184 = .ok (.goto (-89), 3) := by decide +kernel
theorem dX8_gust_187 : decode cX8_gust 187 = .ok (.aload_n 0, 1) := by decide +kernel
theorem dX8_gust_188 : decode cX8_gust 188 = .ok (.iconst 0, 1) := by decide +kernel
theorem dX8_gust_189 : decode cX8_gust 189 = .ok (.putfield 153, 3) := by decide +kernel
theorem dX8_gust_192 : decode cX8_gust 192 = .ok (.lload 5, 2) := by decide +kernel
theorem dX8_gust_194 : decode cX8_gust 194 = .ok (.lload 7, 2) := by decide +kernel
theorem dX8_gust_196 : decode cX8_gust 196 = .ok (.iload_n 3, 1) := by decide +kernel
theorem dX8_gust_197 : decode cX8_gust 197 = .ok (.invokestatic 318, 3) := by decide +kernel
theorem dX8_gust_200 : decode cX8_gust 200 = .ok (.lreturn, 1) := by decide +kernel
theorem dX8_worthOfGusts_0 : decode cX8_worthOfGusts 0 = .ok (.iload_n 1, 1) := by decide +kernel
theorem dX8_worthOfGusts_1 : decode cX8_worthOfGusts 1 = .ok (.iconst 1, 1) := by decide +kernel
theorem dX8_worthOfGusts_2 : decode cX8_worthOfGusts 2 = .ok (.if_icmp .ne 13, 3) := by decide +kernel
theorem dX8_worthOfGusts_5 : decode cX8_worthOfGusts 5 = .ok (.aload_n 0, 1) := by decide +kernel
theorem dX8_worthOfGusts_6 : decode cX8_worthOfGusts 6 = .ok (.invokevirtual 308, 3) := by decide +kernel
theorem dX8_worthOfGusts_9 : decode cX8_worthOfGusts 9 = .ok (.pop, 1) := by decide +kernel
theorem dX8_worthOfGusts_10 : decode cX8_worthOfGusts 10 = .ok (.aload_n 0, 1) := by decide +kernel
theorem dX8_worthOfGusts_11 : decode cX8_worthOfGusts 11 = .ok (.getfield 185, 3) := by decide +kernel
theorem dX8_worthOfGusts_14 : decode cX8_worthOfGusts 14 = .ok (.ireturn, 1) := by decide +kernel
theorem dX8_worthOfGusts_15 : decode cX8_worthOfGusts 15 = .ok (.aload_n 0, 1) := by decide +kernel
theorem dX8_worthOfGusts_16 : decode cX8_worthOfGusts 16 = .ok (.invokevirtual 225, 3) := by decide +kernel
theorem dX8_worthOfGusts_19 : decode cX8_worthOfGusts 19 = .ok (.aload_n 0, 1) := by decide +kernel
theorem dX8_worthOfGusts_20 : decode cX8_worthOfGusts 20 = .ok (.invokevirtual 237, 3) := by decide +kernel
theorem dX8_worthOfGusts_23 : decode cX8_worthOfGusts 23 = .ok (.aload_n 0, 1) := by decide +kernel
theorem dX8_worthOfGusts_24 : decode cX8_worthOfGusts 24 = .ok (.getfield 179, 3) := by decide +kernel
theorem dX8_worthOfGusts_27 : decode cX8_worthOfGusts 27 = .ok (.ifCond .ge 7, 3) := by decide +kernel
theorem dX8_worthOfGusts_30 : decode cX8_worthOfGusts 30 = .ok (.iconst 1, 1) := by decide +kernel
theorem dX8_worthOfGusts_31 : decode cX8_worthOfGusts 31 = .ok (.goto 4, 3) := by decide +kernel
theorem dX8_worthOfGusts_34 : decode cX8_worthOfGusts 34 = .ok (.iconst 0, 1) := by decide +kernel
theorem dX8_worthOfGusts_35 : decode cX8_worthOfGusts 35 = .ok (.ireturn, 1) := by decide +kernel
theorem dX8_shares_0 : decode cX8_shares 0 = .ok (.aload_n 0, 1) := by decide +kernel
theorem dX8_shares_1 : decode cX8_shares 1 = .ok (.iload_n 1, 1) := by decide +kernel
theorem dX8_shares_2 : decode cX8_shares 2 = .ok (.invokevirtual 163, 3) := by decide +kernel
theorem dX8_shares_5 : decode cX8_shares 5 = .ok (.ifCond .eq 15, 3) := by decide +kernel
theorem dX8_shares_8 : decode cX8_shares 8 = .ok (.iload_n 3, 1) := by decide +kernel
theorem dX8_shares_9 : decode cX8_shares 9 = .ok (.i2l, 1) := by decide +kernel
theorem dX8_shares_10 : decode cX8_shares 10 = .ok (.lconst 0, 1) := by decide +kernel
theorem dX8_shares_11 : decode cX8_shares 11 = .ok (.ldc2_w 240, 3) := by decide +kernel
theorem dX8_shares_14 : decode cX8_shares 14 = .ok (.invokestatic 83, 3) := by decide +kernel
theorem dX8_shares_17 : decode cX8_shares 17 = .ok (.ifCond .ne 5, 3) := by decide +kernel
theorem dX8_shares_20 : decode cX8_shares 20 = .ok (.iconst (-1), 1) := by decide +kernel
theorem dX8_shares_21 : decode cX8_shares 21 = .ok (.ireturn, 1) := by decide +kernel
theorem dX8_shares_22 : decode cX8_shares 22 = .ok (.iload_n 2, 1) := by decide +kernel
theorem dX8_shares_23 : decode cX8_shares 23 = .ok (.i2l, 1) := by decide +kernel
theorem dX8_shares_24 : decode cX8_shares 24 = .ok (.lconst 0, 1) := by decide +kernel
theorem dX8_shares_25 : decode cX8_shares 25 = .ok (.ldc2_w 322, 3) := by decide +kernel
theorem dX8_shares_28 : decode cX8_shares 28 = .ok (.invokestatic 83, 3) := by decide +kernel
theorem dX8_shares_31 : decode cX8_shares 31 = .ok (.ifCond .ne 6, 3) := by decide +kernel
theorem dX8_shares_34 : decode cX8_shares 34 = .ok (.bipush (-2), 2) := by decide +kernel
theorem dX8_shares_36 : decode cX8_shares 36 = .ok (.ireturn, 1) := by decide +kernel
theorem dX8_shares_37 : decode cX8_shares 37 = .ok (.iload_n 2, 1) := by decide +kernel
theorem dX8_shares_38 : decode cX8_shares 38 = .ok (.istore 4, 2) := by decide +kernel
theorem dX8_shares_40 : decode cX8_shares 40 = .ok (.iconst 3, 1) := by decide +kernel
theorem dX8_shares_41 : decode cX8_shares 41 = .ok (.istore 5, 2) := by decide +kernel
theorem dX8_shares_43 : decode cX8_shares 43 = .ok (.iload 5, 2) := by decide +kernel
theorem dX8_shares_45 : decode cX8_shares 45 = .ok (.ifCond .lt 28, 3) := by decide +kernel
theorem dX8_shares_48 : decode cX8_shares 48 = .ok (.aload_n 0, 1) := by decide +kernel
theorem dX8_shares_49 : decode cX8_shares 49 = .ok (.getfield 67, 3) := by decide +kernel
theorem dX8_shares_52 : decode cX8_shares 52 = .ok (.iload 5, 2) := by decide +kernel
theorem dX8_shares_54 : decode cX8_shares 54 = .ok (.iload 4, 2) := by decide +kernel
theorem dX8_shares_56 : decode cX8_shares 56 = .ok (.bipush 100, 2) := by decide +kernel
theorem dX8_shares_58 : decode cX8_shares 58 = .ok (.irem, 1) := by decide +kernel
theorem dX8_shares_59 : decode cX8_shares 59 = .ok (.iastore, 1) := by decide +kernel
theorem dX8_shares_60 : decode cX8_shares 60 = .ok (.iload 4, 2) := by decide +kernel
theorem dX8_shares_62 : decode cX8_shares 62 = .ok (.bipush 100, 2) := by decide +kernel
theorem dX8_shares_64 : decode cX8_shares 64 = .ok (.idiv, 1) := by decide +kernel
theorem dX8_shares_65 : decode cX8_shares 65 = .ok (.istore 4, 2) := by decide +kernel
theorem dX8_shares_67 : decode cX8_shares 67 = .ok (.iinc 5 (-1), 3) := by decide +kernel
theorem dX8_shares_70 : decode cX8_shares 70 = .ok (.goto (-27), 3) := by decide +kernel
theorem dX8_shares_73 : decode cX8_shares 73 = .ok (.iconst 0, 1) := by decide +kernel
theorem dX8_shares_74 : decode cX8_shares 74 = .ok (.istore 5, 2) := by decide +kernel
theorem dX8_shares_76 : decode cX8_shares 76 = .ok (.aload_n 0, 1) := by decide +kernel
theorem dX8_shares_77 : decode cX8_shares 77 = .ok (.getfield 77, 3) := by decide +kernel
theorem dX8_shares_80 : decode cX8_shares 80 = .ok (.aload_n 0, 1) := by decide +kernel
theorem dX8_shares_81 : decode cX8_shares 81 = .ok (.iload_n 1, 1) := by decide +kernel
theorem dX8_shares_82 : decode cX8_shares 82 = .ok (.aload_n 0, 1) := by decide +kernel
theorem dX8_shares_83 : decode cX8_shares 83 = .ok (.getfield 7, 3) := by decide +kernel
theorem dX8_shares_86 : decode cX8_shares 86 = .ok (.aload_n 0, 1) := by decide +kernel
theorem dX8_shares_87 : decode cX8_shares 87 = .ok (.getfield 101, 3) := by decide +kernel
theorem dX8_shares_90 : decode cX8_shares 90 = .ok (.iaload, 1) := by decide +kernel
theorem dX8_shares_91 : decode cX8_shares 91 = .ok (.iconst 0, 1) := by decide +kernel
theorem dX8_shares_92 : decode cX8_shares 92 = .ok (.invokevirtual 159, 3) := by decide +kernel
theorem dX8_shares_95 : decode cX8_shares 95 = .ok (.idiv, 1) := by decide +kernel
theorem dX8_shares_96 : decode cX8_shares 96 = .ok (.istore 6, 2) := by decide +kernel
theorem dX8_shares_98 : decode cX8_shares 98 = .ok (.iload 6, 2) := by decide +kernel
theorem dX8_shares_100 : decode cX8_shares 100 = .ok (.ifCond .le 80, 3) := by decide +kernel
theorem dX8_shares_103 : decode cX8_shares 103 = .ok (.iconst 0, 1) := by decide +kernel
theorem dX8_shares_104 : decode cX8_shares 104 = .ok (.istore 7, 2) := by decide +kernel
theorem dX8_shares_106 : decode cX8_shares 106 = .ok (.iconst 1, 1) := by decide +kernel
theorem dX8_shares_107 : decode cX8_shares 107 = .ok (.istore 8, 2) := by decide +kernel
theorem dX8_shares_109 : decode cX8_shares 109 = .ok (.iload 8, 2) := by decide +kernel
theorem dX8_shares_111 : decode cX8_shares 111 = .ok (.iconst 4, 1) := by decide +kernel
theorem dX8_shares_112 : decode cX8_shares 112 = .ok (.if_icmp .ge 35, 3) := by decide +kernel
theorem dX8_shares_115 : decode cX8_shares 115 = .ok (.aload_n 0, 1) := by decide +kernel
theorem dX8_shares_116 : decode cX8_shares 116 = .ok (.getfield 67, 3) := by decide +kernel
theorem dX8_shares_119 : decode cX8_shares 119 = .ok (.iload 8, 2) := by decide +kernel
theorem dX8_shares_121 : decode cX8_shares 121 = .ok (.iaload, 1) := by decide +kernel
theorem dX8_shares_122 : decode cX8_shares 122 = .ok (.aload_n 0, 1) := by decide +kernel
theorem dX8_shares_123 : decode cX8_shares 123 = .ok (.getfield 67, 3) := by decide +kernel
theorem dX8_shares_126 : decode cX8_shares 126 = .ok (.iload 7, 2) := by decide +kernel
theorem dX8_shares_128 : decode cX8_shares 128 = .ok (.iaload, 1) := by decide +kernel
theorem dX8_shares_129 : decode cX8_shares 129 = .ok (.if_icmp .ge 8, 3) := by decide +kernel
theorem dX8_shares_132 : decode cX8_shares 132 = .ok (.iload 8, 2) := by decide +kernel
theorem dX8_shares_134 : decode cX8_shares 134 = .ok (.goto 5, 3) := by decide +kernel
theorem dX8_shares_137 : decode cX8_shares 137 = .ok (.iload 7, 2) := by decide +kernel
theorem dX8_shares_139 : decode cX8_shares 139 = .ok (.istore 7, 2) := by decide +kernel
theorem dX8_shares_141 : decode cX8_shares 141 = .ok (.iinc 8 1, 3) := by decide +kernel
theorem dX8_shares_144 : decode cX8_shares 144 = .ok (.goto (-35), 3) := by decide +kernel
theorem dX8_shares_147 : decode cX8_shares 147 = .ok (.aload_n 0, 1) := by decide +kernel
theorem dX8_shares_148 : decode cX8_shares 148 = .ok (.getfield 67, 3) := by decide +kernel
theorem dX8_shares_151 : decode cX8_shares 151 = .ok (.iload 7, 2) := by decide +kernel
theorem dX8_shares_153 : decode cX8_shares 153 = .ok (.dup2, 1) := by decide +kernel
theorem dX8_shares_154 : decode cX8_shares 154 = .ok (.iaload, 1) := by decide +kernel
theorem dX8_shares_155 : decode cX8_shares 155 = .ok (.iconst 1, 1) := by decide +kernel
theorem dX8_shares_156 : decode cX8_shares 156 = .ok (.iadd, 1) := by decide +kernel
theorem dX8_shares_157 : decode cX8_shares 157 = .ok (.iastore, 1) := by decide +kernel
theorem dX8_shares_158 : decode cX8_shares 158 = .ok (.iload 5, 2) := by decide +kernel
theorem dX8_shares_160 : decode cX8_shares 160 = .ok (.iload 7, 2) := by decide +kernel
theorem dX8_shares_162 : decode cX8_shares 162 = .ok (.iload_n 3, 1) := by decide +kernel
theorem dX8_shares_163 : decode cX8_shares 163 = .ok (.if_icmp .ne 7, 3) := by decide +kernel
theorem dX8_shares_166 : decode cX8_shares 166 = .ok (.iconst 1, 1) := by decide +kernel
theorem dX8_shares_167 : decode cX8_shares 167 = .ok (.goto 4, 3) := by decide +kernel
theorem dX8_shares_170 : decode cX8_shares 170 = .ok (.iconst 0, 1) := by decide +kernel
theorem dX8_shares_171 : decode cX8_shares 171 = .ok (.iadd, 1) := by decide +kernel
theorem dX8_shares_172 : decode cX8_shares 172 = .ok (.istore 5, 2) := by decide +kernel
theorem dX8_shares_174 : decode cX8_shares 174 = .ok (.iinc 6 (-1), 3) := by decide +kernel
theorem dX8_shares_177 : decode cX8_shares 177 = .ok (.goto (-79), 3) := by decide +kernel
theorem dX8_shares_180 : decode cX8_shares 180 = .ok (.iload 5, 2) := by decide +kernel
theorem dX8_shares_182 : decode cX8_shares 182 = .ok (.ireturn, 1) := by decide +kernel
theorem dX8_week_0 : decode cX8_week 0 = .ok (.iload_n 1, 1) := by decide +kernel
theorem dX8_week_1 : decode cX8_week 1 = .ok (.i2l, 1) := by decide +kernel
theorem dX8_week_2 : decode cX8_week 2 = .ok (.lconst 0, 1) := by decide +kernel
theorem dX8_week_3 : decode cX8_week 3 = .ok (.ldc2_w 324, 3) := by decide +kernel
theorem dX8_week_6 : decode cX8_week 6 = .ok (.invokestatic 83, 3) := by decide +kernel
theorem dX8_week_9 : decode cX8_week 9 = .ok (.ifCond .eq 27, 3) := by decide +kernel
theorem dX8_week_12 : decode cX8_week 12 = .ok (.iload_n 2, 1) := by decide +kernel
theorem dX8_week_13 : decode cX8_week 13 = .ok (.i2l, 1) := by decide +kernel
theorem dX8_week_14 : decode cX8_week 14 = .ok (.lconst 1, 1) := by decide +kernel
theorem dX8_week_15 : decode cX8_week 15 = .ok (.ldc2_w 326, 3) := by decide +kernel
theorem dX8_week_18 : decode cX8_week 18 = .ok (.invokestatic 83, 3) := by decide +kernel
theorem dX8_week_21 : decode cX8_week 21 = .ok (.ifCond .eq 15, 3) := by decide +kernel
theorem dX8_week_24 : decode cX8_week 24 = .ok (.iload_n 3, 1) := by decide +kernel
theorem dX8_week_25 : decode cX8_week 25 = .ok (.i2l, 1) := by decide +kernel
theorem dX8_week_26 : decode cX8_week 26 = .ok (.lconst 0, 1) := by decide +kernel
theorem dX8_week_27 : decode cX8_week 27 = .ok (.ldc2_w 245, 3) := by decide +kernel
theorem dX8_week_30 : decode cX8_week 30 = .ok (.invokestatic 83, 3) := by decide +kernel
theorem dX8_week_33 : decode cX8_week 33 = .ok (.ifCond .ne 6, 3) := by decide +kernel
theorem dX8_week_36 : decode cX8_week 36 = .ok (.bipush (-2), 2) := by decide +kernel
theorem dX8_week_38 : decode cX8_week 38 = .ok (.ireturn, 1) := by decide +kernel
theorem dX8_week_39 : decode cX8_week 39 = .ok (.iload_n 1, 1) := by decide +kernel
theorem dX8_week_40 : decode cX8_week 40 = .ok (.istore 4, 2) := by decide +kernel
theorem dX8_week_42 : decode cX8_week 42 = .ok (.aload_n 0, 1) := by decide +kernel
theorem dX8_week_43 : decode cX8_week 43 = .ok (.getfield 77, 3) := by decide +kernel
theorem dX8_week_46 : decode cX8_week 46 = .ok (.istore 5, 2) := by decide +kernel
theorem dX8_week_48 : decode cX8_week 48 = .ok (.iconst 0, 1) := by decide +kernel
theorem dX8_week_49 : decode cX8_week 49 = .ok (.istore 6, 2) := by decide +kernel
theorem dX8_week_51 : decode cX8_week 51 = .ok (.iconst 0, 1) := by decide +kernel
theorem dX8_week_52 : decode cX8_week 52 = .ok (.istore 7, 2) := by decide +kernel
theorem dX8_week_54 : decode cX8_week 54 = .ok (.iconst 0, 1) := by decide +kernel
theorem dX8_week_55 : decode cX8_week 55 = .ok (.istore 8, 2) := by decide +kernel
theorem dX8_week_57 : decode cX8_week 57 = .ok (.iload 8, 2) := by decide +kernel
theorem dX8_week_59 : decode cX8_week 59 = .ok (.iconst 2, 1) := by decide +kernel
theorem dX8_week_60 : decode cX8_week 60 = .ok (.iload_n 2, 1) := by decide +kernel
theorem dX8_week_61 : decode cX8_week 61 = .ok (.imul, 1) := by decide +kernel
theorem dX8_week_62 : decode cX8_week 62 = .ok (.if_icmp .ge 137, 3) := by decide +kernel
theorem dX8_week_65 : decode cX8_week 65 = .ok (.ldc2_w 328, 3) := by decide +kernel
theorem dX8_week_68 : decode cX8_week 68 = .ok (.iload 4, 2) := by decide +kernel
theorem dX8_week_70 : decode cX8_week 70 = .ok (.i2l, 1) := by decide +kernel
theorem dX8_week_71 : decode cX8_week 71 = .ok (.lmul, 1) := by decide +kernel
theorem dX8_week_72 : decode cX8_week 72 = .ok (.ldc2_w 330, 3) := by decide +kernel
theorem dX8_week_75 : decode cX8_week 75 = .ok (.ladd, 1) := by decide +kernel
theorem dX8_week_76 : decode cX8_week 76 = .ok (.ldc2_w 332, 3) := by decide +kernel
theorem dX8_week_79 : decode cX8_week 79 = .ok (.lrem, 1) := by decide +kernel
theorem dX8_week_80 : decode cX8_week 80 = .ok (.l2i, 1) := by decide +kernel
theorem dX8_week_81 : decode cX8_week 81 = .ok (.istore 4, 2) := by decide +kernel
theorem dX8_week_83 : decode cX8_week 83 = .ok (.iload 4, 2) := by decide +kernel
theorem dX8_week_85 : decode cX8_week 85 = .ok (.bipush 6, 2) := by decide +kernel
theorem dX8_week_87 : decode cX8_week 87 = .ok (.irem, 1) := by decide +kernel
theorem dX8_week_88 : decode cX8_week 88 = .ok (.istore 9, 2) := by decide +kernel
theorem dX8_week_90 : decode cX8_week 90 = .ok (.aload_n 0, 1) := by decide +kernel
theorem dX8_week_91 : decode cX8_week 91 = .ok (.iload 9, 2) := by decide +kernel
theorem dX8_week_93 : decode cX8_week 93 = .ok (.invokevirtual 163, 3) := by decide +kernel
theorem dX8_week_96 : decode cX8_week 96 = .ok (.ifCond .eq 97, 3) := by decide +kernel
theorem dX8_week_99 : decode cX8_week 99 = .ok (.aload_n 0, 1) := by decide +kernel
theorem dX8_week_100 : decode cX8_week 100 = .ok (.iload 9, 2) := by decide +kernel
theorem dX8_week_102 : decode cX8_week 102 = .ok (.invokevirtual 266, 3) := by decide +kernel
theorem dX8_week_105 : decode cX8_week 105 = .ok (.ifCond .eq 88, 3) := by decide +kernel
theorem dX8_week_108 : decode cX8_week 108 = .ok (.aload_n 0, 1) := by decide +kernel
theorem dX8_week_109 : decode cX8_week 109 = .ok (.iload 9, 2) := by decide +kernel
theorem dX8_week_111 : decode cX8_week 111 = .ok (.iconst 0, 1) := by decide +kernel
theorem dX8_week_112 : decode cX8_week 112 = .ok (.iload 4, 2) := by decide +kernel
theorem dX8_week_114 : decode cX8_week 114 = .ok (.bipush 6, 2) := by decide +kernel
theorem dX8_week_116 : decode cX8_week 116 = .ok (.idiv, 1) := by decide +kernel
theorem dX8_week_117 : decode cX8_week 117 = .ok (.iconst 2, 1) := by decide +kernel
theorem dX8_week_118 : decode cX8_week 118 = .ok (.irem, 1) := by decide +kernel
theorem dX8_week_119 : decode cX8_week 119 = .ok (.iconst 1, 1) := by decide +kernel
theorem dX8_week_120 : decode cX8_week 120 = .ok (.if_icmp .ne 7, 3) := by decide +kernel
theorem dX8_week_123 : decode cX8_week 123 = .ok (.iconst 1, 1) := by decide +kernel
theorem dX8_week_124 : decode cX8_week 124 = .ok (.goto 4, 3) := by decide +kernel
theorem dX8_week_127 : decode cX8_week 127 = .ok (.iconst 0, 1) := by decide +kernel
theorem dX8_week_128 : decode cX8_week 128 = .ok (.invokevirtual 159, 3) := by decide +kernel
theorem dX8_week_131 : decode cX8_week 131 = .ok (.istore 10, 2) := by decide +kernel
theorem dX8_week_133 : decode cX8_week 133 = .ok (.iload 10, 2) := by decide +kernel
theorem dX8_week_135 : decode cX8_week 135 = .ok (.iload 5, 2) := by decide +kernel
theorem dX8_week_137 : decode cX8_week 137 = .ok (.if_icmp .gt 7, 3) := by decide +kernel
theorem dX8_week_140 : decode cX8_week 140 = .ok (.iconst 1, 1) := by decide +kernel
theorem dX8_week_141 : decode cX8_week 141 = .ok (.goto 4, 3) := by decide +kernel
theorem dX8_week_144 : decode cX8_week 144 = .ok (.iconst 0, 1) := by decide +kernel
theorem dX8_week_145 : decode cX8_week 145 = .ok (.istore 11, 2) := by decide +kernel
theorem dX8_week_147 : decode cX8_week 147 = .ok (.iload 5, 2) := by decide +kernel
theorem dX8_week_149 : decode cX8_week 149 = .ok (.iload 11, 2) := by decide +kernel
theorem dX8_week_151 : decode cX8_week 151 = .ok (.ifCond .eq 8, 3) := by decide +kernel
theorem dX8_week_154 : decode cX8_week 154 = .ok (.iload 10, 2) := by decide +kernel
theorem dX8_week_156 : decode cX8_week 156 = .ok (.goto 4, 3) := by decide +kernel
theorem dX8_week_159 : decode cX8_week 159 = .ok (.iconst 0, 1) := by decide +kernel
theorem dX8_week_160 : decode cX8_week 160 = .ok (.isub, 1) := by decide +kernel
theorem dX8_week_161 : decode cX8_week 161 = .ok (.istore 5, 2) := by decide +kernel
theorem dX8_week_163 : decode cX8_week 163 = .ok (.iload 6, 2) := by decide +kernel
theorem dX8_week_165 : decode cX8_week 165 = .ok (.iload 11, 2) := by decide +kernel
theorem dX8_week_167 : decode cX8_week 167 = .ok (.ifCond .eq 7, 3) := by decide +kernel
theorem dX8_week_170 : decode cX8_week 170 = .ok (.iconst 1, 1) := by decide +kernel
theorem dX8_week_171 : decode cX8_week 171 = .ok (.goto 4, 3) := by decide +kernel
theorem dX8_week_174 : decode cX8_week 174 = .ok (.iconst 0, 1) := by decide +kernel
theorem dX8_week_175 : decode cX8_week 175 = .ok (.iadd, 1) := by decide +kernel
theorem dX8_week_176 : decode cX8_week 176 = .ok (.istore 6, 2) := by decide +kernel
theorem dX8_week_178 : decode cX8_week 178 = .ok (.iload 7, 2) := by decide +kernel
theorem dX8_week_180 : decode cX8_week 180 = .ok (.iload 11, 2) := by decide +kernel
theorem dX8_week_182 : decode cX8_week 182 = .ok (.ifCond .eq 7, 3) := by decide +kernel
theorem dX8_week_185 : decode cX8_week 185 = .ok (.iconst 0, 1) := by decide +kernel
theorem dX8_week_186 : decode cX8_week 186 = .ok (.goto 4, 3) := by decide +kernel
theorem dX8_week_189 : decode cX8_week 189 = .ok (.iconst 1, 1) := by decide +kernel
theorem dX8_week_190 : decode cX8_week 190 = .ok (.iadd, 1) := by decide +kernel
theorem dX8_week_191 : decode cX8_week 191 = .ok (.istore 7, 2) := by decide +kernel
theorem dX8_week_193 : decode cX8_week 193 = .ok (.iinc 8 1, 3) := by decide +kernel
theorem dX8_week_196 : decode cX8_week 196 = .ok (.goto (-139), 3) := by decide +kernel
theorem dX8_week_199 : decode cX8_week 199 = .ok (.iload_n 3, 1) := by decide +kernel
theorem dX8_week_200 : decode cX8_week 200 = .ok (.ifCond .ne 8, 3) := by decide +kernel
theorem dX8_week_203 : decode cX8_week 203 = .ok (.iload 5, 2) := by decide +kernel
theorem dX8_week_205 : decode cX8_week 205 = .ok (.goto 15, 3) := by decide +kernel
theorem dX8_week_208 : decode cX8_week 208 = .ok (.iload_n 3, 1) := by decide +kernel
theorem dX8_week_209 : decode cX8_week 209 = .ok (.iconst 1, 1) := by decide +kernel
theorem dX8_week_210 : decode cX8_week 210 = .ok (.if_icmp .ne 8, 3) := by decide +kernel
theorem dX8_week_213 : decode cX8_week 213 = .ok (.iload 6, 2) := by decide +kernel
theorem dX8_week_215 : decode cX8_week 215 = .ok (.goto 5, 3) := by decide +kernel
theorem dX8_week_218 : decode cX8_week 218 = .ok (.iload 7, 2) := by decide +kernel
theorem dX8_week_220 : decode cX8_week 220 = .ok (.ireturn, 1) := by decide +kernel
theorem dX8_pass_0 : decode cX8_pass 0 = .ok (.aload_n 0, 1) := by decide +kernel
theorem dX8_pass_1 : decode cX8_pass 1 = .ok (.getfield 334, 3) := by decide +kernel
theorem dX8_pass_4 : decode cX8_pass 4 = .ok (.ifCond .eq 7, 3) := by decide +kernel
theorem dX8_pass_7 : decode cX8_pass 7 = .ok (.iload_n 1, 1) := by decide +kernel
theorem dX8_pass_8 : decode cX8_pass 8 = .ok (.goto 12, 3) := by decide +kernel
theorem dX8_pass_11 : decode cX8_pass 11 = .ok (.aload_n 0, 1) := by decide +kernel
theorem dX8_pass_12 : decode cX8_pass 12 = .ok (.getfield 70, 3) := by decide +kernel
theorem dX8_pass_15 : decode cX8_pass 15 = .ok (.aload_n 0, 1) := by decide +kernel
theorem dX8_pass_16 : decode cX8_pass 16 = .ok (.getfield 338, 3) := by decide +kernel
theorem dX8_pass_19 : decode cX8_pass 19 = .ok (.iaload, 1) := by decide +kernel
theorem dX8_pass_20 : decode cX8_pass 20 = .ok (.istore_n 2, 1) := by decide +kernel
theorem dX8_pass_21 : decode cX8_pass 21 = .ok (.aload_n 0, 1) := by decide +kernel
theorem dX8_pass_22 : decode cX8_pass 22 = .ok (.getfield 70, 3) := by decide +kernel
theorem dX8_pass_25 : decode cX8_pass 25 = .ok (.aload_n 0, 1) := by decide +kernel
theorem dX8_pass_26 : decode cX8_pass 26 = .ok (.getfield 338, 3) := by decide +kernel
theorem dX8_pass_29 : decode cX8_pass 29 = .ok (.iload_n 2, 1) := by decide +kernel
theorem dX8_pass_30 : decode cX8_pass 30 = .ok (.iastore, 1) := by decide +kernel
theorem dX8_pass_31 : decode cX8_pass 31 = .ok (.aload_n 0, 1) := by decide +kernel
theorem dX8_pass_32 : decode cX8_pass 32 = .ok (.dup, 1) := by decide +kernel
theorem dX8_pass_33 : decode cX8_pass 33 = .ok (.getfield 338, 3) := by decide +kernel
theorem dX8_pass_36 : decode cX8_pass 36 = .ok (.iconst 1, 1) := by decide +kernel
theorem dX8_pass_37 : decode cX8_pass 37 = .ok (.iadd, 1) := by decide +kernel
theorem dX8_pass_38 : decode cX8_pass 38 = .ok (.putfield 338, 3) := by decide +kernel
theorem dX8_pass_41 : decode cX8_pass 41 = .ok (.iload_n 2, 1) := by decide +kernel
theorem dX8_pass_42 : decode cX8_pass 42 = .ok (.ireturn, 1) := by decide +kernel
theorem dX8_passAll_0 : decode cX8_passAll 0 = .ok (.aload_n 0, 1) := by decide +kernel
theorem dX8_passAll_1 : decode cX8_passAll 1 = .ok (.aload_n 0, 1) := by decide +kernel
theorem dX8_passAll_2 : decode cX8_passAll 2 = .ok (.aload_n 0, 1) := by decide +kernel
theorem dX8_passAll_3 : decode cX8_passAll 3 = .ok (.getfield 77, 3) := by decide +kernel
theorem dX8_passAll_6 : decode cX8_passAll 6 = .ok (.invokevirtual 341, 3) := by decide +kernel
theorem dX8_passAll_9 : decode cX8_passAll 9 = .ok (.putfield 77, 3) := by decide +kernel
theorem dX8_passAll_12 : decode cX8_passAll 12 = .ok (.aload_n 0, 1) := by decide +kernel
theorem dX8_passAll_13 : decode cX8_passAll 13 = .ok (.aload_n 0, 1) := by decide +kernel
theorem dX8_passAll_14 : decode cX8_passAll 14 = .ok (.aload_n 0, 1) := by decide +kernel
theorem dX8_passAll_15 : decode cX8_passAll 15 = .ok (.getfield 92, 3) := by decide +kernel
theorem dX8_passAll_18 : decode cX8_passAll 18 = .ok (.invokevirtual 341, 3) := by decide +kernel
theorem dX8_passAll_21 : decode cX8_passAll 21 = .ok (.putfield 92, 3) := by decide +kernel
theorem dX8_passAll_24 : decode cX8_passAll 24 = .ok (.aload_n 0, 1) := by decide +kernel
theorem dX8_passAll_25 : decode cX8_passAll 25 = .ok (.aload_n 0, 1) := by decide +kernel
theorem dX8_passAll_26 : decode cX8_passAll 26 = .ok (.aload_n 0, 1) := by decide +kernel
theorem dX8_passAll_27 : decode cX8_passAll 27 = .ok (.getfield 95, 3) := by decide +kernel
theorem dX8_passAll_30 : decode cX8_passAll 30 = .ok (.invokevirtual 341, 3) := by decide +kernel
theorem dX8_passAll_33 : decode cX8_passAll 33 = .ok (.putfield 95, 3) := by decide +kernel
theorem dX8_passAll_36 : decode cX8_passAll 36 = .ok (.aload_n 0, 1) := by decide +kernel
theorem dX8_passAll_37 : decode cX8_passAll 37 = .ok (.aload_n 0, 1) := by decide +kernel
theorem dX8_passAll_38 : decode cX8_passAll 38 = .ok (.aload_n 0, 1) := by decide +kernel
theorem dX8_passAll_39 : decode cX8_passAll 39 = .ok (.getfield 98, 3) := by decide +kernel
theorem dX8_passAll_42 : decode cX8_passAll 42 = .ok (.invokevirtual 341, 3) := by decide +kernel
theorem dX8_passAll_45 : decode cX8_passAll 45 = .ok (.putfield 98, 3) := by decide +kernel
theorem dX8_passAll_48 : decode cX8_passAll 48 = .ok (.aload_n 0, 1) := by decide +kernel
theorem dX8_passAll_49 : decode cX8_passAll 49 = .ok (.aload_n 0, 1) := by decide +kernel
theorem dX8_passAll_50 : decode cX8_passAll 50 = .ok (.aload_n 0, 1) := by decide +kernel
theorem dX8_passAll_51 : decode cX8_passAll 51 = .ok (.getfield 101, 3) := by decide +kernel
theorem dX8_passAll_54 : decode cX8_passAll 54 = .ok (.invokevirtual 341, 3) := by decide +kernel
theorem dX8_passAll_57 : decode cX8_passAll 57 = .ok (.putfield 101, 3) := by decide +kernel
theorem dX8_passAll_60 : decode cX8_passAll 60 = .ok (.aload_n 0, 1) := by decide +kernel
theorem dX8_passAll_61 : decode cX8_passAll 61 = .ok (.aload_n 0, 1) := by decide +kernel
theorem dX8_passAll_62 : decode cX8_passAll 62 = .ok (.aload_n 0, 1) := by decide +kernel
theorem dX8_passAll_63 : decode cX8_passAll 63 = .ok (.getfield 113, 3) := by decide +kernel
theorem dX8_passAll_66 : decode cX8_passAll 66 = .ok (.invokevirtual 341, 3) := by decide +kernel
theorem dX8_passAll_69 : decode cX8_passAll 69 = .ok (.putfield 113, 3) := by decide +kernel
theorem dX8_passAll_72 : decode cX8_passAll 72 = .ok (.aload_n 0, 1) := by decide +kernel
theorem dX8_passAll_73 : decode cX8_passAll 73 = .ok (.aload_n 0, 1) := by decide +kernel
theorem dX8_passAll_74 : decode cX8_passAll 74 = .ok (.aload_n 0, 1) := by decide +kernel
theorem dX8_passAll_75 : decode cX8_passAll 75 = .ok (.getfield 116, 3) := by decide +kernel
theorem dX8_passAll_78 : decode cX8_passAll 78 = .ok (.invokevirtual 341, 3) := by decide +kernel
theorem dX8_passAll_81 : decode cX8_passAll 81 = .ok (.putfield 116, 3) := by decide +kernel
theorem dX8_passAll_84 : decode cX8_passAll 84 = .ok (.aload_n 0, 1) := by decide +kernel
theorem dX8_passAll_85 : decode cX8_passAll 85 = .ok (.aload_n 0, 1) := by decide +kernel
theorem dX8_passAll_86 : decode cX8_passAll 86 = .ok (.aload_n 0, 1) := by decide +kernel
theorem dX8_passAll_87 : decode cX8_passAll 87 = .ok (.getfield 89, 3) := by decide +kernel
theorem dX8_passAll_90 : decode cX8_passAll 90 = .ok (.invokevirtual 341, 3) := by decide +kernel
theorem dX8_passAll_93 : decode cX8_passAll 93 = .ok (.putfield 89, 3) := by decide +kernel
theorem dX8_passAll_96 : decode cX8_passAll 96 = .ok (.aload_n 0, 1) := by decide +kernel
theorem dX8_passAll_97 : decode cX8_passAll 97 = .ok (.aload_n 0, 1) := by decide +kernel
theorem dX8_passAll_98 : decode cX8_passAll 98 = .ok (.aload_n 0, 1) := by decide +kernel
theorem dX8_passAll_99 : decode cX8_passAll 99 = .ok (.getfield 278, 3) := by decide +kernel
theorem dX8_passAll_102 : decode cX8_passAll 102 = .ok (.invokevirtual 341, 3) := by decide +kernel
theorem dX8_passAll_105 : decode cX8_passAll 105 = .ok (.putfield 278, 3) := by decide +kernel
theorem dX8_passAll_108 : decode cX8_passAll 108 = .ok (.iconst 0, 1) := by decide +kernel
theorem dX8_passAll_109 : decode cX8_passAll 109 = .ok (.istore_n 1, 1) := by decide +kernel
theorem dX8_passAll_110 : decode cX8_passAll 110 = .ok (.iload_n 1, 1) := by decide +kernel
theorem dX8_passAll_111 : decode cX8_passAll 111 = .ok (.bipush 14, 2) := by decide +kernel
theorem dX8_passAll_113 : decode cX8_passAll 113 = .ok (.if_icmp .ge 41, 3) := by decide +kernel
theorem dX8_passAll_116 : decode cX8_passAll 116 = .ok (.aload_n 0, 1) := by decide +kernel
theorem dX8_passAll_117 : decode cX8_passAll 117 = .ok (.getfield 7, 3) := by decide +kernel
theorem dX8_passAll_120 : decode cX8_passAll 120 = .ok (.iload_n 1, 1) := by decide +kernel
theorem dX8_passAll_121 : decode cX8_passAll 121 = .ok (.aload_n 0, 1) := by decide +kernel
theorem dX8_passAll_122 : decode cX8_passAll 122 = .ok (.aload_n 0, 1) := by decide +kernel
theorem dX8_passAll_123 : decode cX8_passAll 123 = .ok (.getfield 7, 3) := by decide +kernel
theorem dX8_passAll_126 : decode cX8_passAll 126 = .ok (.iload_n 1, 1) := by decide +kernel
theorem dX8_passAll_127 : decode cX8_passAll 127 = .ok (.iaload, 1) := by decide +kernel
theorem dX8_passAll_128 : decode cX8_passAll 128 = .ok (.invokevirtual 341, 3) := by decide +kernel
theorem dX8_passAll_131 : decode cX8_passAll 131 = .ok (.iastore, 1) := by decide +kernel
theorem dX8_passAll_132 : decode cX8_passAll 132 = .ok (.aload_n 0, 1) := by decide +kernel
theorem dX8_passAll_133 : decode cX8_passAll 133 = .ok (.getfield 13, 3) := by decide +kernel
theorem dX8_passAll_136 : decode cX8_passAll 136 = .ok (.iload_n 1, 1) := by decide +kernel
theorem dX8_passAll_137 : decode cX8_passAll 137 = .ok (.aload_n 0, 1) := by decide +kernel
theorem dX8_passAll_138 : decode cX8_passAll 138 = .ok (.aload_n 0, 1) := by decide +kernel
theorem dX8_passAll_139 : decode cX8_passAll 139 = .ok (.getfield 13, 3) := by decide +kernel
theorem dX8_passAll_142 : decode cX8_passAll 142 = .ok (.iload_n 1, 1) := by decide +kernel
theorem dX8_passAll_143 : decode cX8_passAll 143 = .ok (.iaload, 1) := by decide +kernel
theorem dX8_passAll_144 : decode cX8_passAll 144 = .ok (.invokevirtual 341, 3) := by decide +kernel
theorem dX8_passAll_147 : decode cX8_passAll 147 = .ok (.iastore, 1) := by decide +kernel
theorem dX8_passAll_148 : decode cX8_passAll 148 = .ok (.iinc 1 1, 3) := by decide +kernel
theorem dX8_passAll_151 : decode cX8_passAll 151 = .ok (.goto (-41), 3) := by decide +kernel
theorem dX8_passAll_154 : decode cX8_passAll 154 = .ok (.iconst 0, 1) := by decide +kernel
theorem dX8_passAll_155 : decode cX8_passAll 155 = .ok (.istore_n 1, 1) := by decide +kernel
theorem dX8_passAll_156 : decode cX8_passAll 156 = .ok (.iload_n 1, 1) := by decide +kernel
theorem dX8_passAll_157 : decode cX8_passAll 157 = .ok (.bipush 6, 2) := by decide +kernel
theorem dX8_passAll_159 : decode cX8_passAll 159 = .ok (.if_icmp .ge 57, 3) := by decide +kernel
theorem dX8_passAll_162 : decode cX8_passAll 162 = .ok (.aload_n 0, 1) := by decide +kernel
theorem dX8_passAll_163 : decode cX8_passAll 163 = .ok (.getfield 16, 3) := by decide +kernel
theorem dX8_passAll_166 : decode cX8_passAll 166 = .ok (.iload_n 1, 1) := by decide +kernel
theorem dX8_passAll_167 : decode cX8_passAll 167 = .ok (.aload_n 0, 1) := by decide +kernel
theorem dX8_passAll_168 : decode cX8_passAll 168 = .ok (.aload_n 0, 1) := by decide +kernel
theorem dX8_passAll_169 : decode cX8_passAll 169 = .ok (.getfield 16, 3) := by decide +kernel
theorem dX8_passAll_172 : decode cX8_passAll 172 = .ok (.iload_n 1, 1) := by decide +kernel
theorem dX8_passAll_173 : decode cX8_passAll 173 = .ok (.iaload, 1) := by decide +kernel
theorem dX8_passAll_174 : decode cX8_passAll 174 = .ok (.invokevirtual 341, 3) := by decide +kernel
theorem dX8_passAll_177 : decode cX8_passAll 177 = .ok (.iastore, 1) := by decide +kernel
theorem dX8_passAll_178 : decode cX8_passAll 178 = .ok (.aload_n 0, 1) := by decide +kernel
theorem dX8_passAll_179 : decode cX8_passAll 179 = .ok (.getfield 19, 3) := by decide +kernel
theorem dX8_passAll_182 : decode cX8_passAll 182 = .ok (.iload_n 1, 1) := by decide +kernel
theorem dX8_passAll_183 : decode cX8_passAll 183 = .ok (.aload_n 0, 1) := by decide +kernel
theorem dX8_passAll_184 : decode cX8_passAll 184 = .ok (.aload_n 0, 1) := by decide +kernel
theorem dX8_passAll_185 : decode cX8_passAll 185 = .ok (.getfield 19, 3) := by decide +kernel
theorem dX8_passAll_188 : decode cX8_passAll 188 = .ok (.iload_n 1, 1) := by decide +kernel
theorem dX8_passAll_189 : decode cX8_passAll 189 = .ok (.iaload, 1) := by decide +kernel
theorem dX8_passAll_190 : decode cX8_passAll 190 = .ok (.invokevirtual 341, 3) := by decide +kernel
theorem dX8_passAll_193 : decode cX8_passAll 193 = .ok (.iastore, 1) := by decide +kernel
theorem dX8_passAll_194 : decode cX8_passAll 194 = .ok (.aload_n 0, 1) := by decide +kernel
theorem dX8_passAll_195 : decode cX8_passAll 195 = .ok (.getfield 22, 3) := by decide +kernel
theorem dX8_passAll_198 : decode cX8_passAll 198 = .ok (.iload_n 1, 1) := by decide +kernel
theorem dX8_passAll_199 : decode cX8_passAll 199 = .ok (.aload_n 0, 1) := by decide +kernel
theorem dX8_passAll_200 : decode cX8_passAll 200 = .ok (.aload_n 0, 1) := by decide +kernel
theorem dX8_passAll_201 : decode cX8_passAll 201 = .ok (.getfield 22, 3) := by decide +kernel
theorem dX8_passAll_204 : decode cX8_passAll 204 = .ok (.iload_n 1, 1) := by decide +kernel
theorem dX8_passAll_205 : decode cX8_passAll 205 = .ok (.iaload, 1) := by decide +kernel
theorem dX8_passAll_206 : decode cX8_passAll 206 = .ok (.invokevirtual 341, 3) := by decide +kernel
theorem dX8_passAll_209 : decode cX8_passAll 209 = .ok (.iastore, 1) := by decide +kernel
theorem dX8_passAll_210 : decode cX8_passAll 210 = .ok (.iinc 1 1, 3) := by decide +kernel
theorem dX8_passAll_213 : decode cX8_passAll 213 = .ok (.goto (-57), 3) := by decide +kernel
theorem dX8_passAll_216 : decode cX8_passAll 216 = .ok (.iconst 0, 1) := by decide +kernel
theorem dX8_passAll_217 : decode cX8_passAll 217 = .ok (.istore_n 1, 1) := by decide +kernel
theorem dX8_passAll_218 : decode cX8_passAll 218 = .ok (.iload_n 1, 1) := by decide +kernel
theorem dX8_passAll_219 : decode cX8_passAll 219 = .ok (.bipush 8, 2) := by decide +kernel
theorem dX8_passAll_221 : decode cX8_passAll 221 = .ok (.if_icmp .ge 41, 3) := by decide +kernel
theorem dX8_passAll_224 : decode cX8_passAll 224 = .ok (.aload_n 0, 1) := by decide +kernel
theorem dX8_passAll_225 : decode cX8_passAll 225 = .ok (.getfield 25, 3) := by decide +kernel
theorem dX8_passAll_228 : decode cX8_passAll 228 = .ok (.iload_n 1, 1) := by decide +kernel
theorem dX8_passAll_229 : decode cX8_passAll 229 = .ok (.aload_n 0, 1) := by decide +kernel
theorem dX8_passAll_230 : decode cX8_passAll 230 = .ok (.aload_n 0, 1) := by decide +kernel
theorem dX8_passAll_231 : decode cX8_passAll 231 = .ok (.getfield 25, 3) := by decide +kernel
theorem dX8_passAll_234 : decode cX8_passAll 234 = .ok (.iload_n 1, 1) := by decide +kernel
theorem dX8_passAll_235 : decode cX8_passAll 235 = .ok (.iaload, 1) := by decide +kernel
theorem dX8_passAll_236 : decode cX8_passAll 236 = .ok (.invokevirtual 341, 3) := by decide +kernel
theorem dX8_passAll_239 : decode cX8_passAll 239 = .ok (.iastore, 1) := by decide +kernel
theorem dX8_passAll_240 : decode cX8_passAll 240 = .ok (.aload_n 0, 1) := by decide +kernel
theorem dX8_passAll_241 : decode cX8_passAll 241 = .ok (.getfield 28, 3) := by decide +kernel
theorem dX8_passAll_244 : decode cX8_passAll 244 = .ok (.iload_n 1, 1) := by decide +kernel
theorem dX8_passAll_245 : decode cX8_passAll 245 = .ok (.aload_n 0, 1) := by decide +kernel
theorem dX8_passAll_246 : decode cX8_passAll 246 = .ok (.aload_n 0, 1) := by decide +kernel
theorem dX8_passAll_247 : decode cX8_passAll 247 = .ok (.getfield 28, 3) := by decide +kernel
theorem dX8_passAll_250 : decode cX8_passAll 250 = .ok (.iload_n 1, 1) := by decide +kernel
theorem dX8_passAll_251 : decode cX8_passAll 251 = .ok (.iaload, 1) := by decide +kernel
theorem dX8_passAll_252 : decode cX8_passAll 252 = .ok (.invokevirtual 341, 3) := by decide +kernel
theorem dX8_passAll_255 : decode cX8_passAll 255 = .ok (.iastore, 1) := by decide +kernel
theorem dX8_passAll_256 : decode cX8_passAll 256 = .ok (.iinc 1 1, 3) := by decide +kernel
theorem dX8_passAll_259 : decode cX8_passAll 259 = .ok (.goto (-41), 3) := by decide +kernel
theorem dX8_passAll_262 : decode cX8_passAll 262 = .ok (.return_, 1) := by decide +kernel
theorem dX8_image_0 : decode cX8_image 0 = .ok (.iload_n 1, 1) := by decide +kernel
theorem dX8_image_1 : decode cX8_image 1 = .ok (.i2l, 1) := by decide +kernel
theorem dX8_image_2 : decode cX8_image 2 = .ok (.lconst 0, 1) := by decide +kernel
theorem dX8_image_3 : decode cX8_image 3 = .ok (.lconst 1, 1) := by decide +kernel
theorem dX8_image_4 : decode cX8_image 4 = .ok (.invokestatic 83, 3) := by decide +kernel
theorem dX8_image_7 : decode cX8_image 7 = .ok (.ifCond .ne 6, 3) := by decide +kernel
theorem dX8_image_10 : decode cX8_image 10 = .ok (.bipush (-2), 2) := by decide +kernel
theorem dX8_image_12 : decode cX8_image 12 = .ok (.ireturn, 1) := by decide +kernel
theorem dX8_image_13 : decode cX8_image 13 = .ok (.aload_n 0, 1) := by decide +kernel
theorem dX8_image_14 : decode cX8_image 14 = .ok (.bipush 80, 2) := by decide +kernel
theorem dX8_image_16 : decode cX8_image 16 = .ok (.iload_n 1, 1) := by decide +kernel
theorem dX8_image_17 : decode cX8_image 17 = .ok (.imul, 1) := by decide +kernel
theorem dX8_image_18 : decode cX8_image 18 = .ok (.putfield 338, 3) := by decide +kernel
theorem dX8_image_21 : decode cX8_image 21 = .ok (.aload_n 0, 1) := by decide +kernel
theorem dX8_image_22 : decode cX8_image 22 = .ok (.iconst 1, 1) := by decide +kernel
theorem dX8_image_23 : decode cX8_image 23 = .ok (.putfield 334, 3) := by decide +kernel
theorem dX8_image_26 : decode cX8_image 26 = .ok (.aload_n 0, 1) := by decide +kernel
theorem dX8_image_27 : decode cX8_image 27 = .ok (.invokevirtual 344, 3) := by decide +kernel
theorem dX8_image_30 : decode cX8_image 30 = .ok (.aload_n 0, 1) := by decide +kernel
theorem dX8_image_31 : decode cX8_image 31 = .ok (.getfield 73, 3) := by decide +kernel
theorem dX8_image_34 : decode cX8_image 34 = .ok (.iload_n 1, 1) := by decide +kernel
theorem dX8_image_35 : decode cX8_image 35 = .ok (.iconst 1, 1) := by decide +kernel
theorem dX8_image_36 : decode cX8_image 36 = .ok (.bastore, 1) := by decide +kernel
theorem dX8_image_37 : decode cX8_image 37 = .ok (.iconst 1, 1) := by decide +kernel
theorem dX8_image_38 : decode cX8_image 38 = .ok (.ireturn, 1) := by decide +kernel
theorem dX8_restore_0 : decode cX8_restore 0 = .ok (.iload_n 1, 1) := by decide +kernel
theorem dX8_restore_1 : decode cX8_restore 1 = .ok (.i2l, 1) := by decide +kernel
theorem dX8_restore_2 : decode cX8_restore 2 = .ok (.lconst 0, 1) := by decide +kernel
theorem dX8_restore_3 : decode cX8_restore 3 = .ok (.lconst 1, 1) := by decide +kernel
theorem dX8_restore_4 : decode cX8_restore 4 = .ok (.invokestatic 83, 3) := by decide +kernel
theorem dX8_restore_7 : decode cX8_restore 7 = .ok (.ifCond .ne 6, 3) := by decide +kernel
theorem dX8_restore_10 : decode cX8_restore 10 = .ok (.bipush (-2), 2) := by decide +kernel
theorem dX8_restore_12 : decode cX8_restore 12 = .ok (.ireturn, 1) := by decide +kernel
theorem dX8_restore_13 : decode cX8_restore 13 = .ok (.aload_n 0, 1) := by decide +kernel
theorem dX8_restore_14 : decode cX8_restore 14 = .ok (.getfield 73, 3) := by decide +kernel
theorem dX8_restore_17 : decode cX8_restore 17 = .ok (.iload_n 1, 1) := by decide +kernel
theorem dX8_restore_18 : decode cX8_restore 18 = .ok (.baload, 1) := by decide +kernel
theorem dX8_restore_19 : decode cX8_restore 19 = .ok (.ifCond .ne 6, 3) := by decide +kernel
theorem dX8_restore_22 : decode cX8_restore 22 = .ok (.bipush (-3), 2) := by decide +kernel
theorem dX8_restore_24 : decode cX8_restore 24 = .ok (.ireturn, 1) := by decide +kernel
theorem dX8_restore_25 : decode cX8_restore 25 = .ok (.aload_n 0, 1) := by decide +kernel
theorem dX8_restore_26 : decode cX8_restore 26 = .ok (.bipush 80, 2) := by decide +kernel
theorem dX8_restore_28 : decode cX8_restore 28 = .ok (.iload_n 1, 1) := by decide +kernel
theorem dX8_restore_29 : decode cX8_restore 29 = .ok (.imul, 1) := by decide +kernel
theorem dX8_restore_30 : decode cX8_restore 30 = .ok (.putfield 338, 3) := by decide +kernel
theorem dX8_restore_33 : decode cX8_restore 33 = .ok (.aload_n 0, 1) := by decide +kernel
theorem dX8_restore_34 : decode cX8_restore 34 = .ok (.iconst 0, 1) := by decide +kernel
theorem dX8_restore_35 : decode cX8_restore 35 = .ok (.putfield 334, 3) := by decide +kernel
theorem dX8_restore_38 : decode cX8_restore 38 = .ok (.aload_n 0, 1) := by decide +kernel
theorem dX8_restore_39 : decode cX8_restore 39 = .ok (.invokevirtual 344, 3) := by decide +kernel
theorem dX8_restore_42 : decode cX8_restore 42 = .ok (.iconst 1, 1) := by decide +kernel
theorem dX8_restore_43 : decode cX8_restore 43 = .ok (.ireturn, 1) := by decide +kernel
theorem dX8_toldOfMeal_0 : decode cX8_toldOfMeal 0 = .ok (.aload_n 0, 1) := by decide +kernel
theorem dX8_toldOfMeal_1 : decode cX8_toldOfMeal 1 = .ok (.iload_n 1, 1) := by decide +kernel
theorem dX8_toldOfMeal_2 : decode cX8_toldOfMeal 2 = .ok (.invokevirtual 163, 3) := by decide +kernel
theorem dX8_toldOfMeal_5 : decode cX8_toldOfMeal 5 = .ok (.ifCond .ne 6, 3) := by decide +kernel
theorem dX8_toldOfMeal_8 : decode cX8_toldOfMeal 8 = .ok (.bipush (-2), 2) := by decide +kernel
theorem dX8_toldOfMeal_10 : decode cX8_toldOfMeal 10 = .ok (.ireturn, 1) := by decide +kernel
theorem dX8_toldOfMeal_11 : decode cX8_toldOfMeal 11 = .ok (.iload_n 2, 1) := by decide +kernel
theorem dX8_toldOfMeal_12 : decode cX8_toldOfMeal 12 = .ok (.ifCond .ne 12, 3) := by decide +kernel
theorem dX8_toldOfMeal_15 : decode cX8_toldOfMeal 15 = .ok (.aload_n 0, 1) := by decide +kernel
theorem dX8_toldOfMeal_16 : decode cX8_toldOfMeal 16 = .ok (.getfield 16, 3) := by decide +kernel
theorem dX8_toldOfMeal_19 : decode cX8_toldOfMeal 19 = .ok (.iload_n 1, 1) := by decide +kernel
theorem dX8_toldOfMeal_20 : decode cX8_toldOfMeal 20 = .ok (.iaload, 1) := by decide +kernel
theorem dX8_toldOfMeal_21 : decode cX8_toldOfMeal 21 = .ok (.goto 33, 3) := by decide +kernel
theorem dX8_toldOfMeal_24 : decode cX8_toldOfMeal 24 = .ok (.iload_n 2, 1) := by decide +kernel
theorem dX8_toldOfMeal_25 : decode cX8_toldOfMeal 25 = .ok (.iconst 1, 1) := by decide +kernel
theorem dX8_toldOfMeal_26 : decode cX8_toldOfMeal 26 = .ok (.if_icmp .ne 12, 3) := by decide +kernel
theorem dX8_toldOfMeal_29 : decode cX8_toldOfMeal 29 = .ok (.aload_n 0, 1) := by decide +kernel
theorem dX8_toldOfMeal_30 : decode cX8_toldOfMeal 30 = .ok (.getfield 19, 3) := by decide +kernel
theorem dX8_toldOfMeal_33 : decode cX8_toldOfMeal 33 = .ok (.iload_n 1, 1) := by decide +kernel
theorem dX8_toldOfMeal_34 : decode cX8_toldOfMeal 34 = .ok (.iaload, 1) := by decide +kernel
theorem dX8_toldOfMeal_35 : decode cX8_toldOfMeal 35 = .ok (.goto 19, 3) := by decide +kernel
theorem dX8_toldOfMeal_38 : decode cX8_toldOfMeal 38 = .ok (.iload_n 2, 1) := by decide +kernel
theorem dX8_toldOfMeal_39 : decode cX8_toldOfMeal 39 = .ok (.iconst 2, 1) := by decide +kernel
theorem dX8_toldOfMeal_40 : decode cX8_toldOfMeal 40 = .ok (.if_icmp .ne 12, 3) := by decide +kernel
theorem dX8_toldOfMeal_43 : decode cX8_toldOfMeal 43 = .ok (.aload_n 0, 1) := by decide +kernel
theorem dX8_toldOfMeal_44 : decode cX8_toldOfMeal 44 = .ok (.getfield 22, 3) := by decide +kernel
theorem dX8_toldOfMeal_47 : decode cX8_toldOfMeal 47 = .ok (.iload_n 1, 1) := by decide +kernel
theorem dX8_toldOfMeal_48 : decode cX8_toldOfMeal 48 = .ok (.iaload, 1) := by decide +kernel
theorem dX8_toldOfMeal_49 : decode cX8_toldOfMeal 49 = .ok (.goto 5, 3) := by decide +kernel
theorem dX8_toldOfMeal_52 : decode cX8_toldOfMeal 52 = .ok (.bipush (-2), 2) := by decide +kernel
theorem dX8_toldOfMeal_54 : decode cX8_toldOfMeal 54 = .ok (.ireturn, 1) := by decide +kernel
theorem dX8_told_0 : decode cX8_told 0 = .ok (.iload_n 1, 1) := by decide +kernel
theorem dX8_told_1 : decode cX8_told 1 = .ok (.i2l, 1) := by decide +kernel
theorem dX8_told_2 : decode cX8_told 2 = .ok (.ldc2_w 125, 3) := by decide +kernel
theorem dX8_told_5 : decode cX8_told 5 = .ok (.ldc2_w 347, 3) := by decide +kernel
theorem dX8_told_8 : decode cX8_told 8 = .ok (.invokestatic 83, 3) := by decide +kernel
theorem dX8_told_11 : decode cX8_told 11 = .ok (.ifCond .eq 18, 3) := by decide +kernel
theorem dX8_told_14 : decode cX8_told 14 = .ok (.aload_n 0, 1) := by decide +kernel
theorem dX8_told_15 : decode cX8_told 15 = .ok (.iload_n 1, 1) := by decide +kernel
theorem dX8_told_16 : decode cX8_told 16 = .ok (.bipush 100, 2) := by decide +kernel
theorem dX8_told_18 : decode cX8_told 18 = .ok (.idiv, 1) := by decide +kernel
theorem dX8_told_19 : decode cX8_told 19 = .ok (.iconst 1, 1) := by decide +kernel
theorem dX8_told_20 : decode cX8_told 20 = .ok (.isub, 1) := by decide +kernel
theorem dX8_told_21 : decode cX8_told 21 = .ok (.iload_n 1, 1) := by decide +kernel
theorem dX8_told_22 : decode cX8_told 22 = .ok (.bipush 100, 2) := by decide +kernel
theorem dX8_told_24 : decode cX8_told 24 = .ok (.irem, 1) := by decide +kernel
theorem dX8_told_25 : decode cX8_told 25 = .ok (.invokevirtual 349, 3) := by decide +kernel
theorem dX8_told_28 : decode cX8_told 28 = .ok (.ireturn, 1) := by decide +kernel
theorem dX8_told_29 : decode cX8_told 29 = .ok (.iload_n 1, 1) := by decide +kernel
theorem dX8_told_30 : decode cX8_told 30 = .ok (.i2l, 1) := by decide +kernel
theorem dX8_told_31 : decode cX8_told 31 = .ok (.ldc2_w 276, 3) := by decide +kernel
theorem dX8_told_34 : decode cX8_told 34 = .ok (.ldc2_w 130, 3) := by decide +kernel
theorem dX8_told_37 : decode cX8_told 37 = .ok (.invokestatic 83, 3) := by decide +kernel
theorem dX8_told_40 : decode cX8_told 40 = .ok (.ifCond .eq 26, 3) := by decide +kernel
theorem dX8_told_43 : decode cX8_told 43 = .ok (.aload_n 0, 1) := by decide +kernel
theorem dX8_told_44 : decode cX8_told 44 = .ok (.getfield 7, 3) := by decide +kernel
theorem dX8_told_47 : decode cX8_told 47 = .ok (.iload_n 1, 1) := by decide +kernel
theorem dX8_told_48 : decode cX8_told 48 = .ok (.bipush 20, 2) := by decide +kernel
theorem dX8_told_50 : decode cX8_told 50 = .ok (.isub, 1) := by decide +kernel
theorem dX8_told_51 : decode cX8_told 51 = .ok (.iaload, 1) := by decide +kernel
theorem dX8_told_52 : decode cX8_told 52 = .ok (.bipush 10, 2) := by decide +kernel
theorem dX8_told_54 : decode cX8_told 54 = .ok (.aload_n 0, 1) := by decide +kernel
theorem dX8_told_55 : decode cX8_told 55 = .ok (.getfield 13, 3) := by decide +kernel
theorem dX8_told_58 : decode cX8_told 58 = .ok (.iload_n 1, 1) := by decide +kernel
theorem dX8_told_59 : decode cX8_told 59 = .ok (.bipush 20, 2) := by decide +kernel
theorem dX8_told_61 : decode cX8_told 61 = .ok (.isub, 1) := by decide +kernel
theorem dX8_told_62 : decode cX8_told 62 = .ok (.iaload, 1) := by decide +kernel
theorem dX8_told_63 : decode cX8_told 63 = .ok (.imul, 1) := by decide +kernel
theorem dX8_told_64 : decode cX8_told 64 = .ok (.iadd, 1) := by decide +kernel
theorem dX8_told_65 : decode cX8_told 65 = .ok (.ireturn, 1) := by decide +kernel
theorem dX8_told_66 : decode cX8_told 66 = .ok (.iload_n 1, 1) := by decide +kernel
theorem dX8_told_67 : decode cX8_told 67 = .ok (.tableswitch 69 0 8 #[49, 69, 69, 69, 69, 69, 54, 59, 64], 49) := by decide +kernel
theorem dX8_told_116 : decode cX8_told 116 = .ok (.aload_n 0, 1) := by decide +kernel
theorem dX8_told_117 : decode cX8_told 117 = .ok (.getfield 134, 3) := by decide +kernel
theorem dX8_told_120 : decode cX8_told 120 = .ok (.ireturn, 1) := by decide +kernel
theorem dX8_told_121 : decode cX8_told 121 = .ok (.aload_n 0, 1) := by decide +kernel
theorem dX8_told_122 : decode cX8_told 122 = .ok (.getfield 89, 3) := by decide +kernel
theorem dX8_told_125 : decode cX8_told 125 = .ok (.ireturn, 1) := by decide +kernel
theorem dX8_told_126 : decode cX8_told 126 = .ok (.aload_n 0, 1) := by decide +kernel
theorem dX8_told_127 : decode cX8_told 127 = .ok (.getfield 278, 3) := by decide +kernel
theorem dX8_told_130 : decode cX8_told 130 = .ok (.ireturn, 1) := by decide +kernel
theorem dX8_told_131 : decode cX8_told 131 = .ok (.aload_n 0, 1) := by decide +kernel
theorem dX8_told_132 : decode cX8_told 132 = .ok (.invokevirtual 166, 3) := by decide +kernel
theorem dX8_told_135 : decode cX8_told 135 = .ok (.ireturn, 1) := by decide +kernel
theorem dX8_told_136 : decode cX8_told 136 = .ok (.iload_n 1, 1) := by decide +kernel
theorem dX8_told_137 : decode cX8_told 137 = .ok (.i2l, 1) := by decide +kernel
theorem dX8_told_138 : decode cX8_told 138 = .ok (.lconst 1, 1) := by decide +kernel
theorem dX8_told_139 : decode cX8_told 139 = .ok (.ldc2_w 87, 3) := by decide +kernel
theorem dX8_told_142 : decode cX8_told 142 = .ok (.invokestatic 83, 3) := by decide +kernel
theorem dX8_told_145 : decode cX8_told 145 = .ok (.ifCond .eq 13, 3) := by decide +kernel
theorem dX8_told_148 : decode cX8_told 148 = .ok (.aload_n 0, 1) := by decide +kernel
theorem dX8_told_149 : decode cX8_told 149 = .ok (.iload_n 1, 1) := by decide +kernel
theorem dX8_told_150 : decode cX8_told 150 = .ok (.iconst 1, 1) := by decide +kernel
theorem dX8_told_151 : decode cX8_told 151 = .ok (.isub, 1) := by decide +kernel
theorem dX8_told_152 : decode cX8_told 152 = .ok (.invokevirtual 110, 3) := by decide +kernel
theorem dX8_told_155 : decode cX8_told 155 = .ok (.goto 5, 3) := by decide +kernel
theorem dX8_told_158 : decode cX8_told 158 = .ok (.bipush (-2), 2) := by decide +kernel
theorem dX8_told_160 : decode cX8_told 160 = .ok (.ireturn, 1) := by decide +kernel
theorem dJ6_bitCount_0f7a4_0 : decode cJ6_bitCount_0f7a4 0 = .ok (.iload_n 0, 1) := by decide +kernel
theorem dJ6_bitCount_0f7a4_1 : decode cJ6_bitCount_0f7a4 1 = .ok (.iload_n 0, 1) := by decide +kernel
theorem dJ6_bitCount_0f7a4_2 : decode cJ6_bitCount_0f7a4 2 = .ok (.iconst 1, 1) := by decide +kernel
theorem dJ6_bitCount_0f7a4_3 : decode cJ6_bitCount_0f7a4 3 = .ok (.iushr, 1) := by decide +kernel
theorem dJ6_bitCount_0f7a4_4 : decode cJ6_bitCount_0f7a4 4 = .ok (.ldc_w 265, 3) := by decide +kernel
theorem dJ6_bitCount_0f7a4_7 : decode cJ6_bitCount_0f7a4 7 = .ok (.iand, 1) := by decide +kernel
theorem dJ6_bitCount_0f7a4_8 : decode cJ6_bitCount_0f7a4 8 = .ok (.isub, 1) := by decide +kernel
theorem dJ6_bitCount_0f7a4_9 : decode cJ6_bitCount_0f7a4 9 = .ok (.istore_n 0, 1) := by decide +kernel
theorem dJ6_bitCount_0f7a4_10 : decode cJ6_bitCount_0f7a4 10 = .ok (.iload_n 0, 1) := by decide +kernel
theorem dJ6_bitCount_0f7a4_11 : decode cJ6_bitCount_0f7a4 11 = .ok (.ldc_w 266, 3) := by decide +kernel
theorem dJ6_bitCount_0f7a4_14 : decode cJ6_bitCount_0f7a4 14 = .ok (.iand, 1) := by decide +kernel
theorem dJ6_bitCount_0f7a4_15 : decode cJ6_bitCount_0f7a4 15 = .ok (.iload_n 0, 1) := by decide +kernel
theorem dJ6_bitCount_0f7a4_16 : decode cJ6_bitCount_0f7a4 16 = .ok (.iconst 2, 1) := by decide +kernel
theorem dJ6_bitCount_0f7a4_17 : decode cJ6_bitCount_0f7a4 17 = .ok (.iushr, 1) := by decide +kernel
theorem dJ6_bitCount_0f7a4_18 : decode cJ6_bitCount_0f7a4 18 = .ok (.ldc_w 266, 3) := by decide +kernel
theorem dJ6_bitCount_0f7a4_21 : decode cJ6_bitCount_0f7a4 21 = .ok (.iand, 1) := by decide +kernel
theorem dJ6_bitCount_0f7a4_22 : decode cJ6_bitCount_0f7a4 22 = .ok (.iadd, 1) := by decide +kernel
theorem dJ6_bitCount_0f7a4_23 : decode cJ6_bitCount_0f7a4 23 = .ok (.istore_n 0, 1) := by decide +kernel
theorem dJ6_bitCount_0f7a4_24 : decode cJ6_bitCount_0f7a4 24 = .ok (.iload_n 0, 1) := by decide +kernel
theorem dJ6_bitCount_0f7a4_25 : decode cJ6_bitCount_0f7a4 25 = .ok (.iload_n 0, 1) := by decide +kernel
theorem dJ6_bitCount_0f7a4_26 : decode cJ6_bitCount_0f7a4 26 = .ok (.iconst 4, 1) := by decide +kernel
theorem dJ6_bitCount_0f7a4_27 : decode cJ6_bitCount_0f7a4 27 = .ok (.iushr, 1) := by decide +kernel
theorem dJ6_bitCount_0f7a4_28 : decode cJ6_bitCount_0f7a4 28 = .ok (.iadd, 1) := by decide +kernel
theorem dJ6_bitCount_0f7a4_29 : decode cJ6_bitCount_0f7a4 29 = .ok (.ldc_w 267, 3) := by decide +kernel
theorem dJ6_bitCount_0f7a4_32 : decode cJ6_bitCount_0f7a4 32 = .ok (.iand, 1) := by decide +kernel
theorem dJ6_bitCount_0f7a4_33 : decode cJ6_bitCount_0f7a4 33 = .ok (.istore_n 0, 1) := by decide +kernel
theorem dJ6_bitCount_0f7a4_34 : decode cJ6_bitCount_0f7a4 34 = .ok (.iload_n 0, 1) := by decide +kernel
theorem dJ6_bitCount_0f7a4_35 : decode cJ6_bitCount_0f7a4 35 = .ok (.iload_n 0, 1) := by decide +kernel
theorem dJ6_bitCount_0f7a4_36 : decode cJ6_bitCount_0f7a4 36 = .ok (.bipush 8, 2) := by decide +kernel
theorem dJ6_bitCount_0f7a4_38 : decode cJ6_bitCount_0f7a4 38 = .ok (.iushr, 1) := by decide +kernel
theorem dJ6_bitCount_0f7a4_39 : decode cJ6_bitCount_0f7a4 39 = .ok (.iadd, 1) := by decide +kernel
theorem dJ6_bitCount_0f7a4_40 : decode cJ6_bitCount_0f7a4 40 = .ok (.istore_n 0, 1) := by decide +kernel
theorem dJ6_bitCount_0f7a4_41 : decode cJ6_bitCount_0f7a4 41 = .ok (.iload_n 0, 1) := by decide +kernel
theorem dJ6_bitCount_0f7a4_42 : decode cJ6_bitCount_0f7a4 42 = .ok (.iload_n 0, 1) := by decide +kernel
theorem dJ6_bitCount_0f7a4_43 : decode cJ6_bitCount_0f7a4 43 = .ok (.bipush 16, 2) := by decide +kernel
theorem dJ6_bitCount_0f7a4_45 : decode cJ6_bitCount_0f7a4 45 = .ok (.iushr, 1) := by decide +kernel
theorem dJ6_bitCount_0f7a4_46 : decode cJ6_bitCount_0f7a4 46 = .ok (.iadd, 1) := by decide +kernel
theorem dJ6_bitCount_0f7a4_47 : decode cJ6_bitCount_0f7a4 47 = .ok (.istore_n 0, 1) := by decide +kernel
theorem dJ6_bitCount_0f7a4_48 : decode cJ6_bitCount_0f7a4 48 = .ok (.iload_n 0, 1) := by decide +kernel
theorem dJ6_bitCount_0f7a4_49 : decode cJ6_bitCount_0f7a4 49 = .ok (.bipush 63, 2) := by decide +kernel
theorem dJ6_bitCount_0f7a4_51 : decode cJ6_bitCount_0f7a4 51 = .ok (.iand, 1) := by decide +kernel
theorem dJ6_bitCount_0f7a4_52 : decode cJ6_bitCount_0f7a4 52 = .ok (.ireturn, 1) := by decide +kernel
theorem dJ9_floorDiv_7cf53_0 : decode cJ9_floorDiv_7cf53 0 = .ok (.iload_n 0, 1) := by decide +kernel
theorem dJ9_floorDiv_7cf53_1 : decode cJ9_floorDiv_7cf53 1 = .ok (.iload_n 1, 1) := by decide +kernel
theorem dJ9_floorDiv_7cf53_2 : decode cJ9_floorDiv_7cf53 2 = .ok (.idiv, 1) := by decide +kernel
theorem dJ9_floorDiv_7cf53_3 : decode cJ9_floorDiv_7cf53 3 = .ok (.istore_n 2, 1) := by decide +kernel
theorem dJ9_floorDiv_7cf53_4 : decode cJ9_floorDiv_7cf53 4 = .ok (.iload_n 0, 1) := by decide +kernel
theorem dJ9_floorDiv_7cf53_5 : decode cJ9_floorDiv_7cf53 5 = .ok (.iload_n 1, 1) := by decide +kernel
theorem dJ9_floorDiv_7cf53_6 : decode cJ9_floorDiv_7cf53 6 = .ok (.ixor, 1) := by decide +kernel
theorem dJ9_floorDiv_7cf53_7 : decode cJ9_floorDiv_7cf53 7 = .ok (.ifCond .ge 14, 3) := by decide +kernel
theorem dJ9_floorDiv_7cf53_10 : decode cJ9_floorDiv_7cf53 10 = .ok (.iload_n 2, 1) := by decide +kernel
theorem dJ9_floorDiv_7cf53_11 : decode cJ9_floorDiv_7cf53 11 = .ok (.iload_n 1, 1) := by decide +kernel
theorem dJ9_floorDiv_7cf53_12 : decode cJ9_floorDiv_7cf53 12 = .ok (.imul, 1) := by decide +kernel
theorem dJ9_floorDiv_7cf53_13 : decode cJ9_floorDiv_7cf53 13 = .ok (.iload_n 0, 1) := by decide +kernel
theorem dJ9_floorDiv_7cf53_14 : decode cJ9_floorDiv_7cf53 14 = .ok (.if_icmp .eq 7, 3) := by decide +kernel
theorem dJ9_floorDiv_7cf53_17 : decode cJ9_floorDiv_7cf53 17 = .ok (.iload_n 2, 1) := by decide +kernel
theorem dJ9_floorDiv_7cf53_18 : decode cJ9_floorDiv_7cf53 18 = .ok (.iconst 1, 1) := by decide +kernel
theorem dJ9_floorDiv_7cf53_19 : decode cJ9_floorDiv_7cf53 19 = .ok (.isub, 1) := by decide +kernel
theorem dJ9_floorDiv_7cf53_20 : decode cJ9_floorDiv_7cf53 20 = .ok (.ireturn, 1) := by decide +kernel
theorem dJ9_floorDiv_7cf53_21 : decode cJ9_floorDiv_7cf53 21 = .ok (.iload_n 2, 1) := by decide +kernel
theorem dJ9_floorDiv_7cf53_22 : decode cJ9_floorDiv_7cf53 22 = .ok (.ireturn, 1) := by decide +kernel
theorem dJ0_length_8abf5_0 : decode cJ0_length_8abf5 0 = .ok (.aload_n 0, 1) := by decide +kernel
theorem dJ0_length_8abf5_1 : decode cJ0_length_8abf5 1 = .ok (.getfield 9, 3) := by decide +kernel
theorem dJ0_length_8abf5_4 : decode cJ0_length_8abf5 4 = .ok (.arraylength, 1) := by decide +kernel
theorem dJ0_length_8abf5_5 : decode cJ0_length_8abf5 5 = .ok (.aload_n 0, 1) := by decide +kernel
theorem dJ0_length_8abf5_6 : decode cJ0_length_8abf5 6 = .ok (.invokevirtual 335, 3) := by decide +kernel
theorem dJ0_length_8abf5_9 : decode cJ0_length_8abf5 9 = .ok (.ishr, 1) := by decide +kernel
theorem dJ0_length_8abf5_10 : decode cJ0_length_8abf5 10 = .ok (.ireturn, 1) := by decide +kernel
theorem dJ0_indexOf_0f7a4_0 : decode cJ0_indexOf_0f7a4 0 = .ok (.aload_n 0, 1) := by decide +kernel
theorem dJ0_indexOf_0f7a4_1 : decode cJ0_indexOf_0f7a4 1 = .ok (.iload_n 1, 1) := by decide +kernel
theorem dJ0_indexOf_0f7a4_2 : decode cJ0_indexOf_0f7a4 2 = .ok (.iconst 0, 1) := by decide +kernel
theorem dJ0_indexOf_0f7a4_3 : decode cJ0_indexOf_0f7a4 3 = .ok (.invokevirtual 633, 3) := by decide +kernel
theorem dJ0_indexOf_0f7a4_6 : decode cJ0_indexOf_0f7a4 6 = .ok (.ireturn, 1) := by decide +kernel
theorem dJ0_indexOf_7cf53_0 : decode cJ0_indexOf_7cf53 0 = .ok (.aload_n 0, 1) := by decide +kernel
theorem dJ0_indexOf_7cf53_1 : decode cJ0_indexOf_7cf53 1 = .ok (.invokevirtual 492, 3) := by decide +kernel
theorem dJ0_indexOf_7cf53_4 : decode cJ0_indexOf_7cf53 4 = .ok (.ifCond .eq 19, 3) := by decide +kernel
theorem dJ0_indexOf_7cf53_7 : decode cJ0_indexOf_7cf53 7 = .ok (.aload_n 0, 1) := by decide +kernel
theorem dJ0_indexOf_7cf53_8 : decode cJ0_indexOf_7cf53 8 = .ok (.getfield 9, 3) := by decide +kernel
theorem dJ0_indexOf_7cf53_11 : decode cJ0_indexOf_7cf53 11 = .ok (.iload_n 1, 1) := by decide +kernel
theorem dJ0_indexOf_7cf53_12 : decode cJ0_indexOf_7cf53 12 = .ok (.iload_n 2, 1) := by decide +kernel
theorem dJ0_indexOf_7cf53_13 : decode cJ0_indexOf_7cf53 13 = .ok (.aload_n 0, 1) := by decide +kernel
theorem dJ0_indexOf_7cf53_14 : decode cJ0_indexOf_7cf53 14 = .ok (.invokevirtual 505, 3) := by decide +kernel
theorem dJ0_indexOf_7cf53_17 : decode cJ0_indexOf_7cf53 17 = .ok (.invokestatic 637, 3) := by decide +kernel
theorem dJ0_indexOf_7cf53_20 : decode cJ0_indexOf_7cf53 20 = .ok (.goto 16, 3) := by decide +kernel
theorem dJ0_indexOf_7cf53_23 : decode cJ0_indexOf_7cf53 23 = .ok (.aload_n 0, 1) := by decide +kernel
theorem dJ0_indexOf_7cf53_24 : decode cJ0_indexOf_7cf53 24 = .ok (.getfield 9, 3) := by decide +kernel
theorem dJ0_indexOf_7cf53_27 : decode cJ0_indexOf_7cf53 27 = .ok (.iload_n 1, 1) := by decide +kernel
theorem dJ0_indexOf_7cf53_28 : decode cJ0_indexOf_7cf53 28 = .ok (.iload_n 2, 1) := by decide +kernel
theorem dJ0_indexOf_7cf53_29 : decode cJ0_indexOf_7cf53 29 = .ok (.aload_n 0, 1) := by decide +kernel
theorem dJ0_indexOf_7cf53_30 : decode cJ0_indexOf_7cf53 30 = .ok (.invokevirtual 505, 3) := by decide +kernel
theorem dJ0_indexOf_7cf53_33 : decode cJ0_indexOf_7cf53 33 = .ok (.invokestatic 640, 3) := by decide +kernel
theorem dJ0_indexOf_7cf53_36 : decode cJ0_indexOf_7cf53 36 = .ok (.ireturn, 1) := by decide +kernel
theorem dJ0_coder_7d493_0 : decode cJ0_coder_7d493 0 = .ok (.getstatic 38, 3) := by decide +kernel
theorem dJ0_coder_7d493_3 : decode cJ0_coder_7d493 3 = .ok (.ifCond .eq 10, 3) := by decide +kernel
theorem dJ0_coder_7d493_6 : decode cJ0_coder_7d493 6 = .ok (.aload_n 0, 1) := by decide +kernel
theorem dJ0_coder_7d493_7 : decode cJ0_coder_7d493 7 = .ok (.getfield 15, 3) := by decide +kernel
theorem dJ0_coder_7d493_10 : decode cJ0_coder_7d493 10 = .ok (.goto 4, 3) := by decide +kernel
theorem dJ0_coder_7d493_13 : decode cJ0_coder_7d493 13 = .ok (.iconst 1, 1) := by decide +kernel
theorem dJ0_coder_7d493_14 : decode cJ0_coder_7d493 14 = .ok (.ireturn, 1) := by decide +kernel
theorem dJ0_isLatin1_aae02_0 : decode cJ0_isLatin1_aae02 0 = .ok (.getstatic 38, 3) := by decide +kernel
theorem dJ0_isLatin1_aae02_3 : decode cJ0_isLatin1_aae02 3 = .ok (.ifCond .eq 14, 3) := by decide +kernel
theorem dJ0_isLatin1_aae02_6 : decode cJ0_isLatin1_aae02 6 = .ok (.aload_n 0, 1) := by decide +kernel
theorem dJ0_isLatin1_aae02_7 : decode cJ0_isLatin1_aae02 7 = .ok (.getfield 15, 3) := by decide +kernel
theorem dJ0_isLatin1_aae02_10 : decode cJ0_isLatin1_aae02 10 = .ok (.ifCond .ne 7, 3) := by decide +kernel
theorem dJ0_isLatin1_aae02_13 : decode cJ0_isLatin1_aae02 13 = .ok (.iconst 1, 1) := by decide +kernel
theorem dJ0_isLatin1_aae02_14 : decode cJ0_isLatin1_aae02 14 = .ok (.goto 4, 3) := by decide +kernel
theorem dJ0_isLatin1_aae02_17 : decode cJ0_isLatin1_aae02 17 = .ok (.iconst 0, 1) := by decide +kernel
theorem dJ0_isLatin1_aae02_18 : decode cJ0_isLatin1_aae02 18 = .ok (.ireturn, 1) := by decide +kernel
theorem dJ1_canEncode_9a6ad_0 : decode cJ1_canEncode_9a6ad 0 = .ok (.iload_n 0, 1) := by decide +kernel
theorem dJ1_canEncode_9a6ad_1 : decode cJ1_canEncode_9a6ad 1 = .ok (.ifCond .lt 14, 3) := by decide +kernel
theorem dJ1_canEncode_9a6ad_4 : decode cJ1_canEncode_9a6ad 4 = .ok (.iload_n 0, 1) := by decide +kernel
theorem dJ1_canEncode_9a6ad_5 : decode cJ1_canEncode_9a6ad 5 = .ok (.sipush 255, 3) := by decide +kernel
theorem dJ1_canEncode_9a6ad_8 : decode cJ1_canEncode_9a6ad 8 = .ok (.if_icmp .gt 7, 3) := by decide +kernel
theorem dJ1_canEncode_9a6ad_11 : decode cJ1_canEncode_9a6ad 11 = .ok (.iconst 1, 1) := by decide +kernel
theorem dJ1_canEncode_9a6ad_12 : decode cJ1_canEncode_9a6ad 12 = .ok (.goto 4, 3) := by decide +kernel
theorem dJ1_canEncode_9a6ad_15 : decode cJ1_canEncode_9a6ad 15 = .ok (.iconst 0, 1) := by decide +kernel
theorem dJ1_canEncode_9a6ad_16 : decode cJ1_canEncode_9a6ad 16 = .ok (.ireturn, 1) := by decide +kernel
theorem dJ1_indexOf_4cfef_0 : decode cJ1_indexOf_4cfef 0 = .ok (.iload_n 1, 1) := by decide +kernel
theorem dJ1_indexOf_4cfef_1 : decode cJ1_indexOf_4cfef 1 = .ok (.invokestatic 88, 3) := by decide +kernel
theorem dJ1_indexOf_4cfef_4 : decode cJ1_indexOf_4cfef 4 = .ok (.ifCond .ne 5, 3) := by decide +kernel
theorem dJ1_indexOf_4cfef_7 : decode cJ1_indexOf_4cfef 7 = .ok (.iconst (-1), 1) := by decide +kernel
theorem dJ1_indexOf_4cfef_8 : decode cJ1_indexOf_4cfef 8 = .ok (.ireturn, 1) := by decide +kernel
theorem dJ1_indexOf_4cfef_9 : decode cJ1_indexOf_4cfef 9 = .ok (.iload_n 2, 1) := by decide +kernel
theorem dJ1_indexOf_4cfef_10 : decode cJ1_indexOf_4cfef 10 = .ok (.iconst 0, 1) := by decide +kernel
theorem dJ1_indexOf_4cfef_11 : decode cJ1_indexOf_4cfef 11 = .ok (.invokestatic 92, 3) := by decide +kernel
theorem dJ1_indexOf_4cfef_14 : decode cJ1_indexOf_4cfef 14 = .ok (.istore_n 2, 1) := by decide +kernel
theorem dJ1_indexOf_4cfef_15 : decode cJ1_indexOf_4cfef 15 = .ok (.iload_n 3, 1) := by decide +kernel
theorem dJ1_indexOf_4cfef_16 : decode cJ1_indexOf_4cfef 16 = .ok (.aload_n 0, 1) := by decide +kernel
theorem dJ1_indexOf_4cfef_17 : decode cJ1_indexOf_4cfef 17 = .ok (.arraylength, 1) := by decide +kernel
theorem dJ1_indexOf_4cfef_18 : decode cJ1_indexOf_4cfef 18 = .ok (.invokestatic 38, 3) := by decide +kernel
theorem dJ1_indexOf_4cfef_21 : decode cJ1_indexOf_4cfef 21 = .ok (.istore_n 3, 1) := by decide +kernel
theorem dJ1_indexOf_4cfef_22 : decode cJ1_indexOf_4cfef 22 = .ok (.iload_n 2, 1) := by decide +kernel
theorem dJ1_indexOf_4cfef_23 : decode cJ1_indexOf_4cfef 23 = .ok (.iload_n 3, 1) := by decide +kernel
theorem dJ1_indexOf_4cfef_24 : decode cJ1_indexOf_4cfef 24 = .ok (.if_icmp .lt 5, 3) := by decide +kernel
theorem dJ1_indexOf_4cfef_27 : decode cJ1_indexOf_4cfef 27 = .ok (.iconst (-1), 1) := by decide +kernel
theorem dJ1_indexOf_4cfef_28 : decode cJ1_indexOf_4cfef 28 = .ok (.ireturn, 1) := by decide +kernel
theorem dJ1_indexOf_4cfef_29 : decode cJ1_indexOf_4cfef 29 = .ok (.aload_n 0, 1) := by decide +kernel
theorem dJ1_indexOf_4cfef_30 : decode cJ1_indexOf_4cfef 30 = .ok (.iload_n 1, 1) := by decide +kernel
theorem dJ1_indexOf_4cfef_31 : decode cJ1_indexOf_4cfef 31 = .ok (.iload_n 2, 1) := by decide +kernel
theorem dJ1_indexOf_4cfef_32 : decode cJ1_indexOf_4cfef 32 = .ok (.iload_n 3, 1) := by decide +kernel
theorem dJ1_indexOf_4cfef_33 : decode cJ1_indexOf_4cfef 33 = .ok (.invokestatic 95, 3) := by decide +kernel
theorem dJ1_indexOf_4cfef_36 : decode cJ1_indexOf_4cfef 36 = .ok (.ireturn, 1) := by decide +kernel
theorem dJ1_indexOfChar_4cfef_0 : decode cJ1_indexOfChar_4cfef 0 = .ok (.iload_n 1, 1) := by decide +kernel
theorem dJ1_indexOfChar_4cfef_1 : decode cJ1_indexOfChar_4cfef 1 = .ok (.i2b, 1) := by decide +kernel
theorem dJ1_indexOfChar_4cfef_2 : decode cJ1_indexOfChar_4cfef 2 = .ok (.istore 4, 2) := by decide +kernel
theorem dJ1_indexOfChar_4cfef_4 : decode cJ1_indexOfChar_4cfef 4 = .ok (.iload_n 2, 1) := by decide +kernel
theorem dJ1_indexOfChar_4cfef_5 : decode cJ1_indexOfChar_4cfef 5 = .ok (.istore 5, 2) := by decide +kernel
theorem dJ1_indexOfChar_4cfef_7 : decode cJ1_indexOfChar_4cfef 7 = .ok (.iload 5, 2) := by decide +kernel
theorem dJ1_indexOfChar_4cfef_9 : decode cJ1_indexOfChar_4cfef 9 = .ok (.iload_n 3, 1) := by decide +kernel
theorem dJ1_indexOfChar_4cfef_10 : decode cJ1_indexOfChar_4cfef 10 = .ok (.if_icmp .ge 21, 3) := by decide +kernel
theorem dJ1_indexOfChar_4cfef_13 : decode cJ1_indexOfChar_4cfef 13 = .ok (.aload_n 0, 1) := by decide +kernel
theorem dJ1_indexOfChar_4cfef_14 : decode cJ1_indexOfChar_4cfef 14 = .ok (.iload 5, 2) := by decide +kernel
theorem dJ1_indexOfChar_4cfef_16 : decode cJ1_indexOfChar_4cfef 16 = .ok (.baload, 1) := by decide +kernel
theorem dJ1_indexOfChar_4cfef_17 : decode cJ1_indexOfChar_4cfef 17 = .ok (.iload 4, 2) := by decide +kernel
theorem dJ1_indexOfChar_4cfef_19 : decode cJ1_indexOfChar_4cfef 19 = .ok (.if_icmp .ne 6, 3) := by decide +kernel
theorem dJ1_indexOfChar_4cfef_22 : decode cJ1_indexOfChar_4cfef 22 = .ok (.iload 5, 2) := by decide +kernel
theorem dJ1_indexOfChar_4cfef_24 : decode cJ1_indexOfChar_4cfef 24 = .ok (.ireturn, 1) := by decide +kernel
theorem dJ1_indexOfChar_4cfef_25 : decode cJ1_indexOfChar_4cfef 25 = .ok (.iinc 5 1, 3) := by decide +kernel
theorem dJ1_indexOfChar_4cfef_28 : decode cJ1_indexOfChar_4cfef 28 = .ok (.goto (-21), 3) := by decide +kernel
theorem dJ1_indexOfChar_4cfef_31 : decode cJ1_indexOfChar_4cfef 31 = .ok (.iconst (-1), 1) := by decide +kernel
theorem dJ1_indexOfChar_4cfef_32 : decode cJ1_indexOfChar_4cfef 32 = .ok (.ireturn, 1) := by decide +kernel
theorem dL_law_0 : decode cL_law 0 = .ok (.new 7, 3) := by decide +kernel
theorem dL_law_3 : decode cL_law 3 = .ok (.dup, 1) := by decide +kernel
theorem dL_law_4 : decode cL_law 4 = .ok (.invokespecial 9, 3) := by decide +kernel
theorem dL_law_7 : decode cL_law 7 = .ok (.astore_n 1, 1) := by decide +kernel
theorem dL_law_8 : decode cL_law 8 = .ok (.new 10, 3) := by decide +kernel
theorem dL_law_11 : decode cL_law 11 = .ok (.dup, 1) := by decide +kernel
theorem dL_law_12 : decode cL_law 12 = .ok (.invokespecial 12, 3) := by decide +kernel
theorem dL_law_15 : decode cL_law 15 = .ok (.astore_n 2, 1) := by decide +kernel
theorem dL_law_16 : decode cL_law 16 = .ok (.iconst 0, 1) := by decide +kernel
theorem dL_law_17 : decode cL_law 17 = .ok (.istore_n 3, 1) := by decide +kernel
theorem dL_law_18 : decode cL_law 18 = .ok (.iload_n 3, 1) := by decide +kernel
theorem dL_law_19 : decode cL_law 19 = .ok (.aload_n 0, 1) := by decide +kernel
theorem dL_law_20 : decode cL_law 20 = .ok (.arraylength, 1) := by decide +kernel
theorem dL_law_21 : decode cL_law 21 = .ok (.iconst 5, 1) := by decide +kernel
theorem dL_law_22 : decode cL_law 22 = .ok (.isub, 1) := by decide +kernel
theorem dL_law_23 : decode cL_law 23 = .ok (.if_icmp .gt 980, 3) := by decide +kernel
theorem dL_law_26 : decode cL_law 26 = .ok (.aload_n 0, 1) := by decide +kernel
theorem dL_law_27 : decode cL_law 27 = .ok (.iload_n 3, 1) := by decide +kernel
theorem dL_law_28 : decode cL_law 28 = .ok (.iaload, 1) := by decide +kernel
theorem dL_law_29 : decode cL_law 29 = .ok (.bipush 31, 2) := by decide +kernel
theorem dL_law_31 : decode cL_law 31 = .ok (.iand, 1) := by decide +kernel
theorem dL_law_32 : decode cL_law 32 = .ok (.tableswitch 965 0 28 #[132, 165, 224, 277, 300, 313, 326, 349, 372, 405, 428, 441, 484, 517, 560, 593, 616, 629, 662, 695, 708, 731, 744, 767, 810, 853, 896, 919, 942], 132) := by decide +kernel
theorem dL_law_164 : decode cL_law 164 = .ok (.aload_n 1, 1) := by decide +kernel
theorem dL_law_165 : decode cL_law 165 = .ok (.aload_n 0, 1) := by decide +kernel
theorem dL_law_166 : decode cL_law 166 = .ok (.iload_n 3, 1) := by decide +kernel
theorem dL_law_167 : decode cL_law 167 = .ok (.iconst 1, 1) := by decide +kernel
theorem dL_law_168 : decode cL_law 168 = .ok (.iadd, 1) := by decide +kernel
theorem dL_law_169 : decode cL_law 169 = .ok (.iaload, 1) := by decide +kernel
theorem dL_law_170 : decode cL_law 170 = .ok (.aload_n 0, 1) := by decide +kernel
theorem dL_law_171 : decode cL_law 171 = .ok (.iload_n 3, 1) := by decide +kernel
theorem dL_law_172 : decode cL_law 172 = .ok (.iconst 2, 1) := by decide +kernel
theorem dL_law_173 : decode cL_law 173 = .ok (.iadd, 1) := by decide +kernel
theorem dL_law_174 : decode cL_law 174 = .ok (.iaload, 1) := by decide +kernel
theorem dL_law_175 : decode cL_law 175 = .ok (.invokevirtual 13, 3) := by decide +kernel
theorem dL_law_178 : decode cL_law 178 = .ok (.pop, 1) := by decide +kernel
theorem dL_law_179 : decode cL_law 179 = .ok (.aload_n 2, 1) := by decide +kernel
theorem dL_law_180 : decode cL_law 180 = .ok (.aload_n 0, 1) := by decide +kernel
theorem dL_law_181 : decode cL_law 181 = .ok (.iload_n 3, 1) := by decide +kernel
theorem dL_law_182 : decode cL_law 182 = .ok (.iconst 1, 1) := by decide +kernel
theorem dL_law_183 : decode cL_law 183 = .ok (.iadd, 1) := by decide +kernel
theorem dL_law_184 : decode cL_law 184 = .ok (.iaload, 1) := by decide +kernel
theorem dL_law_185 : decode cL_law 185 = .ok (.aload_n 0, 1) := by decide +kernel
theorem dL_law_186 : decode cL_law 186 = .ok (.iload_n 3, 1) := by decide +kernel
theorem dL_law_187 : decode cL_law 187 = .ok (.iconst 2, 1) := by decide +kernel
theorem dL_law_188 : decode cL_law 188 = .ok (.iadd, 1) := by decide +kernel
theorem dL_law_189 : decode cL_law 189 = .ok (.iaload, 1) := by decide +kernel
theorem dL_law_190 : decode cL_law 190 = .ok (.invokevirtual 17, 3) := by decide +kernel
theorem dL_law_193 : decode cL_law 193 = .ok (.pop, 1) := by decide +kernel
theorem dL_law_194 : decode cL_law 194 = .ok (.goto 803, 3) := by decide +kernel
theorem dL_law_197 : decode cL_law 197 = .ok (.aload_n 1, 1) := by decide +kernel
theorem dL_law_198 : decode cL_law 198 = .ok (.aload_n 0, 1) := by decide +kernel
theorem dL_law_199 : decode cL_law 199 = .ok (.iload_n 3, 1) := by decide +kernel
theorem dL_law_200 : decode cL_law 200 = .ok (.iconst 1, 1) := by decide +kernel
theorem dL_law_201 : decode cL_law 201 = .ok (.iadd, 1) := by decide +kernel
theorem dL_law_202 : decode cL_law 202 = .ok (.iaload, 1) := by decide +kernel
theorem dL_law_203 : decode cL_law 203 = .ok (.aload_n 0, 1) := by decide +kernel
theorem dL_law_204 : decode cL_law 204 = .ok (.iload_n 3, 1) := by decide +kernel
theorem dL_law_205 : decode cL_law 205 = .ok (.iconst 2, 1) := by decide +kernel
theorem dL_law_206 : decode cL_law 206 = .ok (.iadd, 1) := by decide +kernel
theorem dL_law_207 : decode cL_law 207 = .ok (.iaload, 1) := by decide +kernel
theorem dL_law_208 : decode cL_law 208 = .ok (.aload_n 0, 1) := by decide +kernel
theorem dL_law_209 : decode cL_law 209 = .ok (.iload_n 3, 1) := by decide +kernel
theorem dL_law_210 : decode cL_law 210 = .ok (.iconst 3, 1) := by decide +kernel
theorem dL_law_211 : decode cL_law 211 = .ok (.iadd, 1) := by decide +kernel
theorem dL_law_212 : decode cL_law 212 = .ok (.iaload, 1) := by decide +kernel
theorem dL_law_213 : decode cL_law 213 = .ok (.ifCond .eq 7, 3) := by decide +kernel
theorem dL_law_216 : decode cL_law 216 = .ok (.iconst 1, 1) := by decide +kernel
theorem dL_law_217 : decode cL_law 217 = .ok (.goto 4, 3) := by decide +kernel
theorem dL_law_220 : decode cL_law 220 = .ok (.iconst 0, 1) := by decide +kernel
theorem dL_law_221 : decode cL_law 221 = .ok (.invokevirtual 18, 3) := by decide +kernel
theorem dL_law_224 : decode cL_law 224 = .ok (.pop, 1) := by decide +kernel
theorem dL_law_225 : decode cL_law 225 = .ok (.aload_n 2, 1) := by decide +kernel
theorem dL_law_226 : decode cL_law 226 = .ok (.aload_n 0, 1) := by decide +kernel
theorem dL_law_227 : decode cL_law 227 = .ok (.iload_n 3, 1) := by decide +kernel
theorem dL_law_228 : decode cL_law 228 = .ok (.iconst 1, 1) := by decide +kernel
theorem dL_law_229 : decode cL_law 229 = .ok (.iadd, 1) := by decide +kernel
theorem dL_law_230 : decode cL_law 230 = .ok (.iaload, 1) := by decide +kernel
theorem dL_law_231 : decode cL_law 231 = .ok (.aload_n 0, 1) := by decide +kernel
theorem dL_law_232 : decode cL_law 232 = .ok (.iload_n 3, 1) := by decide +kernel
theorem dL_law_233 : decode cL_law 233 = .ok (.iconst 2, 1) := by decide +kernel
theorem dL_law_234 : decode cL_law 234 = .ok (.iadd, 1) := by decide +kernel
theorem dL_law_235 : decode cL_law 235 = .ok (.iaload, 1) := by decide +kernel
theorem dL_law_236 : decode cL_law 236 = .ok (.aload_n 0, 1) := by decide +kernel
theorem dL_law_237 : decode cL_law 237 = .ok (.iload_n 3, 1) := by decide +kernel
theorem dL_law_238 : decode cL_law 238 = .ok (.iconst 3, 1) := by decide +kernel
theorem dL_law_239 : decode cL_law 239 = .ok (.iadd, 1) := by decide +kernel
theorem dL_law_240 : decode cL_law 240 = .ok (.iaload, 1) := by decide +kernel
theorem dL_law_241 : decode cL_law 241 = .ok (.ifCond .eq 7, 3) := by decide +kernel
theorem dL_law_244 : decode cL_law 244 = .ok (.iconst 1, 1) := by decide +kernel
theorem dL_law_245 : decode cL_law 245 = .ok (.goto 4, 3) := by decide +kernel
theorem dL_law_248 : decode cL_law 248 = .ok (.iconst 0, 1) := by decide +kernel
theorem dL_law_249 : decode cL_law 249 = .ok (.invokevirtual 22, 3) := by decide +kernel
theorem dL_law_252 : decode cL_law 252 = .ok (.pop, 1) := by decide +kernel
theorem dL_law_253 : decode cL_law 253 = .ok (.goto 744, 3) := by decide +kernel
theorem dL_law_256 : decode cL_law 256 = .ok (.aload_n 1, 1) := by decide +kernel
theorem dL_law_257 : decode cL_law 257 = .ok (.aload_n 0, 1) := by decide +kernel
theorem dL_law_258 : decode cL_law 258 = .ok (.iload_n 3, 1) := by decide +kernel
theorem dL_law_259 : decode cL_law 259 = .ok (.iconst 1, 1) := by decide +kernel
theorem dL_law_260 : decode cL_law 260 = .ok (.iadd, 1) := by decide +kernel
theorem dL_law_261 : decode cL_law 261 = .ok (.iaload, 1) := by decide +kernel
theorem dL_law_262 : decode cL_law 262 = .ok (.aload_n 0, 1) := by decide +kernel
theorem dL_law_263 : decode cL_law 263 = .ok (.iload_n 3, 1) := by decide +kernel
theorem dL_law_264 : decode cL_law 264 = .ok (.iconst 2, 1) := by decide +kernel
theorem dL_law_265 : decode cL_law 265 = .ok (.iadd, 1) := by decide +kernel
theorem dL_law_266 : decode cL_law 266 = .ok (.iaload, 1) := by decide +kernel
theorem dL_law_267 : decode cL_law 267 = .ok (.aload_n 0, 1) := by decide +kernel
theorem dL_law_268 : decode cL_law 268 = .ok (.iload_n 3, 1) := by decide +kernel
theorem dL_law_269 : decode cL_law 269 = .ok (.iconst 3, 1) := by decide +kernel
theorem dL_law_270 : decode cL_law 270 = .ok (.iadd, 1) := by decide +kernel
theorem dL_law_271 : decode cL_law 271 = .ok (.iaload, 1) := by decide +kernel
theorem dL_law_272 : decode cL_law 272 = .ok (.aload_n 0, 1) := by decide +kernel
theorem dL_law_273 : decode cL_law 273 = .ok (.iload_n 3, 1) := by decide +kernel
theorem dL_law_274 : decode cL_law 274 = .ok (.iconst 4, 1) := by decide +kernel
theorem dL_law_275 : decode cL_law 275 = .ok (.iadd, 1) := by decide +kernel
theorem dL_law_276 : decode cL_law 276 = .ok (.iaload, 1) := by decide +kernel
theorem dL_law_277 : decode cL_law 277 = .ok (.invokevirtual 23, 3) := by decide +kernel
theorem dL_law_280 : decode cL_law 280 = .ok (.pop, 1) := by decide +kernel
theorem dL_law_281 : decode cL_law 281 = .ok (.aload_n 2, 1) := by decide +kernel
theorem dL_law_282 : decode cL_law 282 = .ok (.aload_n 0, 1) := by decide +kernel
theorem dL_law_283 : decode cL_law 283 = .ok (.iload_n 3, 1) := by decide +kernel
theorem dL_law_284 : decode cL_law 284 = .ok (.iconst 1, 1) := by decide +kernel
theorem dL_law_285 : decode cL_law 285 = .ok (.iadd, 1) := by decide +kernel
theorem dL_law_286 : decode cL_law 286 = .ok (.iaload, 1) := by decide +kernel
theorem dL_law_287 : decode cL_law 287 = .ok (.aload_n 0, 1) := by decide +kernel
theorem dL_law_288 : decode cL_law 288 = .ok (.iload_n 3, 1) := by decide +kernel
theorem dL_law_289 : decode cL_law 289 = .ok (.iconst 2, 1) := by decide +kernel
theorem dL_law_290 : decode cL_law 290 = .ok (.iadd, 1) := by decide +kernel
theorem dL_law_291 : decode cL_law 291 = .ok (.iaload, 1) := by decide +kernel
theorem dL_law_292 : decode cL_law 292 = .ok (.aload_n 0, 1) := by decide +kernel
theorem dL_law_293 : decode cL_law 293 = .ok (.iload_n 3, 1) := by decide +kernel
theorem dL_law_294 : decode cL_law 294 = .ok (.iconst 3, 1) := by decide +kernel
theorem dL_law_295 : decode cL_law 295 = .ok (.iadd, 1) := by decide +kernel
theorem dL_law_296 : decode cL_law 296 = .ok (.iaload, 1) := by decide +kernel
theorem dL_law_297 : decode cL_law 297 = .ok (.aload_n 0, 1) := by decide +kernel
theorem dL_law_298 : decode cL_law 298 = .ok (.iload_n 3, 1) := by decide +kernel
theorem dL_law_299 : decode cL_law 299 = .ok (.iconst 4, 1) := by decide +kernel
theorem dL_law_300 : decode cL_law 300 = .ok (.iadd, 1) := by decide +kernel
theorem dL_law_301 : decode cL_law 301 = .ok (.iaload, 1) := by decide +kernel
theorem dL_law_302 : decode cL_law 302 = .ok (.invokevirtual 27, 3) := by decide +kernel
theorem dL_law_305 : decode cL_law 305 = .ok (.pop, 1) := by decide +kernel
theorem dL_law_306 : decode cL_law 306 = .ok (.goto 691, 3) := by decide +kernel
theorem dL_law_309 : decode cL_law 309 = .ok (.aload_n 1, 1) := by decide +kernel
theorem dL_law_310 : decode cL_law 310 = .ok (.aload_n 0, 1) := by decide +kernel
theorem dL_law_311 : decode cL_law 311 = .ok (.iload_n 3, 1) := by decide +kernel
theorem dL_law_312 : decode cL_law 312 = .ok (.iconst 1, 1) := by decide +kernel
theorem dL_law_313 : decode cL_law 313 = .ok (.iadd, 1) := by decide +kernel
theorem dL_law_314 : decode cL_law 314 = .ok (.iaload, 1) := by decide +kernel
theorem dL_law_315 : decode cL_law 315 = .ok (.invokevirtual 28, 3) := by decide +kernel
theorem dL_law_318 : decode cL_law 318 = .ok (.pop, 1) := by decide +kernel
theorem dL_law_319 : decode cL_law 319 = .ok (.aload_n 2, 1) := by decide +kernel
theorem dL_law_320 : decode cL_law 320 = .ok (.aload_n 0, 1) := by decide +kernel
theorem dL_law_321 : decode cL_law 321 = .ok (.iload_n 3, 1) := by decide +kernel
theorem dL_law_322 : decode cL_law 322 = .ok (.iconst 1, 1) := by decide +kernel
theorem dL_law_323 : decode cL_law 323 = .ok (.iadd, 1) := by decide +kernel
theorem dL_law_324 : decode cL_law 324 = .ok (.iaload, 1) := by decide +kernel
theorem dL_law_325 : decode cL_law 325 = .ok (.invokevirtual 32, 3) := by decide +kernel
theorem dL_law_328 : decode cL_law 328 = .ok (.pop, 1) := by decide +kernel
theorem dL_law_329 : decode cL_law 329 = .ok (.goto 668, 3) := by decide +kernel
theorem dL_law_332 : decode cL_law 332 = .ok (.aload_n 1, 1) := by decide +kernel
theorem dL_law_333 : decode cL_law 333 = .ok (.invokevirtual 33, 3) := by decide +kernel
theorem dL_law_336 : decode cL_law 336 = .ok (.pop, 1) := by decide +kernel
theorem dL_law_337 : decode cL_law 337 = .ok (.aload_n 2, 1) := by decide +kernel
theorem dL_law_338 : decode cL_law 338 = .ok (.invokevirtual 37, 3) := by decide +kernel
theorem dL_law_341 : decode cL_law 341 = .ok (.pop, 1) := by decide +kernel
theorem dL_law_342 : decode cL_law 342 = .ok (.goto 655, 3) := by decide +kernel
theorem dL_law_345 : decode cL_law 345 = .ok (.aload_n 1, 1) := by decide +kernel
theorem dL_law_346 : decode cL_law 346 = .ok (.invokevirtual 38, 3) := by decide +kernel
theorem dL_law_349 : decode cL_law 349 = .ok (.pop, 1) := by decide +kernel
theorem dL_law_350 : decode cL_law 350 = .ok (.aload_n 2, 1) := by decide +kernel
theorem dL_law_351 : decode cL_law 351 = .ok (.invokevirtual 41, 3) := by decide +kernel
theorem dL_law_354 : decode cL_law 354 = .ok (.pop, 1) := by decide +kernel
theorem dL_law_355 : decode cL_law 355 = .ok (.goto 642, 3) := by decide +kernel
theorem dL_law_358 : decode cL_law 358 = .ok (.aload_n 1, 1) := by decide +kernel
theorem dL_law_359 : decode cL_law 359 = .ok (.aload_n 0, 1) := by decide +kernel
theorem dL_law_360 : decode cL_law 360 = .ok (.iload_n 3, 1) := by decide +kernel
theorem dL_law_361 : decode cL_law 361 = .ok (.iconst 1, 1) := by decide +kernel
theorem dL_law_362 : decode cL_law 362 = .ok (.iadd, 1) := by decide +kernel
theorem dL_law_363 : decode cL_law 363 = .ok (.iaload, 1) := by decide +kernel
theorem dL_law_364 : decode cL_law 364 = .ok (.invokevirtual 42, 3) := by decide +kernel
theorem dL_law_367 : decode cL_law 367 = .ok (.pop, 1) := by decide +kernel
theorem dL_law_368 : decode cL_law 368 = .ok (.aload_n 2, 1) := by decide +kernel
theorem dL_law_369 : decode cL_law 369 = .ok (.aload_n 0, 1) := by decide +kernel
theorem dL_law_370 : decode cL_law 370 = .ok (.iload_n 3, 1) := by decide +kernel
theorem dL_law_371 : decode cL_law 371 = .ok (.iconst 1, 1) := by decide +kernel
theorem dL_law_372 : decode cL_law 372 = .ok (.iadd, 1) := by decide +kernel
theorem dL_law_373 : decode cL_law 373 = .ok (.iaload, 1) := by decide +kernel
theorem dL_law_374 : decode cL_law 374 = .ok (.invokevirtual 45, 3) := by decide +kernel
theorem dL_law_377 : decode cL_law 377 = .ok (.pop, 1) := by decide +kernel
theorem dL_law_378 : decode cL_law 378 = .ok (.goto 619, 3) := by decide +kernel
theorem dL_law_381 : decode cL_law 381 = .ok (.aload_n 1, 1) := by decide +kernel
theorem dL_law_382 : decode cL_law 382 = .ok (.aload_n 0, 1) := by decide +kernel
theorem dL_law_383 : decode cL_law 383 = .ok (.iload_n 3, 1) := by decide +kernel
theorem dL_law_384 : decode cL_law 384 = .ok (.iconst 1, 1) := by decide +kernel
theorem dL_law_385 : decode cL_law 385 = .ok (.iadd, 1) := by decide +kernel
theorem dL_law_386 : decode cL_law 386 = .ok (.iaload, 1) := by decide +kernel
theorem dL_law_387 : decode cL_law 387 = .ok (.invokevirtual 46, 3) := by decide +kernel
theorem dL_law_390 : decode cL_law 390 = .ok (.pop, 1) := by decide +kernel
theorem dL_law_391 : decode cL_law 391 = .ok (.aload_n 2, 1) := by decide +kernel
theorem dL_law_392 : decode cL_law 392 = .ok (.aload_n 0, 1) := by decide +kernel
theorem dL_law_393 : decode cL_law 393 = .ok (.iload_n 3, 1) := by decide +kernel
theorem dL_law_394 : decode cL_law 394 = .ok (.iconst 1, 1) := by decide +kernel
theorem dL_law_395 : decode cL_law 395 = .ok (.iadd, 1) := by decide +kernel
theorem dL_law_396 : decode cL_law 396 = .ok (.iaload, 1) := by decide +kernel
theorem dL_law_397 : decode cL_law 397 = .ok (.invokevirtual 49, 3) := by decide +kernel
theorem dL_law_400 : decode cL_law 400 = .ok (.pop, 1) := by decide +kernel
theorem dL_law_401 : decode cL_law 401 = .ok (.goto 596, 3) := by decide +kernel
theorem dL_law_404 : decode cL_law 404 = .ok (.aload_n 1, 1) := by decide +kernel
theorem dL_law_405 : decode cL_law 405 = .ok (.aload_n 0, 1) := by decide +kernel
theorem dL_law_406 : decode cL_law 406 = .ok (.iload_n 3, 1) := by decide +kernel
theorem dL_law_407 : decode cL_law 407 = .ok (.iconst 1, 1) := by decide +kernel
theorem dL_law_408 : decode cL_law 408 = .ok (.iadd, 1) := by decide +kernel
theorem dL_law_409 : decode cL_law 409 = .ok (.iaload, 1) := by decide +kernel
theorem dL_law_410 : decode cL_law 410 = .ok (.aload_n 0, 1) := by decide +kernel
theorem dL_law_411 : decode cL_law 411 = .ok (.iload_n 3, 1) := by decide +kernel
theorem dL_law_412 : decode cL_law 412 = .ok (.iconst 2, 1) := by decide +kernel
theorem dL_law_413 : decode cL_law 413 = .ok (.iadd, 1) := by decide +kernel
theorem dL_law_414 : decode cL_law 414 = .ok (.iaload, 1) := by decide +kernel
theorem dL_law_415 : decode cL_law 415 = .ok (.invokevirtual 50, 3) := by decide +kernel
theorem dL_law_418 : decode cL_law 418 = .ok (.pop, 1) := by decide +kernel
theorem dL_law_419 : decode cL_law 419 = .ok (.aload_n 2, 1) := by decide +kernel
theorem dL_law_420 : decode cL_law 420 = .ok (.aload_n 0, 1) := by decide +kernel
theorem dL_law_421 : decode cL_law 421 = .ok (.iload_n 3, 1) := by decide +kernel
theorem dL_law_422 : decode cL_law 422 = .ok (.iconst 1, 1) := by decide +kernel
theorem dL_law_423 : decode cL_law 423 = .ok (.iadd, 1) := by decide +kernel
theorem dL_law_424 : decode cL_law 424 = .ok (.iaload, 1) := by decide +kernel
theorem dL_law_425 : decode cL_law 425 = .ok (.aload_n 0, 1) := by decide +kernel
theorem dL_law_426 : decode cL_law 426 = .ok (.iload_n 3, 1) := by decide +kernel
theorem dL_law_427 : decode cL_law 427 = .ok (.iconst 2, 1) := by decide +kernel
theorem dL_law_428 : decode cL_law 428 = .ok (.iadd, 1) := by decide +kernel
theorem dL_law_429 : decode cL_law 429 = .ok (.iaload, 1) := by decide +kernel
theorem dL_law_430 : decode cL_law 430 = .ok (.invokevirtual 53, 3) := by decide +kernel
theorem dL_law_433 : decode cL_law 433 = .ok (.pop, 1) := by decide +kernel
theorem dL_law_434 : decode cL_law 434 = .ok (.goto 563, 3) := by decide +kernel
theorem dL_law_437 : decode cL_law 437 = .ok (.aload_n 1, 1) := by decide +kernel
theorem dL_law_438 : decode cL_law 438 = .ok (.aload_n 0, 1) := by decide +kernel
theorem dL_law_439 : decode cL_law 439 = .ok (.iload_n 3, 1) := by decide +kernel
theorem dL_law_440 : decode cL_law 440 = .ok (.iconst 1, 1) := by decide +kernel
theorem dL_law_441 : decode cL_law 441 = .ok (.iadd, 1) := by decide +kernel
theorem dL_law_442 : decode cL_law 442 = .ok (.iaload, 1) := by decide +kernel
theorem dL_law_443 : decode cL_law 443 = .ok (.invokevirtual 54, 3) := by decide +kernel
theorem dL_law_446 : decode cL_law 446 = .ok (.pop, 1) := by decide +kernel
theorem dL_law_447 : decode cL_law 447 = .ok (.aload_n 2, 1) := by decide +kernel
theorem dL_law_448 : decode cL_law 448 = .ok (.aload_n 0, 1) := by decide +kernel
theorem dL_law_449 : decode cL_law 449 = .ok (.iload_n 3, 1) := by decide +kernel
theorem dL_law_450 : decode cL_law 450 = .ok (.iconst 1, 1) := by decide +kernel
theorem dL_law_451 : decode cL_law 451 = .ok (.iadd, 1) := by decide +kernel
theorem dL_law_452 : decode cL_law 452 = .ok (.iaload, 1) := by decide +kernel
theorem dL_law_453 : decode cL_law 453 = .ok (.invokevirtual 57, 3) := by decide +kernel
theorem dL_law_456 : decode cL_law 456 = .ok (.pop, 1) := by decide +kernel
theorem dL_law_457 : decode cL_law 457 = .ok (.goto 540, 3) := by decide +kernel
theorem dL_law_460 : decode cL_law 460 = .ok (.aload_n 1, 1) := by decide +kernel
theorem dL_law_461 : decode cL_law 461 = .ok (.invokevirtual 58, 3) := by decide +kernel
theorem dL_law_464 : decode cL_law 464 = .ok (.pop, 1) := by decide +kernel
theorem dL_law_465 : decode cL_law 465 = .ok (.aload_n 2, 1) := by decide +kernel
theorem dL_law_466 : decode cL_law 466 = .ok (.invokevirtual 61, 3) := by decide +kernel
theorem dL_law_469 : decode cL_law 469 = .ok (.pop, 1) := by decide +kernel
theorem dL_law_470 : decode cL_law 470 = .ok (.goto 527, 3) := by decide +kernel
theorem dL_law_473 : decode cL_law 473 = .ok (.aload_n 1, 1) := by decide +kernel
theorem dL_law_474 : decode cL_law 474 = .ok (.aload_n 0, 1) := by decide +kernel
theorem dL_law_475 : decode cL_law 475 = .ok (.iload_n 3, 1) := by decide +kernel
theorem dL_law_476 : decode cL_law 476 = .ok (.iconst 1, 1) := by decide +kernel
theorem dL_law_477 : decode cL_law 477 = .ok (.iadd, 1) := by decide +kernel
theorem dL_law_478 : decode cL_law 478 = .ok (.iaload, 1) := by decide +kernel
theorem dL_law_479 : decode cL_law 479 = .ok (.aload_n 0, 1) := by decide +kernel
theorem dL_law_480 : decode cL_law 480 = .ok (.iload_n 3, 1) := by decide +kernel
theorem dL_law_481 : decode cL_law 481 = .ok (.iconst 2, 1) := by decide +kernel
theorem dL_law_482 : decode cL_law 482 = .ok (.iadd, 1) := by decide +kernel
theorem dL_law_483 : decode cL_law 483 = .ok (.iaload, 1) := by decide +kernel
theorem dL_law_484 : decode cL_law 484 = .ok (.aload_n 0, 1) := by decide +kernel
theorem dL_law_485 : decode cL_law 485 = .ok (.iload_n 3, 1) := by decide +kernel
theorem dL_law_486 : decode cL_law 486 = .ok (.iconst 3, 1) := by decide +kernel
theorem dL_law_487 : decode cL_law 487 = .ok (.iadd, 1) := by decide +kernel
theorem dL_law_488 : decode cL_law 488 = .ok (.iaload, 1) := by decide +kernel
theorem dL_law_489 : decode cL_law 489 = .ok (.invokevirtual 62, 3) := by decide +kernel
theorem dL_law_492 : decode cL_law 492 = .ok (.pop, 1) := by decide +kernel
theorem dL_law_493 : decode cL_law 493 = .ok (.aload_n 2, 1) := by decide +kernel
theorem dL_law_494 : decode cL_law 494 = .ok (.aload_n 0, 1) := by decide +kernel
theorem dL_law_495 : decode cL_law 495 = .ok (.iload_n 3, 1) := by decide +kernel
theorem dL_law_496 : decode cL_law 496 = .ok (.iconst 1, 1) := by decide +kernel
theorem dL_law_497 : decode cL_law 497 = .ok (.iadd, 1) := by decide +kernel
theorem dL_law_498 : decode cL_law 498 = .ok (.iaload, 1) := by decide +kernel
theorem dL_law_499 : decode cL_law 499 = .ok (.aload_n 0, 1) := by decide +kernel
theorem dL_law_500 : decode cL_law 500 = .ok (.iload_n 3, 1) := by decide +kernel
theorem dL_law_501 : decode cL_law 501 = .ok (.iconst 2, 1) := by decide +kernel
theorem dL_law_502 : decode cL_law 502 = .ok (.iadd, 1) := by decide +kernel
theorem dL_law_503 : decode cL_law 503 = .ok (.iaload, 1) := by decide +kernel
theorem dL_law_504 : decode cL_law 504 = .ok (.aload_n 0, 1) := by decide +kernel
theorem dL_law_505 : decode cL_law 505 = .ok (.iload_n 3, 1) := by decide +kernel
theorem dL_law_506 : decode cL_law 506 = .ok (.iconst 3, 1) := by decide +kernel
theorem dL_law_507 : decode cL_law 507 = .ok (.iadd, 1) := by decide +kernel
theorem dL_law_508 : decode cL_law 508 = .ok (.iaload, 1) := by decide +kernel
theorem dL_law_509 : decode cL_law 509 = .ok (.invokevirtual 66, 3) := by decide +kernel
theorem dL_law_512 : decode cL_law 512 = .ok (.pop, 1) := by decide +kernel
theorem dL_law_513 : decode cL_law 513 = .ok (.goto 484, 3) := by decide +kernel
theorem dL_law_516 : decode cL_law 516 = .ok (.aload_n 1, 1) := by decide +kernel
theorem dL_law_517 : decode cL_law 517 = .ok (.aload_n 0, 1) := by decide +kernel
theorem dL_law_518 : decode cL_law 518 = .ok (.iload_n 3, 1) := by decide +kernel
theorem dL_law_519 : decode cL_law 519 = .ok (.iconst 1, 1) := by decide +kernel
theorem dL_law_520 : decode cL_law 520 = .ok (.iadd, 1) := by decide +kernel
theorem dL_law_521 : decode cL_law 521 = .ok (.iaload, 1) := by decide +kernel
theorem dL_law_522 : decode cL_law 522 = .ok (.aload_n 0, 1) := by decide +kernel
theorem dL_law_523 : decode cL_law 523 = .ok (.iload_n 3, 1) := by decide +kernel
theorem dL_law_524 : decode cL_law 524 = .ok (.iconst 2, 1) := by decide +kernel
theorem dL_law_525 : decode cL_law 525 = .ok (.iadd, 1) := by decide +kernel
theorem dL_law_526 : decode cL_law 526 = .ok (.iaload, 1) := by decide +kernel
theorem dL_law_527 : decode cL_law 527 = .ok (.invokevirtual 67, 3) := by decide +kernel
theorem dL_law_530 : decode cL_law 530 = .ok (.aload_n 2, 1) := by decide +kernel
theorem dL_law_531 : decode cL_law 531 = .ok (.aload_n 0, 1) := by decide +kernel
theorem dL_law_532 : decode cL_law 532 = .ok (.iload_n 3, 1) := by decide +kernel
theorem dL_law_533 : decode cL_law 533 = .ok (.iconst 1, 1) := by decide +kernel
theorem dL_law_534 : decode cL_law 534 = .ok (.iadd, 1) := by decide +kernel
theorem dL_law_535 : decode cL_law 535 = .ok (.iaload, 1) := by decide +kernel
theorem dL_law_536 : decode cL_law 536 = .ok (.aload_n 0, 1) := by decide +kernel
theorem dL_law_537 : decode cL_law 537 = .ok (.iload_n 3, 1) := by decide +kernel
theorem dL_law_538 : decode cL_law 538 = .ok (.iconst 2, 1) := by decide +kernel
theorem dL_law_539 : decode cL_law 539 = .ok (.iadd, 1) := by decide +kernel
theorem dL_law_540 : decode cL_law 540 = .ok (.iaload, 1) := by decide +kernel
theorem dL_law_541 : decode cL_law 541 = .ok (.invokevirtual 70, 3) := by decide +kernel
theorem dL_law_544 : decode cL_law 544 = .ok (.if_icmp .eq 453, 3) := by decide +kernel
theorem dL_law_547 : decode cL_law 547 = .ok (.iconst 0, 1) := by decide +kernel
theorem dL_law_548 : decode cL_law 548 = .ok (.ireturn, 1) := by decide +kernel
theorem dL_law_549 : decode cL_law 549 = .ok (.aload_n 1, 1) := by decide +kernel
theorem dL_law_550 : decode cL_law 550 = .ok (.aload_n 0, 1) := by decide +kernel
theorem dL_law_551 : decode cL_law 551 = .ok (.iload_n 3, 1) := by decide +kernel
theorem dL_law_552 : decode cL_law 552 = .ok (.iconst 1, 1) := by decide +kernel
theorem dL_law_553 : decode cL_law 553 = .ok (.iadd, 1) := by decide +kernel
theorem dL_law_554 : decode cL_law 554 = .ok (.iaload, 1) := by decide +kernel
theorem dL_law_555 : decode cL_law 555 = .ok (.aload_n 0, 1) := by decide +kernel
theorem dL_law_556 : decode cL_law 556 = .ok (.iload_n 3, 1) := by decide +kernel
theorem dL_law_557 : decode cL_law 557 = .ok (.iconst 2, 1) := by decide +kernel
theorem dL_law_558 : decode cL_law 558 = .ok (.iadd, 1) := by decide +kernel
theorem dL_law_559 : decode cL_law 559 = .ok (.iaload, 1) := by decide +kernel
theorem dL_law_560 : decode cL_law 560 = .ok (.aload_n 0, 1) := by decide +kernel
theorem dL_law_561 : decode cL_law 561 = .ok (.iload_n 3, 1) := by decide +kernel
theorem dL_law_562 : decode cL_law 562 = .ok (.iconst 3, 1) := by decide +kernel
theorem dL_law_563 : decode cL_law 563 = .ok (.iadd, 1) := by decide +kernel
theorem dL_law_564 : decode cL_law 564 = .ok (.iaload, 1) := by decide +kernel
theorem dL_law_565 : decode cL_law 565 = .ok (.invokevirtual 71, 3) := by decide +kernel
theorem dL_law_568 : decode cL_law 568 = .ok (.pop, 1) := by decide +kernel
theorem dL_law_569 : decode cL_law 569 = .ok (.aload_n 2, 1) := by decide +kernel
theorem dL_law_570 : decode cL_law 570 = .ok (.aload_n 0, 1) := by decide +kernel
theorem dL_law_571 : decode cL_law 571 = .ok (.iload_n 3, 1) := by decide +kernel
theorem dL_law_572 : decode cL_law 572 = .ok (.iconst 1, 1) := by decide +kernel
theorem dL_law_573 : decode cL_law 573 = .ok (.iadd, 1) := by decide +kernel
theorem dL_law_574 : decode cL_law 574 = .ok (.iaload, 1) := by decide +kernel
theorem dL_law_575 : decode cL_law 575 = .ok (.aload_n 0, 1) := by decide +kernel
theorem dL_law_576 : decode cL_law 576 = .ok (.iload_n 3, 1) := by decide +kernel
theorem dL_law_577 : decode cL_law 577 = .ok (.iconst 2, 1) := by decide +kernel
theorem dL_law_578 : decode cL_law 578 = .ok (.iadd, 1) := by decide +kernel
theorem dL_law_579 : decode cL_law 579 = .ok (.iaload, 1) := by decide +kernel
theorem dL_law_580 : decode cL_law 580 = .ok (.aload_n 0, 1) := by decide +kernel
theorem dL_law_581 : decode cL_law 581 = .ok (.iload_n 3, 1) := by decide +kernel
theorem dL_law_582 : decode cL_law 582 = .ok (.iconst 3, 1) := by decide +kernel
theorem dL_law_583 : decode cL_law 583 = .ok (.iadd, 1) := by decide +kernel
theorem dL_law_584 : decode cL_law 584 = .ok (.iaload, 1) := by decide +kernel
theorem dL_law_585 : decode cL_law 585 = .ok (.invokevirtual 74, 3) := by decide +kernel
theorem dL_law_588 : decode cL_law 588 = .ok (.pop, 1) := by decide +kernel
theorem dL_law_589 : decode cL_law 589 = .ok (.goto 408, 3) := by decide +kernel
theorem dL_law_592 : decode cL_law 592 = .ok (.aload_n 1, 1) := by decide +kernel
theorem dL_law_593 : decode cL_law 593 = .ok (.aload_n 0, 1) := by decide +kernel
theorem dL_law_594 : decode cL_law 594 = .ok (.iload_n 3, 1) := by decide +kernel
theorem dL_law_595 : decode cL_law 595 = .ok (.iconst 1, 1) := by decide +kernel
theorem dL_law_596 : decode cL_law 596 = .ok (.iadd, 1) := by decide +kernel
theorem dL_law_597 : decode cL_law 597 = .ok (.iaload, 1) := by decide +kernel
theorem dL_law_598 : decode cL_law 598 = .ok (.aload_n 0, 1) := by decide +kernel
theorem dL_law_599 : decode cL_law 599 = .ok (.iload_n 3, 1) := by decide +kernel
theorem dL_law_600 : decode cL_law 600 = .ok (.iconst 2, 1) := by decide +kernel
theorem dL_law_601 : decode cL_law 601 = .ok (.iadd, 1) := by decide +kernel
theorem dL_law_602 : decode cL_law 602 = .ok (.iaload, 1) := by decide +kernel
theorem dL_law_603 : decode cL_law 603 = .ok (.invokevirtual 75, 3) := by decide +kernel
theorem dL_law_606 : decode cL_law 606 = .ok (.pop, 1) := by decide +kernel
theorem dL_law_607 : decode cL_law 607 = .ok (.aload_n 2, 1) := by decide +kernel
theorem dL_law_608 : decode cL_law 608 = .ok (.aload_n 0, 1) := by decide +kernel
theorem dL_law_609 : decode cL_law 609 = .ok (.iload_n 3, 1) := by decide +kernel
theorem dL_law_610 : decode cL_law 610 = .ok (.iconst 1, 1) := by decide +kernel
theorem dL_law_611 : decode cL_law 611 = .ok (.iadd, 1) := by decide +kernel
theorem dL_law_612 : decode cL_law 612 = .ok (.iaload, 1) := by decide +kernel
theorem dL_law_613 : decode cL_law 613 = .ok (.aload_n 0, 1) := by decide +kernel
theorem dL_law_614 : decode cL_law 614 = .ok (.iload_n 3, 1) := by decide +kernel
theorem dL_law_615 : decode cL_law 615 = .ok (.iconst 2, 1) := by decide +kernel
theorem dL_law_616 : decode cL_law 616 = .ok (.iadd, 1) := by decide +kernel
theorem dL_law_617 : decode cL_law 617 = .ok (.iaload, 1) := by decide +kernel
theorem dL_law_618 : decode cL_law 618 = .ok (.invokevirtual 78, 3) := by decide +kernel
theorem dL_law_621 : decode cL_law 621 = .ok (.pop, 1) := by decide +kernel
theorem dL_law_622 : decode cL_law 622 = .ok (.goto 375, 3) := by decide +kernel
theorem dL_law_625 : decode cL_law 625 = .ok (.aload_n 1, 1) := by decide +kernel
theorem dL_law_626 : decode cL_law 626 = .ok (.aload_n 0, 1) := by decide +kernel
theorem dL_law_627 : decode cL_law 627 = .ok (.iload_n 3, 1) := by decide +kernel
theorem dL_law_628 : decode cL_law 628 = .ok (.iconst 1, 1) := by decide +kernel
theorem dL_law_629 : decode cL_law 629 = .ok (.iadd, 1) := by decide +kernel
theorem dL_law_630 : decode cL_law 630 = .ok (.iaload, 1) := by decide +kernel
theorem dL_law_631 : decode cL_law 631 = .ok (.invokevirtual 79, 3) := by decide +kernel
theorem dL_law_634 : decode cL_law 634 = .ok (.pop, 1) := by decide +kernel
theorem dL_law_635 : decode cL_law 635 = .ok (.aload_n 2, 1) := by decide +kernel
theorem dL_law_636 : decode cL_law 636 = .ok (.aload_n 0, 1) := by decide +kernel
theorem dL_law_637 : decode cL_law 637 = .ok (.iload_n 3, 1) := by decide +kernel
theorem dL_law_638 : decode cL_law 638 = .ok (.iconst 1, 1) := by decide +kernel
theorem dL_law_639 : decode cL_law 639 = .ok (.iadd, 1) := by decide +kernel
theorem dL_law_640 : decode cL_law 640 = .ok (.iaload, 1) := by decide +kernel
theorem dL_law_641 : decode cL_law 641 = .ok (.invokevirtual 82, 3) := by decide +kernel
theorem dL_law_644 : decode cL_law 644 = .ok (.pop, 1) := by decide +kernel
theorem dL_law_645 : decode cL_law 645 = .ok (.goto 352, 3) := by decide +kernel
theorem dL_law_648 : decode cL_law 648 = .ok (.aload_n 1, 1) := by decide +kernel
theorem dL_law_649 : decode cL_law 649 = .ok (.invokevirtual 83, 3) := by decide +kernel
theorem dL_law_652 : decode cL_law 652 = .ok (.pop, 1) := by decide +kernel
theorem dL_law_653 : decode cL_law 653 = .ok (.aload_n 2, 1) := by decide +kernel
theorem dL_law_654 : decode cL_law 654 = .ok (.invokevirtual 86, 3) := by decide +kernel
theorem dL_law_657 : decode cL_law 657 = .ok (.pop, 1) := by decide +kernel
theorem dL_law_658 : decode cL_law 658 = .ok (.goto 339, 3) := by decide +kernel
theorem dL_law_661 : decode cL_law 661 = .ok (.aload_n 1, 1) := by decide +kernel
theorem dL_law_662 : decode cL_law 662 = .ok (.aload_n 0, 1) := by decide +kernel
theorem dL_law_663 : decode cL_law 663 = .ok (.iload_n 3, 1) := by decide +kernel
theorem dL_law_664 : decode cL_law 664 = .ok (.iconst 1, 1) := by decide +kernel
theorem dL_law_665 : decode cL_law 665 = .ok (.iadd, 1) := by decide +kernel
theorem dL_law_666 : decode cL_law 666 = .ok (.iaload, 1) := by decide +kernel
theorem dL_law_667 : decode cL_law 667 = .ok (.aload_n 0, 1) := by decide +kernel
theorem dL_law_668 : decode cL_law 668 = .ok (.iload_n 3, 1) := by decide +kernel
theorem dL_law_669 : decode cL_law 669 = .ok (.iconst 2, 1) := by decide +kernel
theorem dL_law_670 : decode cL_law 670 = .ok (.iadd, 1) := by decide +kernel
theorem dL_law_671 : decode cL_law 671 = .ok (.iaload, 1) := by decide +kernel
theorem dL_law_672 : decode cL_law 672 = .ok (.invokevirtual 87, 3) := by decide +kernel
theorem dL_law_675 : decode cL_law 675 = .ok (.pop, 1) := by decide +kernel
theorem dL_law_676 : decode cL_law 676 = .ok (.aload_n 2, 1) := by decide +kernel
theorem dL_law_677 : decode cL_law 677 = .ok (.aload_n 0, 1) := by decide +kernel
theorem dL_law_678 : decode cL_law 678 = .ok (.iload_n 3, 1) := by decide +kernel
theorem dL_law_679 : decode cL_law 679 = .ok (.iconst 1, 1) := by decide +kernel
theorem dL_law_680 : decode cL_law 680 = .ok (.iadd, 1) := by decide +kernel
theorem dL_law_681 : decode cL_law 681 = .ok (.iaload, 1) := by decide +kernel
theorem dL_law_682 : decode cL_law 682 = .ok (.aload_n 0, 1) := by decide +kernel
theorem dL_law_683 : decode cL_law 683 = .ok (.iload_n 3, 1) := by decide +kernel
theorem dL_law_684 : decode cL_law 684 = .ok (.iconst 2, 1) := by decide +kernel
theorem dL_law_685 : decode cL_law 685 = .ok (.iadd, 1) := by decide +kernel
theorem dL_law_686 : decode cL_law 686 = .ok (.iaload, 1) := by decide +kernel
theorem dL_law_687 : decode cL_law 687 = .ok (.invokevirtual 90, 3) := by decide +kernel
theorem dL_law_690 : decode cL_law 690 = .ok (.pop, 1) := by decide +kernel
theorem dL_law_691 : decode cL_law 691 = .ok (.goto 306, 3) := by decide +kernel
theorem dL_law_694 : decode cL_law 694 = .ok (.aload_n 1, 1) := by decide +kernel
theorem dL_law_695 : decode cL_law 695 = .ok (.aload_n 0, 1) := by decide +kernel
theorem dL_law_696 : decode cL_law 696 = .ok (.iload_n 3, 1) := by decide +kernel
theorem dL_law_697 : decode cL_law 697 = .ok (.iconst 1, 1) := by decide +kernel
theorem dL_law_698 : decode cL_law 698 = .ok (.iadd, 1) := by decide +kernel
theorem dL_law_699 : decode cL_law 699 = .ok (.iaload, 1) := by decide +kernel
theorem dL_law_700 : decode cL_law 700 = .ok (.aload_n 0, 1) := by decide +kernel
theorem dL_law_701 : decode cL_law 701 = .ok (.iload_n 3, 1) := by decide +kernel
theorem dL_law_702 : decode cL_law 702 = .ok (.iconst 2, 1) := by decide +kernel
theorem dL_law_703 : decode cL_law 703 = .ok (.iadd, 1) := by decide +kernel
theorem dL_law_704 : decode cL_law 704 = .ok (.iaload, 1) := by decide +kernel
theorem dL_law_705 : decode cL_law 705 = .ok (.invokevirtual 91, 3) := by decide +kernel
theorem dL_law_708 : decode cL_law 708 = .ok (.pop, 1) := by decide +kernel
theorem dL_law_709 : decode cL_law 709 = .ok (.aload_n 2, 1) := by decide +kernel
theorem dL_law_710 : decode cL_law 710 = .ok (.aload_n 0, 1) := by decide +kernel
theorem dL_law_711 : decode cL_law 711 = .ok (.iload_n 3, 1) := by decide +kernel
theorem dL_law_712 : decode cL_law 712 = .ok (.iconst 1, 1) := by decide +kernel
theorem dL_law_713 : decode cL_law 713 = .ok (.iadd, 1) := by decide +kernel
theorem dL_law_714 : decode cL_law 714 = .ok (.iaload, 1) := by decide +kernel
theorem dL_law_715 : decode cL_law 715 = .ok (.aload_n 0, 1) := by decide +kernel
theorem dL_law_716 : decode cL_law 716 = .ok (.iload_n 3, 1) := by decide +kernel
theorem dL_law_717 : decode cL_law 717 = .ok (.iconst 2, 1) := by decide +kernel
theorem dL_law_718 : decode cL_law 718 = .ok (.iadd, 1) := by decide +kernel
theorem dL_law_719 : decode cL_law 719 = .ok (.iaload, 1) := by decide +kernel
theorem dL_law_720 : decode cL_law 720 = .ok (.invokevirtual 94, 3) := by decide +kernel
theorem dL_law_723 : decode cL_law 723 = .ok (.pop, 1) := by decide +kernel
theorem dL_law_724 : decode cL_law 724 = .ok (.goto 273, 3) := by decide +kernel
theorem dL_law_727 : decode cL_law 727 = .ok (.aload_n 1, 1) := by decide +kernel
theorem dL_law_728 : decode cL_law 728 = .ok (.invokevirtual 95, 3) := by decide +kernel
theorem dL_law_731 : decode cL_law 731 = .ok (.pop, 1) := by decide +kernel
theorem dL_law_732 : decode cL_law 732 = .ok (.aload_n 2, 1) := by decide +kernel
theorem dL_law_733 : decode cL_law 733 = .ok (.invokevirtual 98, 3) := by decide +kernel
theorem dL_law_736 : decode cL_law 736 = .ok (.pop, 1) := by decide +kernel
theorem dL_law_737 : decode cL_law 737 = .ok (.goto 260, 3) := by decide +kernel
theorem dL_law_740 : decode cL_law 740 = .ok (.aload_n 1, 1) := by decide +kernel
theorem dL_law_741 : decode cL_law 741 = .ok (.aload_n 0, 1) := by decide +kernel
theorem dL_law_742 : decode cL_law 742 = .ok (.iload_n 3, 1) := by decide +kernel
theorem dL_law_743 : decode cL_law 743 = .ok (.iconst 1, 1) := by decide +kernel
theorem dL_law_744 : decode cL_law 744 = .ok (.iadd, 1) := by decide +kernel
theorem dL_law_745 : decode cL_law 745 = .ok (.iaload, 1) := by decide +kernel
theorem dL_law_746 : decode cL_law 746 = .ok (.invokevirtual 99, 3) := by decide +kernel
theorem dL_law_749 : decode cL_law 749 = .ok (.pop, 1) := by decide +kernel
theorem dL_law_750 : decode cL_law 750 = .ok (.aload_n 2, 1) := by decide +kernel
theorem dL_law_751 : decode cL_law 751 = .ok (.aload_n 0, 1) := by decide +kernel
theorem dL_law_752 : decode cL_law 752 = .ok (.iload_n 3, 1) := by decide +kernel
theorem dL_law_753 : decode cL_law 753 = .ok (.iconst 1, 1) := by decide +kernel
theorem dL_law_754 : decode cL_law 754 = .ok (.iadd, 1) := by decide +kernel
theorem dL_law_755 : decode cL_law 755 = .ok (.iaload, 1) := by decide +kernel
theorem dL_law_756 : decode cL_law 756 = .ok (.invokevirtual 102, 3) := by decide +kernel
theorem dL_law_759 : decode cL_law 759 = .ok (.pop, 1) := by decide +kernel
theorem dL_law_760 : decode cL_law 760 = .ok (.goto 237, 3) := by decide +kernel
theorem dL_law_763 : decode cL_law 763 = .ok (.aload_n 1, 1) := by decide +kernel
theorem dL_law_764 : decode cL_law 764 = .ok (.invokevirtual 103, 3) := by decide +kernel
theorem dL_law_767 : decode cL_law 767 = .ok (.pop, 1) := by decide +kernel
theorem dL_law_768 : decode cL_law 768 = .ok (.aload_n 2, 1) := by decide +kernel
theorem dL_law_769 : decode cL_law 769 = .ok (.invokevirtual 106, 3) := by decide +kernel
theorem dL_law_772 : decode cL_law 772 = .ok (.pop, 1) := by decide +kernel
theorem dL_law_773 : decode cL_law 773 = .ok (.goto 224, 3) := by decide +kernel
theorem dL_law_776 : decode cL_law 776 = .ok (.aload_n 1, 1) := by decide +kernel
theorem dL_law_777 : decode cL_law 777 = .ok (.aload_n 0, 1) := by decide +kernel
theorem dL_law_778 : decode cL_law 778 = .ok (.iload_n 3, 1) := by decide +kernel
theorem dL_law_779 : decode cL_law 779 = .ok (.iconst 1, 1) := by decide +kernel
theorem dL_law_780 : decode cL_law 780 = .ok (.iadd, 1) := by decide +kernel
theorem dL_law_781 : decode cL_law 781 = .ok (.iaload, 1) := by decide +kernel
theorem dL_law_782 : decode cL_law 782 = .ok (.invokevirtual 107, 3) := by decide +kernel
theorem dL_law_785 : decode cL_law 785 = .ok (.pop, 1) := by decide +kernel
theorem dL_law_786 : decode cL_law 786 = .ok (.aload_n 2, 1) := by decide +kernel
theorem dL_law_787 : decode cL_law 787 = .ok (.aload_n 0, 1) := by decide +kernel
theorem dL_law_788 : decode cL_law 788 = .ok (.iload_n 3, 1) := by decide +kernel
theorem dL_law_789 : decode cL_law 789 = .ok (.iconst 1, 1) := by decide +kernel
theorem dL_law_790 : decode cL_law 790 = .ok (.iadd, 1) := by decide +kernel
theorem dL_law_791 : decode cL_law 791 = .ok (.iaload, 1) := by decide +kernel
theorem dL_law_792 : decode cL_law 792 = .ok (.invokevirtual 110, 3) := by decide +kernel
theorem dL_law_795 : decode cL_law 795 = .ok (.pop, 1) := by decide +kernel
theorem dL_law_796 : decode cL_law 796 = .ok (.goto 201, 3) := by decide +kernel
theorem dL_law_799 : decode cL_law 799 = .ok (.aload_n 1, 1) := by decide +kernel
theorem dL_law_800 : decode cL_law 800 = .ok (.aload_n 0, 1) := by decide +kernel
theorem dL_law_801 : decode cL_law 801 = .ok (.iload_n 3, 1) := by decide +kernel
theorem dL_law_802 : decode cL_law 802 = .ok (.iconst 1, 1) := by decide +kernel
theorem dL_law_803 : decode cL_law 803 = .ok (.iadd, 1) := by decide +kernel
theorem dL_law_804 : decode cL_law 804 = .ok (.iaload, 1) := by decide +kernel
theorem dL_law_805 : decode cL_law 805 = .ok (.aload_n 0, 1) := by decide +kernel
theorem dL_law_806 : decode cL_law 806 = .ok (.iload_n 3, 1) := by decide +kernel
theorem dL_law_807 : decode cL_law 807 = .ok (.iconst 2, 1) := by decide +kernel
theorem dL_law_808 : decode cL_law 808 = .ok (.iadd, 1) := by decide +kernel
theorem dL_law_809 : decode cL_law 809 = .ok (.iaload, 1) := by decide +kernel
theorem dL_law_810 : decode cL_law 810 = .ok (.aload_n 0, 1) := by decide +kernel
theorem dL_law_811 : decode cL_law 811 = .ok (.iload_n 3, 1) := by decide +kernel
theorem dL_law_812 : decode cL_law 812 = .ok (.iconst 3, 1) := by decide +kernel
theorem dL_law_813 : decode cL_law 813 = .ok (.iadd, 1) := by decide +kernel
theorem dL_law_814 : decode cL_law 814 = .ok (.iaload, 1) := by decide +kernel
theorem dL_law_815 : decode cL_law 815 = .ok (.invokevirtual 111, 3) := by decide +kernel
theorem dL_law_818 : decode cL_law 818 = .ok (.pop2, 1) := by decide +kernel
theorem dL_law_819 : decode cL_law 819 = .ok (.aload_n 2, 1) := by decide +kernel
theorem dL_law_820 : decode cL_law 820 = .ok (.aload_n 0, 1) := by decide +kernel
theorem dL_law_821 : decode cL_law 821 = .ok (.iload_n 3, 1) := by decide +kernel
theorem dL_law_822 : decode cL_law 822 = .ok (.iconst 1, 1) := by decide +kernel
theorem dL_law_823 : decode cL_law 823 = .ok (.iadd, 1) := by decide +kernel
theorem dL_law_824 : decode cL_law 824 = .ok (.iaload, 1) := by decide +kernel
theorem dL_law_825 : decode cL_law 825 = .ok (.aload_n 0, 1) := by decide +kernel
theorem dL_law_826 : decode cL_law 826 = .ok (.iload_n 3, 1) := by decide +kernel
theorem dL_law_827 : decode cL_law 827 = .ok (.iconst 2, 1) := by decide +kernel
theorem dL_law_828 : decode cL_law 828 = .ok (.iadd, 1) := by decide +kernel
theorem dL_law_829 : decode cL_law 829 = .ok (.iaload, 1) := by decide +kernel
theorem dL_law_830 : decode cL_law 830 = .ok (.aload_n 0, 1) := by decide +kernel
theorem dL_law_831 : decode cL_law 831 = .ok (.iload_n 3, 1) := by decide +kernel
theorem dL_law_832 : decode cL_law 832 = .ok (.iconst 3, 1) := by decide +kernel
theorem dL_law_833 : decode cL_law 833 = .ok (.iadd, 1) := by decide +kernel
theorem dL_law_834 : decode cL_law 834 = .ok (.iaload, 1) := by decide +kernel
theorem dL_law_835 : decode cL_law 835 = .ok (.invokevirtual 115, 3) := by decide +kernel
theorem dL_law_838 : decode cL_law 838 = .ok (.pop2, 1) := by decide +kernel
theorem dL_law_839 : decode cL_law 839 = .ok (.goto 158, 3) := by decide +kernel
theorem dL_law_842 : decode cL_law 842 = .ok (.aload_n 1, 1) := by decide +kernel
theorem dL_law_843 : decode cL_law 843 = .ok (.aload_n 0, 1) := by decide +kernel
theorem dL_law_844 : decode cL_law 844 = .ok (.iload_n 3, 1) := by decide +kernel
theorem dL_law_845 : decode cL_law 845 = .ok (.iconst 1, 1) := by decide +kernel
theorem dL_law_846 : decode cL_law 846 = .ok (.iadd, 1) := by decide +kernel
theorem dL_law_847 : decode cL_law 847 = .ok (.iaload, 1) := by decide +kernel
theorem dL_law_848 : decode cL_law 848 = .ok (.aload_n 0, 1) := by decide +kernel
theorem dL_law_849 : decode cL_law 849 = .ok (.iload_n 3, 1) := by decide +kernel
theorem dL_law_850 : decode cL_law 850 = .ok (.iconst 2, 1) := by decide +kernel
theorem dL_law_851 : decode cL_law 851 = .ok (.iadd, 1) := by decide +kernel
theorem dL_law_852 : decode cL_law 852 = .ok (.iaload, 1) := by decide +kernel
theorem dL_law_853 : decode cL_law 853 = .ok (.aload_n 0, 1) := by decide +kernel
theorem dL_law_854 : decode cL_law 854 = .ok (.iload_n 3, 1) := by decide +kernel
theorem dL_law_855 : decode cL_law 855 = .ok (.iconst 3, 1) := by decide +kernel
theorem dL_law_856 : decode cL_law 856 = .ok (.iadd, 1) := by decide +kernel
theorem dL_law_857 : decode cL_law 857 = .ok (.iaload, 1) := by decide +kernel
theorem dL_law_858 : decode cL_law 858 = .ok (.invokevirtual 116, 3) := by decide +kernel
theorem dL_law_861 : decode cL_law 861 = .ok (.pop, 1) := by decide +kernel
theorem dL_law_862 : decode cL_law 862 = .ok (.aload_n 2, 1) := by decide +kernel
theorem dL_law_863 : decode cL_law 863 = .ok (.aload_n 0, 1) := by decide +kernel
theorem dL_law_864 : decode cL_law 864 = .ok (.iload_n 3, 1) := by decide +kernel
theorem dL_law_865 : decode cL_law 865 = .ok (.iconst 1, 1) := by decide +kernel
theorem dL_law_866 : decode cL_law 866 = .ok (.iadd, 1) := by decide +kernel
theorem dL_law_867 : decode cL_law 867 = .ok (.iaload, 1) := by decide +kernel
theorem dL_law_868 : decode cL_law 868 = .ok (.aload_n 0, 1) := by decide +kernel
theorem dL_law_869 : decode cL_law 869 = .ok (.iload_n 3, 1) := by decide +kernel
theorem dL_law_870 : decode cL_law 870 = .ok (.iconst 2, 1) := by decide +kernel
theorem dL_law_871 : decode cL_law 871 = .ok (.iadd, 1) := by decide +kernel
theorem dL_law_872 : decode cL_law 872 = .ok (.iaload, 1) := by decide +kernel
theorem dL_law_873 : decode cL_law 873 = .ok (.aload_n 0, 1) := by decide +kernel
theorem dL_law_874 : decode cL_law 874 = .ok (.iload_n 3, 1) := by decide +kernel
theorem dL_law_875 : decode cL_law 875 = .ok (.iconst 3, 1) := by decide +kernel
theorem dL_law_876 : decode cL_law 876 = .ok (.iadd, 1) := by decide +kernel
theorem dL_law_877 : decode cL_law 877 = .ok (.iaload, 1) := by decide +kernel
theorem dL_law_878 : decode cL_law 878 = .ok (.invokevirtual 119, 3) := by decide +kernel
theorem dL_law_881 : decode cL_law 881 = .ok (.pop, 1) := by decide +kernel
theorem dL_law_882 : decode cL_law 882 = .ok (.goto 115, 3) := by decide +kernel
theorem dL_law_885 : decode cL_law 885 = .ok (.aload_n 1, 1) := by decide +kernel
theorem dL_law_886 : decode cL_law 886 = .ok (.aload_n 0, 1) := by decide +kernel
theorem dL_law_887 : decode cL_law 887 = .ok (.iload_n 3, 1) := by decide +kernel
theorem dL_law_888 : decode cL_law 888 = .ok (.iconst 1, 1) := by decide +kernel
theorem dL_law_889 : decode cL_law 889 = .ok (.iadd, 1) := by decide +kernel
theorem dL_law_890 : decode cL_law 890 = .ok (.iaload, 1) := by decide +kernel
theorem dL_law_891 : decode cL_law 891 = .ok (.aload_n 0, 1) := by decide +kernel
theorem dL_law_892 : decode cL_law 892 = .ok (.iload_n 3, 1) := by decide +kernel
theorem dL_law_893 : decode cL_law 893 = .ok (.iconst 2, 1) := by decide +kernel
theorem dL_law_894 : decode cL_law 894 = .ok (.iadd, 1) := by decide +kernel
theorem dL_law_895 : decode cL_law 895 = .ok (.iaload, 1) := by decide +kernel
theorem dL_law_896 : decode cL_law 896 = .ok (.aload_n 0, 1) := by decide +kernel
theorem dL_law_897 : decode cL_law 897 = .ok (.iload_n 3, 1) := by decide +kernel
theorem dL_law_898 : decode cL_law 898 = .ok (.iconst 3, 1) := by decide +kernel
theorem dL_law_899 : decode cL_law 899 = .ok (.iadd, 1) := by decide +kernel
theorem dL_law_900 : decode cL_law 900 = .ok (.iaload, 1) := by decide +kernel
theorem dL_law_901 : decode cL_law 901 = .ok (.invokevirtual 120, 3) := by decide +kernel
theorem dL_law_904 : decode cL_law 904 = .ok (.pop, 1) := by decide +kernel
theorem dL_law_905 : decode cL_law 905 = .ok (.aload_n 2, 1) := by decide +kernel
theorem dL_law_906 : decode cL_law 906 = .ok (.aload_n 0, 1) := by decide +kernel
theorem dL_law_907 : decode cL_law 907 = .ok (.iload_n 3, 1) := by decide +kernel
theorem dL_law_908 : decode cL_law 908 = .ok (.iconst 1, 1) := by decide +kernel
theorem dL_law_909 : decode cL_law 909 = .ok (.iadd, 1) := by decide +kernel
theorem dL_law_910 : decode cL_law 910 = .ok (.iaload, 1) := by decide +kernel
theorem dL_law_911 : decode cL_law 911 = .ok (.aload_n 0, 1) := by decide +kernel
theorem dL_law_912 : decode cL_law 912 = .ok (.iload_n 3, 1) := by decide +kernel
theorem dL_law_913 : decode cL_law 913 = .ok (.iconst 2, 1) := by decide +kernel
theorem dL_law_914 : decode cL_law 914 = .ok (.iadd, 1) := by decide +kernel
theorem dL_law_915 : decode cL_law 915 = .ok (.iaload, 1) := by decide +kernel
theorem dL_law_916 : decode cL_law 916 = .ok (.aload_n 0, 1) := by decide +kernel
theorem dL_law_917 : decode cL_law 917 = .ok (.iload_n 3, 1) := by decide +kernel
theorem dL_law_918 : decode cL_law 918 = .ok (.iconst 3, 1) := by decide +kernel
theorem dL_law_919 : decode cL_law 919 = .ok (.iadd, 1) := by decide +kernel
theorem dL_law_920 : decode cL_law 920 = .ok (.iaload, 1) := by decide +kernel
theorem dL_law_921 : decode cL_law 921 = .ok (.invokevirtual 123, 3) := by decide +kernel
theorem dL_law_924 : decode cL_law 924 = .ok (.pop, 1) := by decide +kernel
theorem dL_law_925 : decode cL_law 925 = .ok (.goto 72, 3) := by decide +kernel
theorem dL_law_928 : decode cL_law 928 = .ok (.aload_n 1, 1) := by decide +kernel
theorem dL_law_929 : decode cL_law 929 = .ok (.aload_n 0, 1) := by decide +kernel
theorem dL_law_930 : decode cL_law 930 = .ok (.iload_n 3, 1) := by decide +kernel
theorem dL_law_931 : decode cL_law 931 = .ok (.iconst 1, 1) := by decide +kernel
theorem dL_law_932 : decode cL_law 932 = .ok (.iadd, 1) := by decide +kernel
theorem dL_law_933 : decode cL_law 933 = .ok (.iaload, 1) := by decide +kernel
theorem dL_law_934 : decode cL_law 934 = .ok (.invokevirtual 124, 3) := by decide +kernel
theorem dL_law_937 : decode cL_law 937 = .ok (.pop, 1) := by decide +kernel
theorem dL_law_938 : decode cL_law 938 = .ok (.aload_n 2, 1) := by decide +kernel
theorem dL_law_939 : decode cL_law 939 = .ok (.aload_n 0, 1) := by decide +kernel
theorem dL_law_940 : decode cL_law 940 = .ok (.iload_n 3, 1) := by decide +kernel
theorem dL_law_941 : decode cL_law 941 = .ok (.iconst 1, 1) := by decide +kernel
theorem dL_law_942 : decode cL_law 942 = .ok (.iadd, 1) := by decide +kernel
theorem dL_law_943 : decode cL_law 943 = .ok (.iaload, 1) := by decide +kernel
theorem dL_law_944 : decode cL_law 944 = .ok (.invokevirtual 127, 3) := by decide +kernel
theorem dL_law_947 : decode cL_law 947 = .ok (.pop, 1) := by decide +kernel
theorem dL_law_948 : decode cL_law 948 = .ok (.goto 49, 3) := by decide +kernel
theorem dL_law_951 : decode cL_law 951 = .ok (.aload_n 1, 1) := by decide +kernel
theorem dL_law_952 : decode cL_law 952 = .ok (.aload_n 0, 1) := by decide +kernel
theorem dL_law_953 : decode cL_law 953 = .ok (.iload_n 3, 1) := by decide +kernel
theorem dL_law_954 : decode cL_law 954 = .ok (.iconst 1, 1) := by decide +kernel
theorem dL_law_955 : decode cL_law 955 = .ok (.iadd, 1) := by decide +kernel
theorem dL_law_956 : decode cL_law 956 = .ok (.iaload, 1) := by decide +kernel
theorem dL_law_957 : decode cL_law 957 = .ok (.invokevirtual 128, 3) := by decide +kernel
theorem dL_law_960 : decode cL_law 960 = .ok (.pop, 1) := by decide +kernel
theorem dL_law_961 : decode cL_law 961 = .ok (.aload_n 2, 1) := by decide +kernel
theorem dL_law_962 : decode cL_law 962 = .ok (.aload_n 0, 1) := by decide +kernel
theorem dL_law_963 : decode cL_law 963 = .ok (.iload_n 3, 1) := by decide +kernel
theorem dL_law_964 : decode cL_law 964 = .ok (.iconst 1, 1) := by decide +kernel
theorem dL_law_965 : decode cL_law 965 = .ok (.iadd, 1) := by decide +kernel
theorem dL_law_966 : decode cL_law 966 = .ok (.iaload, 1) := by decide +kernel
theorem dL_law_967 : decode cL_law 967 = .ok (.invokevirtual 131, 3) := by decide +kernel
theorem dL_law_970 : decode cL_law 970 = .ok (.pop, 1) := by decide +kernel
theorem dL_law_971 : decode cL_law 971 = .ok (.goto 26, 3) := by decide +kernel
theorem dL_law_974 : decode cL_law 974 = .ok (.aload_n 1, 1) := by decide +kernel
theorem dL_law_975 : decode cL_law 975 = .ok (.aload_n 0, 1) := by decide +kernel
theorem dL_law_976 : decode cL_law 976 = .ok (.iload_n 3, 1) := by decide +kernel
theorem dL_law_977 : decode cL_law 977 = .ok (.iconst 1, 1) := by decide +kernel
theorem dL_law_978 : decode cL_law 978 = .ok (.iadd, 1) := by decide +kernel
theorem dL_law_979 : decode cL_law 979 = .ok (.iaload, 1) := by decide +kernel
theorem dL_law_980 : decode cL_law 980 = .ok (.invokevirtual 132, 3) := by decide +kernel
theorem dL_law_983 : decode cL_law 983 = .ok (.pop, 1) := by decide +kernel
theorem dL_law_984 : decode cL_law 984 = .ok (.aload_n 2, 1) := by decide +kernel
theorem dL_law_985 : decode cL_law 985 = .ok (.aload_n 0, 1) := by decide +kernel
theorem dL_law_986 : decode cL_law 986 = .ok (.iload_n 3, 1) := by decide +kernel
theorem dL_law_987 : decode cL_law 987 = .ok (.iconst 1, 1) := by decide +kernel
theorem dL_law_988 : decode cL_law 988 = .ok (.iadd, 1) := by decide +kernel
theorem dL_law_989 : decode cL_law 989 = .ok (.iaload, 1) := by decide +kernel
theorem dL_law_990 : decode cL_law 990 = .ok (.invokevirtual 135, 3) := by decide +kernel
theorem dL_law_993 : decode cL_law 993 = .ok (.pop, 1) := by decide +kernel
theorem dL_law_994 : decode cL_law 994 = .ok (.goto 3, 3) := by decide +kernel
theorem dL_law_997 : decode cL_law 997 = .ok (.iinc 3 5, 3) := by decide +kernel
theorem dL_law_1000 : decode cL_law 1000 = .ok (.goto (-982), 3) := by decide +kernel
theorem dL_law_1003 : decode cL_law 1003 = .ok (.iconst 1, 1) := by decide +kernel
theorem dL_law_1004 : decode cL_law 1004 = .ok (.ireturn, 1) := by decide +kernel
abbrev vwCl : List vw_C := [(RX0, TX0, 12), (RX1, TX1, 14), (RX2, TX2, 6), (RX3, TX3, 6), (RX4, TX4, 6), (RX5, TX5, 11), (RX6, TX6, 4), (RX7, TX7, 10), (RX8, TX8, 53)]

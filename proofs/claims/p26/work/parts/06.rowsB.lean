theorem dJ6_bitCount_0f7a4_0 : decode cJ6_bitCount_0f7a4 0 = .ok (.iload_n 0, 1) := by decide +kernel
theorem dJ6_bitCount_0f7a4_1 : decode cJ6_bitCount_0f7a4 1 = .ok (.iload_n 0, 1) := by decide +kernel
theorem dJ6_bitCount_0f7a4_2 : decode cJ6_bitCount_0f7a4 2 = .ok (.iconst 1, 1) := by decide +kernel
theorem dJ6_bitCount_0f7a4_3 : decode cJ6_bitCount_0f7a4 3 = .ok (.iushr, 1) := by decide +kernel
theorem dJ6_bitCount_0f7a4_4 : decode cJ6_bitCount_0f7a4 4 = .ok (.ldc_w 265, 3) := by decide +kernel
theorem dJ6_bitCount_0f7a4_7 : decode cJ6_bitCount_0f7a4 7 = .ok (.iand, 1) := by decide +kernel
theorem dJ6_bitCount_0f7a4_8 : decode cJ6_bitCount_0f7a4 8 = .ok (.isub, 1) := by decide +kernel
theorem dJ6_bitCount_0f7a4_9 : decode cJ6_bitCount_0f7a4 9 = .ok (.istore_n 0, 1) := by decide +kernel
theorem dJ6_bitCount_0f7a4_10 : decode cJ6_bitCount_0f7a4 10 = .ok (.iload_n 0, 1) := by decide +kernel
theorem dJ6_bitCount_0f7a4_11 : decode cJ6_bitCount_0f7a4 11 = .ok (.ldc_w 266, 3) := by decide +kernel
theorem dJ6_bitCount_0f7a4_14 : decode cJ6_bitCount_0f7a4 14 = .ok (.iand, 1) := by decide +kernel
theorem dJ6_bitCount_0f7a4_15 : decode cJ6_bitCount_0f7a4 15 = .ok (.iload_n 0, 1) := by decide +kernel
theorem dJ6_bitCount_0f7a4_16 : decode cJ6_bitCount_0f7a4 16 = .ok (.iconst 2, 1) := by decide +kernel
theorem dJ6_bitCount_0f7a4_17 : decode cJ6_bitCount_0f7a4 17 = .ok (.iushr, 1) := by decide +kernel
theorem dJ6_bitCount_0f7a4_18 : decode cJ6_bitCount_0f7a4 18 = .ok (.ldc_w 266, 3) := by decide +kernel
theorem dJ6_bitCount_0f7a4_21 : decode cJ6_bitCount_0f7a4 21 = .ok (.iand, 1) := by decide +kernel
theorem dJ6_bitCount_0f7a4_22 : decode cJ6_bitCount_0f7a4 22 = .ok (.iadd, 1) := by decide +kernel
theorem dJ6_bitCount_0f7a4_23 : decode cJ6_bitCount_0f7a4 23 = .ok (.istore_n 0, 1) := by decide +kernel
theorem dJ6_bitCount_0f7a4_24 : decode cJ6_bitCount_0f7a4 24 = .ok (.iload_n 0, 1) := by decide +kernel
theorem dJ6_bitCount_0f7a4_25 : decode cJ6_bitCount_0f7a4 25 = .ok (.iload_n 0, 1) := by decide +kernel
theorem dJ6_bitCount_0f7a4_26 : decode cJ6_bitCount_0f7a4 26 = .ok (.iconst 4, 1) := by decide +kernel
theorem dJ6_bitCount_0f7a4_27 : decode cJ6_bitCount_0f7a4 27 = .ok (.iushr, 1) := by decide +kernel
theorem dJ6_bitCount_0f7a4_28 : decode cJ6_bitCount_0f7a4 28 = .ok (.iadd, 1) := by decide +kernel
theorem dJ6_bitCount_0f7a4_29 : decode cJ6_bitCount_0f7a4 29 = .ok (.ldc_w 267, 3) := by decide +kernel
theorem dJ6_bitCount_0f7a4_32 : decode cJ6_bitCount_0f7a4 32 = .ok (.iand, 1) := by decide +kernel
theorem dJ6_bitCount_0f7a4_33 : decode cJ6_bitCount_0f7a4 33 = .ok (.istore_n 0, 1) := by decide +kernel
theorem dJ6_bitCount_0f7a4_34 : decode cJ6_bitCount_0f7a4 34 = .ok (.iload_n 0, 1) := by decide +kernel
theorem dJ6_bitCount_0f7a4_35 : decode cJ6_bitCount_0f7a4 35 = .ok (.iload_n 0, 1) := by decide +kernel
theorem dJ6_bitCount_0f7a4_36 : decode cJ6_bitCount_0f7a4 36 = .ok (.bipush 8, 2) := by decide +kernel
theorem dJ6_bitCount_0f7a4_38 : decode cJ6_bitCount_0f7a4 38 = .ok (.iushr, 1) := by decide +kernel
theorem dJ6_bitCount_0f7a4_39 : decode cJ6_bitCount_0f7a4 39 = .ok (.iadd, 1) := by decide +kernel
theorem dJ6_bitCount_0f7a4_40 : decode cJ6_bitCount_0f7a4 40 = .ok (.istore_n 0, 1) := by decide +kernel
theorem dJ6_bitCount_0f7a4_41 : decode cJ6_bitCount_0f7a4 41 = .ok (.iload_n 0, 1) := by decide +kernel
theorem dJ6_bitCount_0f7a4_42 : decode cJ6_bitCount_0f7a4 42 = .ok (.iload_n 0, 1) := by decide +kernel
theorem dJ6_bitCount_0f7a4_43 : decode cJ6_bitCount_0f7a4 43 = .ok (.bipush 16, 2) := by decide +kernel
theorem dJ6_bitCount_0f7a4_45 : decode cJ6_bitCount_0f7a4 45 = .ok (.iushr, 1) := by decide +kernel
theorem dJ6_bitCount_0f7a4_46 : decode cJ6_bitCount_0f7a4 46 = .ok (.iadd, 1) := by decide +kernel
theorem dJ6_bitCount_0f7a4_47 : decode cJ6_bitCount_0f7a4 47 = .ok (.istore_n 0, 1) := by decide +kernel
theorem dJ6_bitCount_0f7a4_48 : decode cJ6_bitCount_0f7a4 48 = .ok (.iload_n 0, 1) := by decide +kernel
theorem dJ6_bitCount_0f7a4_49 : decode cJ6_bitCount_0f7a4 49 = .ok (.bipush 63, 2) := by decide +kernel
theorem dJ6_bitCount_0f7a4_51 : decode cJ6_bitCount_0f7a4 51 = .ok (.iand, 1) := by decide +kernel
theorem dJ6_bitCount_0f7a4_52 : decode cJ6_bitCount_0f7a4 52 = .ok (.ireturn, 1) := by decide +kernel
theorem dJ9_max_7cf53_0 : decode cJ9_max_7cf53 0 = .ok (.iload_n 0, 1) := by decide +kernel
theorem dJ9_max_7cf53_1 : decode cJ9_max_7cf53 1 = .ok (.iload_n 1, 1) := by decide +kernel
theorem dJ9_max_7cf53_2 : decode cJ9_max_7cf53 2 = .ok (.if_icmp .lt 7, 3) := by decide +kernel
theorem dJ9_max_7cf53_5 : decode cJ9_max_7cf53 5 = .ok (.iload_n 0, 1) := by decide +kernel
theorem dJ9_max_7cf53_6 : decode cJ9_max_7cf53 6 = .ok (.goto 4, 3) := by decide +kernel
theorem dJ9_max_7cf53_9 : decode cJ9_max_7cf53 9 = .ok (.iload_n 1, 1) := by decide +kernel
theorem dJ9_max_7cf53_10 : decode cJ9_max_7cf53 10 = .ok (.ireturn, 1) := by decide +kernel
theorem dJ9_min_7cf53_0 : decode cJ9_min_7cf53 0 = .ok (.iload_n 0, 1) := by decide +kernel
theorem dJ9_min_7cf53_1 : decode cJ9_min_7cf53 1 = .ok (.iload_n 1, 1) := by decide +kernel
theorem dJ9_min_7cf53_2 : decode cJ9_min_7cf53 2 = .ok (.if_icmp .gt 7, 3) := by decide +kernel
theorem dJ9_min_7cf53_5 : decode cJ9_min_7cf53 5 = .ok (.iload_n 0, 1) := by decide +kernel
theorem dJ9_min_7cf53_6 : decode cJ9_min_7cf53 6 = .ok (.goto 4, 3) := by decide +kernel
theorem dJ9_min_7cf53_9 : decode cJ9_min_7cf53 9 = .ok (.iload_n 1, 1) := by decide +kernel
theorem dJ9_min_7cf53_10 : decode cJ9_min_7cf53 10 = .ok (.ireturn, 1) := by decide +kernel
theorem dL_cell_0 : decode cL_cell 0 = .ok (.iload_n 1, 1) := by decide +kernel
theorem dL_cell_1 : decode cL_cell 1 = .ok (.aload_n 0, 1) := by decide +kernel
theorem dL_cell_2 : decode cL_cell 2 = .ok (.arraylength, 1) := by decide +kernel
theorem dL_cell_3 : decode cL_cell 3 = .ok (.if_icmp .ge 9, 3) := by decide +kernel
theorem dL_cell_6 : decode cL_cell 6 = .ok (.aload_n 0, 1) := by decide +kernel
theorem dL_cell_7 : decode cL_cell 7 = .ok (.iload_n 1, 1) := by decide +kernel
theorem dL_cell_8 : decode cL_cell 8 = .ok (.iaload, 1) := by decide +kernel
theorem dL_cell_9 : decode cL_cell 9 = .ok (.goto 9, 3) := by decide +kernel
theorem dL_cell_12 : decode cL_cell 12 = .ok (.ldc 7, 2) := by decide +kernel
theorem dL_cell_14 : decode cL_cell 14 = .ok (.iload_n 1, 1) := by decide +kernel
theorem dL_cell_15 : decode cL_cell 15 = .ok (.iconst 1, 1) := by decide +kernel
theorem dL_cell_16 : decode cL_cell 16 = .ok (.iadd, 1) := by decide +kernel
theorem dL_cell_17 : decode cL_cell 17 = .ok (.imul, 1) := by decide +kernel
theorem dL_cell_18 : decode cL_cell 18 = .ok (.ireturn, 1) := by decide +kernel
theorem dL_at_0 : decode cL_at 0 = .ok (.iload_n 0, 1) := by decide +kernel
theorem dL_at_1 : decode cL_at 1 = .ok (.iconst 1, 1) := by decide +kernel
theorem dL_at_2 : decode cL_at 2 = .ok (.iushr, 1) := by decide +kernel
theorem dL_at_3 : decode cL_at 3 = .ok (.iload_n 1, 1) := by decide +kernel
theorem dL_at_4 : decode cL_at 4 = .ok (.irem, 1) := by decide +kernel
theorem dL_at_5 : decode cL_at 5 = .ok (.ireturn, 1) := by decide +kernel
theorem dL_most_0 : decode cL_most 0 = .ok (.iload_n 0, 1) := by decide +kernel
theorem dL_most_1 : decode cL_most 1 = .ok (.iload_n 1, 1) := by decide +kernel
theorem dL_most_2 : decode cL_most 2 = .ok (.if_icmp .ne 5, 3) := by decide +kernel
theorem dL_most_5 : decode cL_most 5 = .ok (.iconst 0, 1) := by decide +kernel
theorem dL_most_6 : decode cL_most 6 = .ok (.ireturn, 1) := by decide +kernel
theorem dL_most_7 : decode cL_most 7 = .ok (.bipush 11, 2) := by decide +kernel
theorem dL_most_9 : decode cL_most 9 = .ok (.newarray .int, 2) := by decide +kernel
theorem dL_most_11 : decode cL_most 11 = .ok (.astore 6, 2) := by decide +kernel
theorem dL_most_13 : decode cL_most 13 = .ok (.iconst 0, 1) := by decide +kernel
theorem dL_most_14 : decode cL_most 14 = .ok (.istore 7, 2) := by decide +kernel
theorem dL_most_16 : decode cL_most 16 = .ok (.iload 7, 2) := by decide +kernel
theorem dL_most_18 : decode cL_most 18 = .ok (.bipush 11, 2) := by decide +kernel
theorem dL_most_20 : decode cL_most 20 = .ok (.if_icmp .ge 46, 3) := by decide +kernel
theorem dL_most_23 : decode cL_most 23 = .ok (.aload 6, 2) := by decide +kernel
theorem dL_most_25 : decode cL_most 25 = .ok (.iload 7, 2) := by decide +kernel
theorem dL_most_27 : decode cL_most 27 = .ok (.iload 7, 2) := by decide +kernel
theorem dL_most_29 : decode cL_most 29 = .ok (.iload_n 1, 1) := by decide +kernel
theorem dL_most_30 : decode cL_most 30 = .ok (.if_icmp .ne 7, 3) := by decide +kernel
theorem dL_most_33 : decode cL_most 33 = .ok (.iconst 0, 1) := by decide +kernel
theorem dL_most_34 : decode cL_most 34 = .ok (.goto 25, 3) := by decide +kernel
theorem dL_most_37 : decode cL_most 37 = .ok (.iload 7, 2) := by decide +kernel
theorem dL_most_39 : decode cL_most 39 = .ok (.bipush 10, 2) := by decide +kernel
theorem dL_most_41 : decode cL_most 41 = .ok (.if_icmp .eq 9, 3) := by decide +kernel
theorem dL_most_44 : decode cL_most 44 = .ok (.iload_n 1, 1) := by decide +kernel
theorem dL_most_45 : decode cL_most 45 = .ok (.bipush 10, 2) := by decide +kernel
theorem dL_most_47 : decode cL_most 47 = .ok (.if_icmp .ne 9, 3) := by decide +kernel
theorem dL_most_50 : decode cL_most 50 = .ok (.sipush 1000, 3) := by decide +kernel
theorem dL_most_53 : decode cL_most 53 = .ok (.goto 6, 3) := by decide +kernel
theorem dL_most_56 : decode cL_most 56 = .ok (.sipush 2000, 3) := by decide +kernel
theorem dL_most_59 : decode cL_most 59 = .ok (.iastore, 1) := by decide +kernel
theorem dL_most_60 : decode cL_most 60 = .ok (.iinc 7 1, 3) := by decide +kernel
theorem dL_most_63 : decode cL_most 63 = .ok (.goto (-47), 3) := by decide +kernel
theorem dL_most_66 : decode cL_most 66 = .ok (.iconst 1, 1) := by decide +kernel
theorem dL_most_67 : decode cL_most 67 = .ok (.istore 7, 2) := by decide +kernel
theorem dL_most_69 : decode cL_most 69 = .ok (.iload 7, 2) := by decide +kernel
theorem dL_most_71 : decode cL_most 71 = .ok (.ifCond .eq 161, 3) := by decide +kernel
theorem dL_most_74 : decode cL_most 74 = .ok (.iconst 0, 1) := by decide +kernel
theorem dL_most_75 : decode cL_most 75 = .ok (.istore 7, 2) := by decide +kernel
theorem dL_most_77 : decode cL_most 77 = .ok (.iconst 0, 1) := by decide +kernel
theorem dL_most_78 : decode cL_most 78 = .ok (.istore 8, 2) := by decide +kernel
theorem dL_most_80 : decode cL_most 80 = .ok (.iload 8, 2) := by decide +kernel
theorem dL_most_82 : decode cL_most 82 = .ok (.aload_n 2, 1) := by decide +kernel
theorem dL_most_83 : decode cL_most 83 = .ok (.iconst 0, 1) := by decide +kernel
theorem dL_most_84 : decode cL_most 84 = .ok (.iaload, 1) := by decide +kernel
theorem dL_most_85 : decode cL_most 85 = .ok (.if_icmp .ge 60, 3) := by decide +kernel
theorem dL_most_88 : decode cL_most 88 = .ok (.aload 6, 2) := by decide +kernel
theorem dL_most_90 : decode cL_most 90 = .ok (.aload 4, 2) := by decide +kernel
theorem dL_most_92 : decode cL_most 92 = .ok (.iload 8, 2) := by decide +kernel
theorem dL_most_94 : decode cL_most 94 = .ok (.iaload, 1) := by decide +kernel
theorem dL_most_95 : decode cL_most 95 = .ok (.iaload, 1) := by decide +kernel
theorem dL_most_96 : decode cL_most 96 = .ok (.aload 5, 2) := by decide +kernel
theorem dL_most_98 : decode cL_most 98 = .ok (.iload 8, 2) := by decide +kernel
theorem dL_most_100 : decode cL_most 100 = .ok (.iaload, 1) := by decide +kernel
theorem dL_most_101 : decode cL_most 101 = .ok (.iadd, 1) := by decide +kernel
theorem dL_most_102 : decode cL_most 102 = .ok (.aload 6, 2) := by decide +kernel
theorem dL_most_104 : decode cL_most 104 = .ok (.aload_n 3, 1) := by decide +kernel
theorem dL_most_105 : decode cL_most 105 = .ok (.iload 8, 2) := by decide +kernel
theorem dL_most_107 : decode cL_most 107 = .ok (.iaload, 1) := by decide +kernel
theorem dL_most_108 : decode cL_most 108 = .ok (.iaload, 1) := by decide +kernel
theorem dL_most_109 : decode cL_most 109 = .ok (.if_icmp .lt 6, 3) := by decide +kernel
theorem dL_most_112 : decode cL_most 112 = .ok (.goto 27, 3) := by decide +kernel
theorem dL_most_115 : decode cL_most 115 = .ok (.aload 6, 2) := by decide +kernel
theorem dL_most_117 : decode cL_most 117 = .ok (.aload_n 3, 1) := by decide +kernel
theorem dL_most_118 : decode cL_most 118 = .ok (.iload 8, 2) := by decide +kernel
theorem dL_most_120 : decode cL_most 120 = .ok (.iaload, 1) := by decide +kernel
theorem dL_most_121 : decode cL_most 121 = .ok (.aload 6, 2) := by decide +kernel
theorem dL_most_123 : decode cL_most 123 = .ok (.aload 4, 2) := by decide +kernel
theorem dL_most_125 : decode cL_most 125 = .ok (.iload 8, 2) := by decide +kernel
theorem dL_most_127 : decode cL_most 127 = .ok (.iaload, 1) := by decide +kernel
theorem dL_most_128 : decode cL_most 128 = .ok (.iaload, 1) := by decide +kernel
theorem dL_most_129 : decode cL_most 129 = .ok (.aload 5, 2) := by decide +kernel
theorem dL_most_131 : decode cL_most 131 = .ok (.iload 8, 2) := by decide +kernel
theorem dL_most_133 : decode cL_most 133 = .ok (.iaload, 1) := by decide +kernel
theorem dL_most_134 : decode cL_most 134 = .ok (.iadd, 1) := by decide +kernel
theorem dL_most_135 : decode cL_most 135 = .ok (.iastore, 1) := by decide +kernel
theorem dL_most_136 : decode cL_most 136 = .ok (.iconst 1, 1) := by decide +kernel
theorem dL_most_137 : decode cL_most 137 = .ok (.istore 7, 2) := by decide +kernel
theorem dL_most_139 : decode cL_most 139 = .ok (.iinc 8 1, 3) := by decide +kernel
theorem dL_most_142 : decode cL_most 142 = .ok (.goto (-62), 3) := by decide +kernel
theorem dL_most_145 : decode cL_most 145 = .ok (.iconst 0, 1) := by decide +kernel
theorem dL_most_146 : decode cL_most 146 = .ok (.istore 8, 2) := by decide +kernel
theorem dL_most_148 : decode cL_most 148 = .ok (.iload 8, 2) := by decide +kernel
theorem dL_most_150 : decode cL_most 150 = .ok (.bipush 10, 2) := by decide +kernel
theorem dL_most_152 : decode cL_most 152 = .ok (.if_icmp .ge 77, 3) := by decide +kernel
theorem dL_most_155 : decode cL_most 155 = .ok (.aload 6, 2) := by decide +kernel
theorem dL_most_157 : decode cL_most 157 = .ok (.bipush 10, 2) := by decide +kernel
theorem dL_most_159 : decode cL_most 159 = .ok (.iaload, 1) := by decide +kernel
theorem dL_most_160 : decode cL_most 160 = .ok (.sipush 1000, 3) := by decide +kernel
theorem dL_most_163 : decode cL_most 163 = .ok (.iadd, 1) := by decide +kernel
theorem dL_most_164 : decode cL_most 164 = .ok (.aload 6, 2) := by decide +kernel
theorem dL_most_166 : decode cL_most 166 = .ok (.iload 8, 2) := by decide +kernel
theorem dL_most_168 : decode cL_most 168 = .ok (.iaload, 1) := by decide +kernel
theorem dL_most_169 : decode cL_most 169 = .ok (.if_icmp .ge 20, 3) := by decide +kernel
theorem dL_most_172 : decode cL_most 172 = .ok (.aload 6, 2) := by decide +kernel
theorem dL_most_174 : decode cL_most 174 = .ok (.iload 8, 2) := by decide +kernel
theorem dL_most_176 : decode cL_most 176 = .ok (.aload 6, 2) := by decide +kernel
theorem dL_most_178 : decode cL_most 178 = .ok (.bipush 10, 2) := by decide +kernel
theorem dL_most_180 : decode cL_most 180 = .ok (.iaload, 1) := by decide +kernel
theorem dL_most_181 : decode cL_most 181 = .ok (.sipush 1000, 3) := by decide +kernel
theorem dL_most_184 : decode cL_most 184 = .ok (.iadd, 1) := by decide +kernel
theorem dL_most_185 : decode cL_most 185 = .ok (.iastore, 1) := by decide +kernel
theorem dL_most_186 : decode cL_most 186 = .ok (.iconst 1, 1) := by decide +kernel
theorem dL_most_187 : decode cL_most 187 = .ok (.istore 7, 2) := by decide +kernel
theorem dL_most_189 : decode cL_most 189 = .ok (.aload 6, 2) := by decide +kernel
theorem dL_most_191 : decode cL_most 191 = .ok (.iload 8, 2) := by decide +kernel
theorem dL_most_193 : decode cL_most 193 = .ok (.iaload, 1) := by decide +kernel
theorem dL_most_194 : decode cL_most 194 = .ok (.sipush 1000, 3) := by decide +kernel
theorem dL_most_197 : decode cL_most 197 = .ok (.iadd, 1) := by decide +kernel
theorem dL_most_198 : decode cL_most 198 = .ok (.aload 6, 2) := by decide +kernel
theorem dL_most_200 : decode cL_most 200 = .ok (.bipush 10, 2) := by decide +kernel
theorem dL_most_202 : decode cL_most 202 = .ok (.iaload, 1) := by decide +kernel
theorem dL_most_203 : decode cL_most 203 = .ok (.if_icmp .ge 20, 3) := by decide +kernel
theorem dL_most_206 : decode cL_most 206 = .ok (.aload 6, 2) := by decide +kernel
theorem dL_most_208 : decode cL_most 208 = .ok (.bipush 10, 2) := by decide +kernel
theorem dL_most_210 : decode cL_most 210 = .ok (.aload 6, 2) := by decide +kernel
theorem dL_most_212 : decode cL_most 212 = .ok (.iload 8, 2) := by decide +kernel
theorem dL_most_214 : decode cL_most 214 = .ok (.iaload, 1) := by decide +kernel
theorem dL_most_215 : decode cL_most 215 = .ok (.sipush 1000, 3) := by decide +kernel
theorem dL_most_218 : decode cL_most 218 = .ok (.iadd, 1) := by decide +kernel
theorem dL_most_219 : decode cL_most 219 = .ok (.iastore, 1) := by decide +kernel
theorem dL_most_220 : decode cL_most 220 = .ok (.iconst 1, 1) := by decide +kernel
theorem dL_most_221 : decode cL_most 221 = .ok (.istore 7, 2) := by decide +kernel
theorem dL_most_223 : decode cL_most 223 = .ok (.iinc 8 1, 3) := by decide +kernel
theorem dL_most_226 : decode cL_most 226 = .ok (.goto (-78), 3) := by decide +kernel
theorem dL_most_229 : decode cL_most 229 = .ok (.goto (-160), 3) := by decide +kernel
theorem dL_most_232 : decode cL_most 232 = .ok (.aload 6, 2) := by decide +kernel
theorem dL_most_234 : decode cL_most 234 = .ok (.iload_n 0, 1) := by decide +kernel
theorem dL_most_235 : decode cL_most 235 = .ok (.iaload, 1) := by decide +kernel
theorem dL_most_236 : decode cL_most 236 = .ok (.ireturn, 1) := by decide +kernel
theorem dL_bind_0 : decode cL_bind 0 = .ok (.aload 4, 2) := by decide +kernel
theorem dL_bind_2 : decode cL_bind 2 = .ok (.aload_n 3, 1) := by decide +kernel
theorem dL_bind_3 : decode cL_bind 3 = .ok (.iconst 0, 1) := by decide +kernel
theorem dL_bind_4 : decode cL_bind 4 = .ok (.iaload, 1) := by decide +kernel
theorem dL_bind_5 : decode cL_bind 5 = .ok (.iload_n 0, 1) := by decide +kernel
theorem dL_bind_6 : decode cL_bind 6 = .ok (.iastore, 1) := by decide +kernel
theorem dL_bind_7 : decode cL_bind 7 = .ok (.aload 5, 2) := by decide +kernel
theorem dL_bind_9 : decode cL_bind 9 = .ok (.aload_n 3, 1) := by decide +kernel
theorem dL_bind_10 : decode cL_bind 10 = .ok (.iconst 0, 1) := by decide +kernel
theorem dL_bind_11 : decode cL_bind 11 = .ok (.iaload, 1) := by decide +kernel
theorem dL_bind_12 : decode cL_bind 12 = .ok (.iload_n 1, 1) := by decide +kernel
theorem dL_bind_13 : decode cL_bind 13 = .ok (.iastore, 1) := by decide +kernel
theorem dL_bind_14 : decode cL_bind 14 = .ok (.aload 6, 2) := by decide +kernel
theorem dL_bind_16 : decode cL_bind 16 = .ok (.aload_n 3, 1) := by decide +kernel
theorem dL_bind_17 : decode cL_bind 17 = .ok (.iconst 0, 1) := by decide +kernel
theorem dL_bind_18 : decode cL_bind 18 = .ok (.iaload, 1) := by decide +kernel
theorem dL_bind_19 : decode cL_bind 19 = .ok (.iload_n 2, 1) := by decide +kernel
theorem dL_bind_20 : decode cL_bind 20 = .ok (.iastore, 1) := by decide +kernel
theorem dL_bind_21 : decode cL_bind 21 = .ok (.aload_n 3, 1) := by decide +kernel
theorem dL_bind_22 : decode cL_bind 22 = .ok (.iconst 0, 1) := by decide +kernel
theorem dL_bind_23 : decode cL_bind 23 = .ok (.dup2, 1) := by decide +kernel
theorem dL_bind_24 : decode cL_bind 24 = .ok (.iaload, 1) := by decide +kernel
theorem dL_bind_25 : decode cL_bind 25 = .ok (.iconst 1, 1) := by decide +kernel
theorem dL_bind_26 : decode cL_bind 26 = .ok (.iadd, 1) := by decide +kernel
theorem dL_bind_27 : decode cL_bind 27 = .ok (.iastore, 1) := by decide +kernel
theorem dL_bind_28 : decode cL_bind 28 = .ok (.return_, 1) := by decide +kernel
theorem dL_fill_0 : decode cL_fill 0 = .ok (.iload_n 0, 1) := by decide +kernel
theorem dL_fill_1 : decode cL_fill 1 = .ok (.iload_n 1, 1) := by decide +kernel
theorem dL_fill_2 : decode cL_fill 2 = .ok (.aload 4, 2) := by decide +kernel
theorem dL_fill_4 : decode cL_fill 4 = .ok (.aload 5, 2) := by decide +kernel
theorem dL_fill_6 : decode cL_fill 6 = .ok (.aload 6, 2) := by decide +kernel
theorem dL_fill_8 : decode cL_fill 8 = .ok (.aload 7, 2) := by decide +kernel
theorem dL_fill_10 : decode cL_fill 10 = .ok (.invokestatic 8, 3) := by decide +kernel
theorem dL_fill_13 : decode cL_fill 13 = .ok (.istore 8, 2) := by decide +kernel
theorem dL_fill_15 : decode cL_fill 15 = .ok (.iload_n 1, 1) := by decide +kernel
theorem dL_fill_16 : decode cL_fill 16 = .ok (.iload_n 0, 1) := by decide +kernel
theorem dL_fill_17 : decode cL_fill 17 = .ok (.aload 4, 2) := by decide +kernel
theorem dL_fill_19 : decode cL_fill 19 = .ok (.aload 5, 2) := by decide +kernel
theorem dL_fill_21 : decode cL_fill 21 = .ok (.aload 6, 2) := by decide +kernel
theorem dL_fill_23 : decode cL_fill 23 = .ok (.aload 7, 2) := by decide +kernel
theorem dL_fill_25 : decode cL_fill 25 = .ok (.invokestatic 8, 3) := by decide +kernel
theorem dL_fill_28 : decode cL_fill 28 = .ok (.ineg, 1) := by decide +kernel
theorem dL_fill_29 : decode cL_fill 29 = .ok (.istore 9, 2) := by decide +kernel
theorem dL_fill_31 : decode cL_fill 31 = .ok (.aload 4, 2) := by decide +kernel
theorem dL_fill_33 : decode cL_fill 33 = .ok (.iconst 1, 1) := by decide +kernel
theorem dL_fill_34 : decode cL_fill 34 = .ok (.iload_n 2, 1) := by decide +kernel
theorem dL_fill_35 : decode cL_fill 35 = .ok (.ifCond .eq 9, 3) := by decide +kernel
theorem dL_fill_38 : decode cL_fill 38 = .ok (.iload_n 3, 1) := by decide +kernel
theorem dL_fill_39 : decode cL_fill 39 = .ok (.iload 8, 2) := by decide +kernel
theorem dL_fill_41 : decode cL_fill 41 = .ok (.if_icmp .gt 18, 3) := by decide +kernel
theorem dL_fill_44 : decode cL_fill 44 = .ok (.iload_n 2, 1) := by decide +kernel
theorem dL_fill_45 : decode cL_fill 45 = .ok (.iconst 2, 1) := by decide +kernel
theorem dL_fill_46 : decode cL_fill 46 = .ok (.if_icmp .eq 9, 3) := by decide +kernel
theorem dL_fill_49 : decode cL_fill 49 = .ok (.iload_n 3, 1) := by decide +kernel
theorem dL_fill_50 : decode cL_fill 50 = .ok (.iload 9, 2) := by decide +kernel
theorem dL_fill_52 : decode cL_fill 52 = .ok (.if_icmp .lt 7, 3) := by decide +kernel
theorem dL_fill_55 : decode cL_fill 55 = .ok (.iconst 1, 1) := by decide +kernel
theorem dL_fill_56 : decode cL_fill 56 = .ok (.goto 4, 3) := by decide +kernel
theorem dL_fill_59 : decode cL_fill 59 = .ok (.iconst 0, 1) := by decide +kernel
theorem dL_fill_60 : decode cL_fill 60 = .ok (.iastore, 1) := by decide +kernel
theorem dL_fill_61 : decode cL_fill 61 = .ok (.aload 4, 2) := by decide +kernel
theorem dL_fill_63 : decode cL_fill 63 = .ok (.iconst 1, 1) := by decide +kernel
theorem dL_fill_64 : decode cL_fill 64 = .ok (.iaload, 1) := by decide +kernel
theorem dL_fill_65 : decode cL_fill 65 = .ok (.ifCond .ne 21, 3) := by decide +kernel
theorem dL_fill_68 : decode cL_fill 68 = .ok (.iload_n 3, 1) := by decide +kernel
theorem dL_fill_69 : decode cL_fill 69 = .ok (.iload 9, 2) := by decide +kernel
theorem dL_fill_71 : decode cL_fill 71 = .ok (.if_icmp .ge 10, 3) := by decide +kernel
theorem dL_fill_74 : decode cL_fill 74 = .ok (.iload 9, 2) := by decide +kernel
theorem dL_fill_76 : decode cL_fill 76 = .ok (.iload_n 3, 1) := by decide +kernel
theorem dL_fill_77 : decode cL_fill 77 = .ok (.isub, 1) := by decide +kernel
theorem dL_fill_78 : decode cL_fill 78 = .ok (.goto 7, 3) := by decide +kernel
theorem dL_fill_81 : decode cL_fill 81 = .ok (.iload 8, 2) := by decide +kernel
theorem dL_fill_83 : decode cL_fill 83 = .ok (.iload_n 3, 1) := by decide +kernel
theorem dL_fill_84 : decode cL_fill 84 = .ok (.isub, 1) := by decide +kernel
theorem dL_fill_85 : decode cL_fill 85 = .ok (.ireturn, 1) := by decide +kernel
theorem dL_fill_86 : decode cL_fill 86 = .ok (.iload_n 2, 1) := by decide +kernel
theorem dL_fill_87 : decode cL_fill 87 = .ok (.iconst 2, 1) := by decide +kernel
theorem dL_fill_88 : decode cL_fill 88 = .ok (.if_icmp .ge 17, 3) := by decide +kernel
theorem dL_fill_91 : decode cL_fill 91 = .ok (.iload_n 0, 1) := by decide +kernel
theorem dL_fill_92 : decode cL_fill 92 = .ok (.iload_n 1, 1) := by decide +kernel
theorem dL_fill_93 : decode cL_fill 93 = .ok (.iload_n 3, 1) := by decide +kernel
theorem dL_fill_94 : decode cL_fill 94 = .ok (.aload 4, 2) := by decide +kernel
theorem dL_fill_96 : decode cL_fill 96 = .ok (.aload 5, 2) := by decide +kernel
theorem dL_fill_98 : decode cL_fill 98 = .ok (.aload 6, 2) := by decide +kernel
theorem dL_fill_100 : decode cL_fill 100 = .ok (.aload 7, 2) := by decide +kernel
theorem dL_fill_102 : decode cL_fill 102 = .ok (.invokestatic 14, 3) := by decide +kernel
theorem dL_fill_105 : decode cL_fill 105 = .ok (.iload_n 2, 1) := by decide +kernel
theorem dL_fill_106 : decode cL_fill 106 = .ok (.ifCond .le 18, 3) := by decide +kernel
theorem dL_fill_109 : decode cL_fill 109 = .ok (.iload_n 1, 1) := by decide +kernel
theorem dL_fill_110 : decode cL_fill 110 = .ok (.iload_n 0, 1) := by decide +kernel
theorem dL_fill_111 : decode cL_fill 111 = .ok (.iload_n 3, 1) := by decide +kernel
theorem dL_fill_112 : decode cL_fill 112 = .ok (.ineg, 1) := by decide +kernel
theorem dL_fill_113 : decode cL_fill 113 = .ok (.aload 4, 2) := by decide +kernel
theorem dL_fill_115 : decode cL_fill 115 = .ok (.aload 5, 2) := by decide +kernel
theorem dL_fill_117 : decode cL_fill 117 = .ok (.aload 6, 2) := by decide +kernel
theorem dL_fill_119 : decode cL_fill 119 = .ok (.aload 7, 2) := by decide +kernel
theorem dL_fill_121 : decode cL_fill 121 = .ok (.invokestatic 14, 3) := by decide +kernel
theorem dL_fill_124 : decode cL_fill 124 = .ok (.iload_n 2, 1) := by decide +kernel
theorem dL_fill_125 : decode cL_fill 125 = .ok (.iconst 1, 1) := by decide +kernel
theorem dL_fill_126 : decode cL_fill 126 = .ok (.if_icmp .ne 11, 3) := by decide +kernel
theorem dL_fill_129 : decode cL_fill 129 = .ok (.iload 8, 2) := by decide +kernel
theorem dL_fill_131 : decode cL_fill 131 = .ok (.iload 9, 2) := by decide +kernel
theorem dL_fill_133 : decode cL_fill 133 = .ok (.isub, 1) := by decide +kernel
theorem dL_fill_134 : decode cL_fill 134 = .ok (.goto 38, 3) := by decide +kernel
theorem dL_fill_137 : decode cL_fill 137 = .ok (.iload_n 2, 1) := by decide +kernel
theorem dL_fill_138 : decode cL_fill 138 = .ok (.ifCond .ne 20, 3) := by decide +kernel
theorem dL_fill_141 : decode cL_fill 141 = .ok (.iload 8, 2) := by decide +kernel
theorem dL_fill_143 : decode cL_fill 143 = .ok (.iload_n 3, 1) := by decide +kernel
theorem dL_fill_144 : decode cL_fill 144 = .ok (.if_icmp .le 10, 3) := by decide +kernel
theorem dL_fill_147 : decode cL_fill 147 = .ok (.iload 8, 2) := by decide +kernel
theorem dL_fill_149 : decode cL_fill 149 = .ok (.iload_n 3, 1) := by decide +kernel
theorem dL_fill_150 : decode cL_fill 150 = .ok (.isub, 1) := by decide +kernel
theorem dL_fill_151 : decode cL_fill 151 = .ok (.goto 21, 3) := by decide +kernel
theorem dL_fill_154 : decode cL_fill 154 = .ok (.iconst 0, 1) := by decide +kernel
theorem dL_fill_155 : decode cL_fill 155 = .ok (.goto 17, 3) := by decide +kernel
theorem dL_fill_158 : decode cL_fill 158 = .ok (.iload_n 3, 1) := by decide +kernel
theorem dL_fill_159 : decode cL_fill 159 = .ok (.iload 9, 2) := by decide +kernel
theorem dL_fill_161 : decode cL_fill 161 = .ok (.if_icmp .le 10, 3) := by decide +kernel
theorem dL_fill_164 : decode cL_fill 164 = .ok (.iload_n 3, 1) := by decide +kernel
theorem dL_fill_165 : decode cL_fill 165 = .ok (.iload 9, 2) := by decide +kernel
theorem dL_fill_167 : decode cL_fill 167 = .ok (.isub, 1) := by decide +kernel
theorem dL_fill_168 : decode cL_fill 168 = .ok (.goto 4, 3) := by decide +kernel
theorem dL_fill_171 : decode cL_fill 171 = .ok (.iconst 0, 1) := by decide +kernel
theorem dL_fill_172 : decode cL_fill 172 = .ok (.ireturn, 1) := by decide +kernel
theorem dL_all_0 : decode cL_all 0 = .ok (.aload 6, 2) := by decide +kernel
theorem dL_all_2 : decode cL_all 2 = .ok (.iconst 0, 1) := by decide +kernel
theorem dL_all_3 : decode cL_all 3 = .ok (.iconst 0, 1) := by decide +kernel
theorem dL_all_4 : decode cL_all 4 = .ok (.iastore, 1) := by decide +kernel
theorem dL_all_5 : decode cL_all 5 = .ok (.iconst 0, 1) := by decide +kernel
theorem dL_all_6 : decode cL_all 6 = .ok (.istore 10, 2) := by decide +kernel
theorem dL_all_8 : decode cL_all 8 = .ok (.iconst 3, 1) := by decide +kernel
theorem dL_all_9 : decode cL_all 9 = .ok (.istore 11, 2) := by decide +kernel
theorem dL_all_11 : decode cL_all 11 = .ok (.iload 11, 2) := by decide +kernel
theorem dL_all_13 : decode cL_all 13 = .ok (.ifCond .lt 207, 3) := by decide +kernel
theorem dL_all_16 : decode cL_all 16 = .ok (.iconst 0, 1) := by decide +kernel
theorem dL_all_17 : decode cL_all 17 = .ok (.istore 12, 2) := by decide +kernel
theorem dL_all_19 : decode cL_all 19 = .ok (.iload 12, 2) := by decide +kernel
theorem dL_all_21 : decode cL_all 21 = .ok (.aload_n 3, 1) := by decide +kernel
theorem dL_all_22 : decode cL_all 22 = .ok (.iconst 1, 1) := by decide +kernel
theorem dL_all_23 : decode cL_all 23 = .ok (.iaload, 1) := by decide +kernel
theorem dL_all_24 : decode cL_all 24 = .ok (.if_icmp .ge 76, 3) := by decide +kernel
theorem dL_all_27 : decode cL_all 27 = .ok (.aload_n 2, 1) := by decide +kernel
theorem dL_all_28 : decode cL_all 28 = .ok (.iconst 3, 1) := by decide +kernel
theorem dL_all_29 : decode cL_all 29 = .ok (.iload 12, 2) := by decide +kernel
theorem dL_all_31 : decode cL_all 31 = .ok (.imul, 1) := by decide +kernel
theorem dL_all_32 : decode cL_all 32 = .ok (.iconst 2, 1) := by decide +kernel
theorem dL_all_33 : decode cL_all 33 = .ok (.iadd, 1) := by decide +kernel
theorem dL_all_34 : decode cL_all 34 = .ok (.iaload, 1) := by decide +kernel
theorem dL_all_35 : decode cL_all 35 = .ok (.iload 11, 2) := by decide +kernel
theorem dL_all_37 : decode cL_all 37 = .ok (.if_icmp .eq 6, 3) := by decide +kernel
theorem dL_all_40 : decode cL_all 40 = .ok (.goto 54, 3) := by decide +kernel
theorem dL_all_43 : decode cL_all 43 = .ok (.aload 5, 2) := by decide +kernel
theorem dL_all_45 : decode cL_all 45 = .ok (.iconst 2, 1) := by decide +kernel
theorem dL_all_46 : decode cL_all 46 = .ok (.iload 12, 2) := by decide +kernel
theorem dL_all_48 : decode cL_all 48 = .ok (.imul, 1) := by decide +kernel
theorem dL_all_49 : decode cL_all 49 = .ok (.iconst 1, 1) := by decide +kernel
theorem dL_all_50 : decode cL_all 50 = .ok (.iadd, 1) := by decide +kernel
theorem dL_all_51 : decode cL_all 51 = .ok (.aload_n 2, 1) := by decide +kernel
theorem dL_all_52 : decode cL_all 52 = .ok (.iconst 3, 1) := by decide +kernel
theorem dL_all_53 : decode cL_all 53 = .ok (.iload 12, 2) := by decide +kernel
theorem dL_all_55 : decode cL_all 55 = .ok (.imul, 1) := by decide +kernel
theorem dL_all_56 : decode cL_all 56 = .ok (.iaload, 1) := by decide +kernel
theorem dL_all_57 : decode cL_all 57 = .ok (.bipush 10, 2) := by decide +kernel
theorem dL_all_59 : decode cL_all 59 = .ok (.iconst 1, 1) := by decide +kernel
theorem dL_all_60 : decode cL_all 60 = .ok (.aload_n 2, 1) := by decide +kernel
theorem dL_all_61 : decode cL_all 61 = .ok (.iconst 3, 1) := by decide +kernel
theorem dL_all_62 : decode cL_all 62 = .ok (.iload 12, 2) := by decide +kernel
theorem dL_all_64 : decode cL_all 64 = .ok (.imul, 1) := by decide +kernel
theorem dL_all_65 : decode cL_all 65 = .ok (.iconst 1, 1) := by decide +kernel
theorem dL_all_66 : decode cL_all 66 = .ok (.iadd, 1) := by decide +kernel
theorem dL_all_67 : decode cL_all 67 = .ok (.iaload, 1) := by decide +kernel
theorem dL_all_68 : decode cL_all 68 = .ok (.aload 6, 2) := by decide +kernel
theorem dL_all_70 : decode cL_all 70 = .ok (.aload 7, 2) := by decide +kernel
theorem dL_all_72 : decode cL_all 72 = .ok (.aload 8, 2) := by decide +kernel
theorem dL_all_74 : decode cL_all 74 = .ok (.aload 9, 2) := by decide +kernel
theorem dL_all_76 : decode cL_all 76 = .ok (.invokestatic 18, 3) := by decide +kernel
theorem dL_all_79 : decode cL_all 79 = .ok (.iastore, 1) := by decide +kernel
theorem dL_all_80 : decode cL_all 80 = .ok (.aload 5, 2) := by decide +kernel
theorem dL_all_82 : decode cL_all 82 = .ok (.iconst 2, 1) := by decide +kernel
theorem dL_all_83 : decode cL_all 83 = .ok (.iload 12, 2) := by decide +kernel
theorem dL_all_85 : decode cL_all 85 = .ok (.imul, 1) := by decide +kernel
theorem dL_all_86 : decode cL_all 86 = .ok (.aload 6, 2) := by decide +kernel
theorem dL_all_88 : decode cL_all 88 = .ok (.iconst 1, 1) := by decide +kernel
theorem dL_all_89 : decode cL_all 89 = .ok (.iaload, 1) := by decide +kernel
theorem dL_all_90 : decode cL_all 90 = .ok (.iastore, 1) := by decide +kernel
theorem dL_all_91 : decode cL_all 91 = .ok (.iinc 10 1, 3) := by decide +kernel
theorem dL_all_94 : decode cL_all 94 = .ok (.iinc 12 1, 3) := by decide +kernel
theorem dL_all_97 : decode cL_all 97 = .ok (.goto (-78), 3) := by decide +kernel
theorem dL_all_100 : decode cL_all 100 = .ok (.iconst 0, 1) := by decide +kernel
theorem dL_all_101 : decode cL_all 101 = .ok (.istore 12, 2) := by decide +kernel
theorem dL_all_103 : decode cL_all 103 = .ok (.iload 12, 2) := by decide +kernel
theorem dL_all_105 : decode cL_all 105 = .ok (.aload_n 3, 1) := by decide +kernel
theorem dL_all_106 : decode cL_all 106 = .ok (.iconst 0, 1) := by decide +kernel
theorem dL_all_107 : decode cL_all 107 = .ok (.iaload, 1) := by decide +kernel
theorem dL_all_108 : decode cL_all 108 = .ok (.if_icmp .ge 106, 3) := by decide +kernel
theorem dL_all_111 : decode cL_all 111 = .ok (.iload 12, 2) := by decide +kernel
theorem dL_all_113 : decode cL_all 113 = .ok (.iload_n 0, 1) := by decide +kernel
theorem dL_all_114 : decode cL_all 114 = .ok (.if_icmp .eq 94, 3) := by decide +kernel
theorem dL_all_117 : decode cL_all 117 = .ok (.aload_n 1, 1) := by decide +kernel
theorem dL_all_118 : decode cL_all 118 = .ok (.iconst 5, 1) := by decide +kernel
theorem dL_all_119 : decode cL_all 119 = .ok (.iload 12, 2) := by decide +kernel
theorem dL_all_121 : decode cL_all 121 = .ok (.imul, 1) := by decide +kernel
theorem dL_all_122 : decode cL_all 122 = .ok (.iconst 4, 1) := by decide +kernel
theorem dL_all_123 : decode cL_all 123 = .ok (.iadd, 1) := by decide +kernel
theorem dL_all_124 : decode cL_all 124 = .ok (.iaload, 1) := by decide +kernel
theorem dL_all_125 : decode cL_all 125 = .ok (.iload 11, 2) := by decide +kernel
theorem dL_all_127 : decode cL_all 127 = .ok (.if_icmp .eq 6, 3) := by decide +kernel
theorem dL_all_130 : decode cL_all 130 = .ok (.goto 78, 3) := by decide +kernel
theorem dL_all_133 : decode cL_all 133 = .ok (.aload 4, 2) := by decide +kernel
theorem dL_all_135 : decode cL_all 135 = .ok (.iconst 3, 1) := by decide +kernel
theorem dL_all_136 : decode cL_all 136 = .ok (.iload 12, 2) := by decide +kernel
theorem dL_all_138 : decode cL_all 138 = .ok (.imul, 1) := by decide +kernel
theorem dL_all_139 : decode cL_all 139 = .ok (.iconst 1, 1) := by decide +kernel
theorem dL_all_140 : decode cL_all 140 = .ok (.iadd, 1) := by decide +kernel
theorem dL_all_141 : decode cL_all 141 = .ok (.aload_n 1, 1) := by decide +kernel
theorem dL_all_142 : decode cL_all 142 = .ok (.iconst 5, 1) := by decide +kernel
theorem dL_all_143 : decode cL_all 143 = .ok (.iload 12, 2) := by decide +kernel
theorem dL_all_145 : decode cL_all 145 = .ok (.imul, 1) := by decide +kernel
theorem dL_all_146 : decode cL_all 146 = .ok (.iaload, 1) := by decide +kernel
theorem dL_all_147 : decode cL_all 147 = .ok (.aload_n 1, 1) := by decide +kernel
theorem dL_all_148 : decode cL_all 148 = .ok (.iconst 5, 1) := by decide +kernel
theorem dL_all_149 : decode cL_all 149 = .ok (.iload 12, 2) := by decide +kernel
theorem dL_all_151 : decode cL_all 151 = .ok (.imul, 1) := by decide +kernel
theorem dL_all_152 : decode cL_all 152 = .ok (.iconst 1, 1) := by decide +kernel
theorem dL_all_153 : decode cL_all 153 = .ok (.iadd, 1) := by decide +kernel
theorem dL_all_154 : decode cL_all 154 = .ok (.iaload, 1) := by decide +kernel
theorem dL_all_155 : decode cL_all 155 = .ok (.aload_n 1, 1) := by decide +kernel
theorem dL_all_156 : decode cL_all 156 = .ok (.iconst 5, 1) := by decide +kernel
theorem dL_all_157 : decode cL_all 157 = .ok (.iload 12, 2) := by decide +kernel
theorem dL_all_159 : decode cL_all 159 = .ok (.imul, 1) := by decide +kernel
theorem dL_all_160 : decode cL_all 160 = .ok (.iconst 2, 1) := by decide +kernel
theorem dL_all_161 : decode cL_all 161 = .ok (.iadd, 1) := by decide +kernel
theorem dL_all_162 : decode cL_all 162 = .ok (.iaload, 1) := by decide +kernel
theorem dL_all_163 : decode cL_all 163 = .ok (.aload_n 1, 1) := by decide +kernel
theorem dL_all_164 : decode cL_all 164 = .ok (.iconst 5, 1) := by decide +kernel
theorem dL_all_165 : decode cL_all 165 = .ok (.iload 12, 2) := by decide +kernel
theorem dL_all_167 : decode cL_all 167 = .ok (.imul, 1) := by decide +kernel
theorem dL_all_168 : decode cL_all 168 = .ok (.iconst 3, 1) := by decide +kernel
theorem dL_all_169 : decode cL_all 169 = .ok (.iadd, 1) := by decide +kernel
theorem dL_all_170 : decode cL_all 170 = .ok (.iaload, 1) := by decide +kernel
theorem dL_all_171 : decode cL_all 171 = .ok (.aload 6, 2) := by decide +kernel
theorem dL_all_173 : decode cL_all 173 = .ok (.aload 7, 2) := by decide +kernel
theorem dL_all_175 : decode cL_all 175 = .ok (.aload 8, 2) := by decide +kernel
theorem dL_all_177 : decode cL_all 177 = .ok (.aload 9, 2) := by decide +kernel
theorem dL_all_179 : decode cL_all 179 = .ok (.invokestatic 18, 3) := by decide +kernel
theorem dL_all_182 : decode cL_all 182 = .ok (.iastore, 1) := by decide +kernel
theorem dL_all_183 : decode cL_all 183 = .ok (.aload 4, 2) := by decide +kernel
theorem dL_all_185 : decode cL_all 185 = .ok (.iconst 3, 1) := by decide +kernel
theorem dL_all_186 : decode cL_all 186 = .ok (.iload 12, 2) := by decide +kernel
theorem dL_all_188 : decode cL_all 188 = .ok (.imul, 1) := by decide +kernel
theorem dL_all_189 : decode cL_all 189 = .ok (.aload 6, 2) := by decide +kernel
theorem dL_all_191 : decode cL_all 191 = .ok (.iconst 1, 1) := by decide +kernel
theorem dL_all_192 : decode cL_all 192 = .ok (.iaload, 1) := by decide +kernel
theorem dL_all_193 : decode cL_all 193 = .ok (.iastore, 1) := by decide +kernel
theorem dL_all_194 : decode cL_all 194 = .ok (.aload 4, 2) := by decide +kernel
theorem dL_all_196 : decode cL_all 196 = .ok (.iconst 3, 1) := by decide +kernel
theorem dL_all_197 : decode cL_all 197 = .ok (.iload 12, 2) := by decide +kernel
theorem dL_all_199 : decode cL_all 199 = .ok (.imul, 1) := by decide +kernel
theorem dL_all_200 : decode cL_all 200 = .ok (.iconst 2, 1) := by decide +kernel
theorem dL_all_201 : decode cL_all 201 = .ok (.iadd, 1) := by decide +kernel
theorem dL_all_202 : decode cL_all 202 = .ok (.iload 10, 2) := by decide +kernel
theorem dL_all_204 : decode cL_all 204 = .ok (.iinc 10 1, 3) := by decide +kernel
theorem dL_all_207 : decode cL_all 207 = .ok (.iastore, 1) := by decide +kernel
theorem dL_all_208 : decode cL_all 208 = .ok (.iinc 12 1, 3) := by decide +kernel
theorem dL_all_211 : decode cL_all 211 = .ok (.goto (-108), 3) := by decide +kernel
theorem dL_all_214 : decode cL_all 214 = .ok (.iinc 11 (-1), 3) := by decide +kernel
theorem dL_all_217 : decode cL_all 217 = .ok (.goto (-206), 3) := by decide +kernel
theorem dL_all_220 : decode cL_all 220 = .ok (.return_, 1) := by decide +kernel
theorem dL_settle_0 : decode cL_settle 0 = .ok (.bipush 27, 2) := by decide +kernel
theorem dL_settle_2 : decode cL_settle 2 = .ok (.newarray .int, 2) := by decide +kernel
theorem dL_settle_4 : decode cL_settle 4 = .ok (.astore 8, 2) := by decide +kernel
theorem dL_settle_6 : decode cL_settle 6 = .ok (.bipush 8, 2) := by decide +kernel
theorem dL_settle_8 : decode cL_settle 8 = .ok (.newarray .int, 2) := by decide +kernel
theorem dL_settle_10 : decode cL_settle 10 = .ok (.astore 9, 2) := by decide +kernel
theorem dL_settle_12 : decode cL_settle 12 = .ok (.iconst (-1), 1) := by decide +kernel
theorem dL_settle_13 : decode cL_settle 13 = .ok (.aload_n 1, 1) := by decide +kernel
theorem dL_settle_14 : decode cL_settle 14 = .ok (.aload_n 2, 1) := by decide +kernel
theorem dL_settle_15 : decode cL_settle 15 = .ok (.aload_n 3, 1) := by decide +kernel
theorem dL_settle_16 : decode cL_settle 16 = .ok (.aload 8, 2) := by decide +kernel
theorem dL_settle_18 : decode cL_settle 18 = .ok (.aload 9, 2) := by decide +kernel
theorem dL_settle_20 : decode cL_settle 20 = .ok (.aload 4, 2) := by decide +kernel
theorem dL_settle_22 : decode cL_settle 22 = .ok (.aload 5, 2) := by decide +kernel
theorem dL_settle_24 : decode cL_settle 24 = .ok (.aload 6, 2) := by decide +kernel
theorem dL_settle_26 : decode cL_settle 26 = .ok (.aload 7, 2) := by decide +kernel
theorem dL_settle_28 : decode cL_settle 28 = .ok (.invokestatic 22, 3) := by decide +kernel
theorem dL_settle_31 : decode cL_settle 31 = .ok (.bipush 9, 2) := by decide +kernel
theorem dL_settle_33 : decode cL_settle 33 = .ok (.istore 10, 2) := by decide +kernel
theorem dL_settle_35 : decode cL_settle 35 = .ok (.iload 10, 2) := by decide +kernel
theorem dL_settle_37 : decode cL_settle 37 = .ok (.ifCond .lt 150, 3) := by decide +kernel
theorem dL_settle_40 : decode cL_settle 40 = .ok (.iconst 0, 1) := by decide +kernel
theorem dL_settle_41 : decode cL_settle 41 = .ok (.istore 11, 2) := by decide +kernel
theorem dL_settle_43 : decode cL_settle 43 = .ok (.iload 11, 2) := by decide +kernel
theorem dL_settle_45 : decode cL_settle 45 = .ok (.bipush 10, 2) := by decide +kernel
theorem dL_settle_47 : decode cL_settle 47 = .ok (.if_icmp .ge 134, 3) := by decide +kernel
theorem dL_settle_50 : decode cL_settle 50 = .ok (.aload_n 0, 1) := by decide +kernel
theorem dL_settle_51 : decode cL_settle 51 = .ok (.bipush 10, 2) := by decide +kernel
theorem dL_settle_53 : decode cL_settle 53 = .ok (.iload 11, 2) := by decide +kernel
theorem dL_settle_55 : decode cL_settle 55 = .ok (.iadd, 1) := by decide +kernel
theorem dL_settle_56 : decode cL_settle 56 = .ok (.iaload, 1) := by decide +kernel
theorem dL_settle_57 : decode cL_settle 57 = .ok (.iload 10, 2) := by decide +kernel
theorem dL_settle_59 : decode cL_settle 59 = .ok (.if_icmp .eq 6, 3) := by decide +kernel
theorem dL_settle_62 : decode cL_settle 62 = .ok (.goto 113, 3) := by decide +kernel
theorem dL_settle_65 : decode cL_settle 65 = .ok (.iload 11, 2) := by decide +kernel
theorem dL_settle_67 : decode cL_settle 67 = .ok (.bipush 10, 2) := by decide +kernel
theorem dL_settle_69 : decode cL_settle 69 = .ok (.aload 4, 2) := by decide +kernel
theorem dL_settle_71 : decode cL_settle 71 = .ok (.aload 5, 2) := by decide +kernel
theorem dL_settle_73 : decode cL_settle 73 = .ok (.aload 6, 2) := by decide +kernel
theorem dL_settle_75 : decode cL_settle 75 = .ok (.aload 7, 2) := by decide +kernel
theorem dL_settle_77 : decode cL_settle 77 = .ok (.invokestatic 8, 3) := by decide +kernel
theorem dL_settle_80 : decode cL_settle 80 = .ok (.istore 12, 2) := by decide +kernel
theorem dL_settle_82 : decode cL_settle 82 = .ok (.bipush 10, 2) := by decide +kernel
theorem dL_settle_84 : decode cL_settle 84 = .ok (.iload 11, 2) := by decide +kernel
theorem dL_settle_86 : decode cL_settle 86 = .ok (.aload 4, 2) := by decide +kernel
theorem dL_settle_88 : decode cL_settle 88 = .ok (.aload 5, 2) := by decide +kernel
theorem dL_settle_90 : decode cL_settle 90 = .ok (.aload 6, 2) := by decide +kernel
theorem dL_settle_92 : decode cL_settle 92 = .ok (.aload 7, 2) := by decide +kernel
theorem dL_settle_94 : decode cL_settle 94 = .ok (.invokestatic 8, 3) := by decide +kernel
theorem dL_settle_97 : decode cL_settle 97 = .ok (.ineg, 1) := by decide +kernel
theorem dL_settle_98 : decode cL_settle 98 = .ok (.istore 13, 2) := by decide +kernel
theorem dL_settle_100 : decode cL_settle 100 = .ok (.aload_n 0, 1) := by decide +kernel
theorem dL_settle_101 : decode cL_settle 101 = .ok (.iload 11, 2) := by decide +kernel
theorem dL_settle_103 : decode cL_settle 103 = .ok (.aload_n 0, 1) := by decide +kernel
theorem dL_settle_104 : decode cL_settle 104 = .ok (.iload 11, 2) := by decide +kernel
theorem dL_settle_106 : decode cL_settle 106 = .ok (.iaload, 1) := by decide +kernel
theorem dL_settle_107 : decode cL_settle 107 = .ok (.iload 12, 2) := by decide +kernel
theorem dL_settle_109 : decode cL_settle 109 = .ok (.if_icmp .le 8, 3) := by decide +kernel
theorem dL_settle_112 : decode cL_settle 112 = .ok (.iload 12, 2) := by decide +kernel
theorem dL_settle_114 : decode cL_settle 114 = .ok (.goto 21, 3) := by decide +kernel
theorem dL_settle_117 : decode cL_settle 117 = .ok (.aload_n 0, 1) := by decide +kernel
theorem dL_settle_118 : decode cL_settle 118 = .ok (.iload 11, 2) := by decide +kernel
theorem dL_settle_120 : decode cL_settle 120 = .ok (.iaload, 1) := by decide +kernel
theorem dL_settle_121 : decode cL_settle 121 = .ok (.iload 13, 2) := by decide +kernel
theorem dL_settle_123 : decode cL_settle 123 = .ok (.if_icmp .ge 8, 3) := by decide +kernel
theorem dL_settle_126 : decode cL_settle 126 = .ok (.iload 13, 2) := by decide +kernel
theorem dL_settle_128 : decode cL_settle 128 = .ok (.goto 7, 3) := by decide +kernel
theorem dL_settle_131 : decode cL_settle 131 = .ok (.aload_n 0, 1) := by decide +kernel
theorem dL_settle_132 : decode cL_settle 132 = .ok (.iload 11, 2) := by decide +kernel
theorem dL_settle_134 : decode cL_settle 134 = .ok (.iaload, 1) := by decide +kernel
theorem dL_settle_135 : decode cL_settle 135 = .ok (.iastore, 1) := by decide +kernel
theorem dL_settle_136 : decode cL_settle 136 = .ok (.iload 11, 2) := by decide +kernel
theorem dL_settle_138 : decode cL_settle 138 = .ok (.bipush 10, 2) := by decide +kernel
theorem dL_settle_140 : decode cL_settle 140 = .ok (.aload_n 0, 1) := by decide +kernel
theorem dL_settle_141 : decode cL_settle 141 = .ok (.iload 11, 2) := by decide +kernel
theorem dL_settle_143 : decode cL_settle 143 = .ok (.iaload, 1) := by decide +kernel
theorem dL_settle_144 : decode cL_settle 144 = .ok (.aload 4, 2) := by decide +kernel
theorem dL_settle_146 : decode cL_settle 146 = .ok (.aload 5, 2) := by decide +kernel
theorem dL_settle_148 : decode cL_settle 148 = .ok (.aload 6, 2) := by decide +kernel
theorem dL_settle_150 : decode cL_settle 150 = .ok (.aload 7, 2) := by decide +kernel
theorem dL_settle_152 : decode cL_settle 152 = .ok (.invokestatic 14, 3) := by decide +kernel
theorem dL_settle_155 : decode cL_settle 155 = .ok (.bipush 10, 2) := by decide +kernel
theorem dL_settle_157 : decode cL_settle 157 = .ok (.iload 11, 2) := by decide +kernel
theorem dL_settle_159 : decode cL_settle 159 = .ok (.aload_n 0, 1) := by decide +kernel
theorem dL_settle_160 : decode cL_settle 160 = .ok (.iload 11, 2) := by decide +kernel
theorem dL_settle_162 : decode cL_settle 162 = .ok (.iaload, 1) := by decide +kernel
theorem dL_settle_163 : decode cL_settle 163 = .ok (.ineg, 1) := by decide +kernel
theorem dL_settle_164 : decode cL_settle 164 = .ok (.aload 4, 2) := by decide +kernel
theorem dL_settle_166 : decode cL_settle 166 = .ok (.aload 5, 2) := by decide +kernel
theorem dL_settle_168 : decode cL_settle 168 = .ok (.aload 6, 2) := by decide +kernel
theorem dL_settle_170 : decode cL_settle 170 = .ok (.aload 7, 2) := by decide +kernel
theorem dL_settle_172 : decode cL_settle 172 = .ok (.invokestatic 14, 3) := by decide +kernel
theorem dL_settle_175 : decode cL_settle 175 = .ok (.iinc 11 1, 3) := by decide +kernel
theorem dL_settle_178 : decode cL_settle 178 = .ok (.goto (-135), 3) := by decide +kernel
theorem dL_settle_181 : decode cL_settle 181 = .ok (.iinc 10 (-1), 3) := by decide +kernel
theorem dL_settle_184 : decode cL_settle 184 = .ok (.goto (-149), 3) := by decide +kernel
theorem dL_settle_187 : decode cL_settle 187 = .ok (.return_, 1) := by decide +kernel
theorem dL_other_0 : decode cL_other 0 = .ok (.iload_n 0, 1) := by decide +kernel
theorem dL_other_1 : decode cL_other 1 = .ok (.bipush 10, 2) := by decide +kernel
theorem dL_other_3 : decode cL_other 3 = .ok (.if_icmp .ne 7, 3) := by decide +kernel
theorem dL_other_6 : decode cL_other 6 = .ok (.iconst 0, 1) := by decide +kernel
theorem dL_other_7 : decode cL_other 7 = .ok (.goto 6, 3) := by decide +kernel
theorem dL_other_10 : decode cL_other 10 = .ok (.aload_n 1, 1) := by decide +kernel
theorem dL_other_11 : decode cL_other 11 = .ok (.iload_n 0, 1) := by decide +kernel
theorem dL_other_12 : decode cL_other 12 = .ok (.iaload, 1) := by decide +kernel
theorem dL_other_13 : decode cL_other 13 = .ok (.ireturn, 1) := by decide +kernel
theorem dL_holds_0 : decode cL_holds 0 = .ok (.aload_n 1, 1) := by decide +kernel
theorem dL_holds_1 : decode cL_holds 1 = .ok (.aload_n 2, 1) := by decide +kernel
theorem dL_holds_2 : decode cL_holds 2 = .ok (.iconst 5, 1) := by decide +kernel
theorem dL_holds_3 : decode cL_holds 3 = .ok (.iload_n 0, 1) := by decide +kernel
theorem dL_holds_4 : decode cL_holds 4 = .ok (.imul, 1) := by decide +kernel
theorem dL_holds_5 : decode cL_holds 5 = .ok (.iaload, 1) := by decide +kernel
theorem dL_holds_6 : decode cL_holds 6 = .ok (.iaload, 1) := by decide +kernel
theorem dL_holds_7 : decode cL_holds 7 = .ok (.aload_n 2, 1) := by decide +kernel
theorem dL_holds_8 : decode cL_holds 8 = .ok (.iconst 5, 1) := by decide +kernel
theorem dL_holds_9 : decode cL_holds 9 = .ok (.iload_n 0, 1) := by decide +kernel
theorem dL_holds_10 : decode cL_holds 10 = .ok (.imul, 1) := by decide +kernel
theorem dL_holds_11 : decode cL_holds 11 = .ok (.iconst 1, 1) := by decide +kernel
theorem dL_holds_12 : decode cL_holds 12 = .ok (.iadd, 1) := by decide +kernel
theorem dL_holds_13 : decode cL_holds 13 = .ok (.iaload, 1) := by decide +kernel
theorem dL_holds_14 : decode cL_holds 14 = .ok (.aload_n 1, 1) := by decide +kernel
theorem dL_holds_15 : decode cL_holds 15 = .ok (.invokestatic 26, 3) := by decide +kernel
theorem dL_holds_18 : decode cL_holds 18 = .ok (.isub, 1) := by decide +kernel
theorem dL_holds_19 : decode cL_holds 19 = .ok (.istore_n 3, 1) := by decide +kernel
theorem dL_holds_20 : decode cL_holds 20 = .ok (.aload_n 2, 1) := by decide +kernel
theorem dL_holds_21 : decode cL_holds 21 = .ok (.iconst 5, 1) := by decide +kernel
theorem dL_holds_22 : decode cL_holds 22 = .ok (.iload_n 0, 1) := by decide +kernel
theorem dL_holds_23 : decode cL_holds 23 = .ok (.imul, 1) := by decide +kernel
theorem dL_holds_24 : decode cL_holds 24 = .ok (.iconst 2, 1) := by decide +kernel
theorem dL_holds_25 : decode cL_holds 25 = .ok (.iadd, 1) := by decide +kernel
theorem dL_holds_26 : decode cL_holds 26 = .ok (.iaload, 1) := by decide +kernel
theorem dL_holds_27 : decode cL_holds 27 = .ok (.ifCond .ne 22, 3) := by decide +kernel
theorem dL_holds_30 : decode cL_holds 30 = .ok (.iload_n 3, 1) := by decide +kernel
theorem dL_holds_31 : decode cL_holds 31 = .ok (.aload_n 2, 1) := by decide +kernel
theorem dL_holds_32 : decode cL_holds 32 = .ok (.iconst 5, 1) := by decide +kernel
theorem dL_holds_33 : decode cL_holds 33 = .ok (.iload_n 0, 1) := by decide +kernel
theorem dL_holds_34 : decode cL_holds 34 = .ok (.imul, 1) := by decide +kernel
theorem dL_holds_35 : decode cL_holds 35 = .ok (.iconst 3, 1) := by decide +kernel
theorem dL_holds_36 : decode cL_holds 36 = .ok (.iadd, 1) := by decide +kernel
theorem dL_holds_37 : decode cL_holds 37 = .ok (.iaload, 1) := by decide +kernel
theorem dL_holds_38 : decode cL_holds 38 = .ok (.if_icmp .gt 7, 3) := by decide +kernel
theorem dL_holds_41 : decode cL_holds 41 = .ok (.iconst 1, 1) := by decide +kernel
theorem dL_holds_42 : decode cL_holds 42 = .ok (.goto 53, 3) := by decide +kernel
theorem dL_holds_45 : decode cL_holds 45 = .ok (.iconst 0, 1) := by decide +kernel
theorem dL_holds_46 : decode cL_holds 46 = .ok (.goto 49, 3) := by decide +kernel
theorem dL_holds_49 : decode cL_holds 49 = .ok (.aload_n 2, 1) := by decide +kernel
theorem dL_holds_50 : decode cL_holds 50 = .ok (.iconst 5, 1) := by decide +kernel
theorem dL_holds_51 : decode cL_holds 51 = .ok (.iload_n 0, 1) := by decide +kernel
theorem dL_holds_52 : decode cL_holds 52 = .ok (.imul, 1) := by decide +kernel
theorem dL_holds_53 : decode cL_holds 53 = .ok (.iconst 2, 1) := by decide +kernel
theorem dL_holds_54 : decode cL_holds 54 = .ok (.iadd, 1) := by decide +kernel
theorem dL_holds_55 : decode cL_holds 55 = .ok (.iaload, 1) := by decide +kernel
theorem dL_holds_56 : decode cL_holds 56 = .ok (.iconst 1, 1) := by decide +kernel
theorem dL_holds_57 : decode cL_holds 57 = .ok (.if_icmp .ne 22, 3) := by decide +kernel
theorem dL_holds_60 : decode cL_holds 60 = .ok (.iload_n 3, 1) := by decide +kernel
theorem dL_holds_61 : decode cL_holds 61 = .ok (.aload_n 2, 1) := by decide +kernel
theorem dL_holds_62 : decode cL_holds 62 = .ok (.iconst 5, 1) := by decide +kernel
theorem dL_holds_63 : decode cL_holds 63 = .ok (.iload_n 0, 1) := by decide +kernel
theorem dL_holds_64 : decode cL_holds 64 = .ok (.imul, 1) := by decide +kernel
theorem dL_holds_65 : decode cL_holds 65 = .ok (.iconst 3, 1) := by decide +kernel
theorem dL_holds_66 : decode cL_holds 66 = .ok (.iadd, 1) := by decide +kernel
theorem dL_holds_67 : decode cL_holds 67 = .ok (.iaload, 1) := by decide +kernel
theorem dL_holds_68 : decode cL_holds 68 = .ok (.if_icmp .ne 7, 3) := by decide +kernel
theorem dL_holds_71 : decode cL_holds 71 = .ok (.iconst 1, 1) := by decide +kernel
theorem dL_holds_72 : decode cL_holds 72 = .ok (.goto 23, 3) := by decide +kernel
theorem dL_holds_75 : decode cL_holds 75 = .ok (.iconst 0, 1) := by decide +kernel
theorem dL_holds_76 : decode cL_holds 76 = .ok (.goto 19, 3) := by decide +kernel
theorem dL_holds_79 : decode cL_holds 79 = .ok (.iload_n 3, 1) := by decide +kernel
theorem dL_holds_80 : decode cL_holds 80 = .ok (.aload_n 2, 1) := by decide +kernel
theorem dL_holds_81 : decode cL_holds 81 = .ok (.iconst 5, 1) := by decide +kernel
theorem dL_holds_82 : decode cL_holds 82 = .ok (.iload_n 0, 1) := by decide +kernel
theorem dL_holds_83 : decode cL_holds 83 = .ok (.imul, 1) := by decide +kernel
theorem dL_holds_84 : decode cL_holds 84 = .ok (.iconst 3, 1) := by decide +kernel
theorem dL_holds_85 : decode cL_holds 85 = .ok (.iadd, 1) := by decide +kernel
theorem dL_holds_86 : decode cL_holds 86 = .ok (.iaload, 1) := by decide +kernel
theorem dL_holds_87 : decode cL_holds 87 = .ok (.if_icmp .lt 7, 3) := by decide +kernel
theorem dL_holds_90 : decode cL_holds 90 = .ok (.iconst 1, 1) := by decide +kernel
theorem dL_holds_91 : decode cL_holds 91 = .ok (.goto 4, 3) := by decide +kernel
theorem dL_holds_94 : decode cL_holds 94 = .ok (.iconst 0, 1) := by decide +kernel
theorem dL_holds_95 : decode cL_holds 95 = .ok (.ireturn, 1) := by decide +kernel
theorem dL_told_0 : decode cL_told 0 = .ok (.bipush 27, 2) := by decide +kernel
theorem dL_told_2 : decode cL_told 2 = .ok (.newarray .int, 2) := by decide +kernel
theorem dL_told_4 : decode cL_told 4 = .ok (.astore 6, 2) := by decide +kernel
theorem dL_told_6 : decode cL_told 6 = .ok (.bipush 8, 2) := by decide +kernel
theorem dL_told_8 : decode cL_told 8 = .ok (.newarray .int, 2) := by decide +kernel
theorem dL_told_10 : decode cL_told 10 = .ok (.astore 7, 2) := by decide +kernel
theorem dL_told_12 : decode cL_told 12 = .ok (.bipush 27, 2) := by decide +kernel
theorem dL_told_14 : decode cL_told 14 = .ok (.newarray .int, 2) := by decide +kernel
theorem dL_told_16 : decode cL_told 16 = .ok (.astore 8, 2) := by decide +kernel
theorem dL_told_18 : decode cL_told 18 = .ok (.iconst 2, 1) := by decide +kernel
theorem dL_told_19 : decode cL_told 19 = .ok (.newarray .int, 2) := by decide +kernel
theorem dL_told_21 : decode cL_told 21 = .ok (.astore 9, 2) := by decide +kernel
theorem dL_told_23 : decode cL_told 23 = .ok (.bipush 64, 2) := by decide +kernel
theorem dL_told_25 : decode cL_told 25 = .ok (.newarray .int, 2) := by decide +kernel
theorem dL_told_27 : decode cL_told 27 = .ok (.astore 10, 2) := by decide +kernel
theorem dL_told_29 : decode cL_told 29 = .ok (.bipush 64, 2) := by decide +kernel
theorem dL_told_31 : decode cL_told 31 = .ok (.newarray .int, 2) := by decide +kernel
theorem dL_told_33 : decode cL_told 33 = .ok (.astore 11, 2) := by decide +kernel
theorem dL_told_35 : decode cL_told 35 = .ok (.bipush 64, 2) := by decide +kernel
theorem dL_told_37 : decode cL_told 37 = .ok (.newarray .int, 2) := by decide +kernel
theorem dL_told_39 : decode cL_told 39 = .ok (.astore 12, 2) := by decide +kernel
theorem dL_told_41 : decode cL_told 41 = .ok (.iconst 0, 1) := by decide +kernel
theorem dL_told_42 : decode cL_told 42 = .ok (.istore 13, 2) := by decide +kernel
theorem dL_told_44 : decode cL_told 44 = .ok (.iconst 0, 1) := by decide +kernel
theorem dL_told_45 : decode cL_told 45 = .ok (.istore 14, 2) := by decide +kernel
theorem dL_told_47 : decode cL_told 47 = .ok (.iconst 0, 1) := by decide +kernel
theorem dL_told_48 : decode cL_told 48 = .ok (.istore 15, 2) := by decide +kernel
theorem dL_told_50 : decode cL_told 50 = .ok (.iconst 0, 1) := by decide +kernel
theorem dL_told_51 : decode cL_told 51 = .ok (.istore 16, 2) := by decide +kernel
theorem dL_told_53 : decode cL_told 53 = .ok (.iconst 0, 1) := by decide +kernel
theorem dL_told_54 : decode cL_told 54 = .ok (.istore 17, 2) := by decide +kernel
theorem dL_told_56 : decode cL_told 56 = .ok (.iconst 0, 1) := by decide +kernel
theorem dL_told_57 : decode cL_told 57 = .ok (.istore 18, 2) := by decide +kernel
theorem dL_told_59 : decode cL_told 59 = .ok (.iconst (-1), 1) := by decide +kernel
theorem dL_told_60 : decode cL_told 60 = .ok (.aload_n 3, 1) := by decide +kernel
theorem dL_told_61 : decode cL_told 61 = .ok (.aload 4, 2) := by decide +kernel
theorem dL_told_63 : decode cL_told 63 = .ok (.aload 5, 2) := by decide +kernel
theorem dL_told_65 : decode cL_told 65 = .ok (.aload 6, 2) := by decide +kernel
theorem dL_told_67 : decode cL_told 67 = .ok (.aload 7, 2) := by decide +kernel
theorem dL_told_69 : decode cL_told 69 = .ok (.aload 9, 2) := by decide +kernel
theorem dL_told_71 : decode cL_told 71 = .ok (.aload 10, 2) := by decide +kernel
theorem dL_told_73 : decode cL_told 73 = .ok (.aload 11, 2) := by decide +kernel
theorem dL_told_75 : decode cL_told 75 = .ok (.aload 12, 2) := by decide +kernel
theorem dL_told_77 : decode cL_told 77 = .ok (.invokestatic 22, 3) := by decide +kernel
theorem dL_told_80 : decode cL_told 80 = .ok (.iconst 0, 1) := by decide +kernel
theorem dL_told_81 : decode cL_told 81 = .ok (.istore 19, 2) := by decide +kernel
theorem dL_told_83 : decode cL_told 83 = .ok (.iload 19, 2) := by decide +kernel
theorem dL_told_85 : decode cL_told 85 = .ok (.bipush 10, 2) := by decide +kernel
theorem dL_told_87 : decode cL_told 87 = .ok (.if_icmp .ge 297, 3) := by decide +kernel
theorem dL_told_90 : decode cL_told 90 = .ok (.iload 19, 2) := by decide +kernel
theorem dL_told_92 : decode cL_told 92 = .ok (.bipush 10, 2) := by decide +kernel
theorem dL_told_94 : decode cL_told 94 = .ok (.aload 9, 2) := by decide +kernel
theorem dL_told_96 : decode cL_told 96 = .ok (.aload 10, 2) := by decide +kernel
theorem dL_told_98 : decode cL_told 98 = .ok (.aload 11, 2) := by decide +kernel
theorem dL_told_100 : decode cL_told 100 = .ok (.aload 12, 2) := by decide +kernel
theorem dL_told_102 : decode cL_told 102 = .ok (.invokestatic 8, 3) := by decide +kernel
theorem dL_told_105 : decode cL_told 105 = .ok (.istore 20, 2) := by decide +kernel
theorem dL_told_107 : decode cL_told 107 = .ok (.bipush 10, 2) := by decide +kernel
theorem dL_told_109 : decode cL_told 109 = .ok (.iload 19, 2) := by decide +kernel
theorem dL_told_111 : decode cL_told 111 = .ok (.aload 9, 2) := by decide +kernel
theorem dL_told_113 : decode cL_told 113 = .ok (.aload 10, 2) := by decide +kernel
theorem dL_told_115 : decode cL_told 115 = .ok (.aload 11, 2) := by decide +kernel
theorem dL_told_117 : decode cL_told 117 = .ok (.aload 12, 2) := by decide +kernel
theorem dL_told_119 : decode cL_told 119 = .ok (.invokestatic 8, 3) := by decide +kernel
theorem dL_told_122 : decode cL_told 122 = .ok (.ineg, 1) := by decide +kernel
theorem dL_told_123 : decode cL_told 123 = .ok (.istore 21, 2) := by decide +kernel
theorem dL_told_125 : decode cL_told 125 = .ok (.iconst 0, 1) := by decide +kernel
theorem dL_told_126 : decode cL_told 126 = .ok (.istore 22, 2) := by decide +kernel
theorem dL_told_128 : decode cL_told 128 = .ok (.iconst (-1), 1) := by decide +kernel
theorem dL_told_129 : decode cL_told 129 = .ok (.istore 23, 2) := by decide +kernel
theorem dL_told_131 : decode cL_told 131 = .ok (.iconst 0, 1) := by decide +kernel
theorem dL_told_132 : decode cL_told 132 = .ok (.istore 24, 2) := by decide +kernel
theorem dL_told_134 : decode cL_told 134 = .ok (.iload 24, 2) := by decide +kernel
theorem dL_told_136 : decode cL_told 136 = .ok (.aload 5, 2) := by decide +kernel
theorem dL_told_138 : decode cL_told 138 = .ok (.iconst 0, 1) := by decide +kernel
theorem dL_told_139 : decode cL_told 139 = .ok (.iaload, 1) := by decide +kernel
theorem dL_told_140 : decode cL_told 140 = .ok (.if_icmp .ge 43, 3) := by decide +kernel
theorem dL_told_143 : decode cL_told 143 = .ok (.iload 22, 2) := by decide +kernel
theorem dL_told_145 : decode cL_told 145 = .ok (.aload_n 3, 1) := by decide +kernel
theorem dL_told_146 : decode cL_told 146 = .ok (.iconst 5, 1) := by decide +kernel
theorem dL_told_147 : decode cL_told 147 = .ok (.iload 24, 2) := by decide +kernel
theorem dL_told_149 : decode cL_told 149 = .ok (.imul, 1) := by decide +kernel
theorem dL_told_150 : decode cL_told 150 = .ok (.iaload, 1) := by decide +kernel
theorem dL_told_151 : decode cL_told 151 = .ok (.iload 19, 2) := by decide +kernel
theorem dL_told_153 : decode cL_told 153 = .ok (.if_icmp .eq 16, 3) := by decide +kernel
theorem dL_told_156 : decode cL_told 156 = .ok (.aload_n 3, 1) := by decide +kernel
theorem dL_told_157 : decode cL_told 157 = .ok (.iconst 5, 1) := by decide +kernel
theorem dL_told_158 : decode cL_told 158 = .ok (.iload 24, 2) := by decide +kernel
theorem dL_told_160 : decode cL_told 160 = .ok (.imul, 1) := by decide +kernel
theorem dL_told_161 : decode cL_told 161 = .ok (.iconst 1, 1) := by decide +kernel
theorem dL_told_162 : decode cL_told 162 = .ok (.iadd, 1) := by decide +kernel
theorem dL_told_163 : decode cL_told 163 = .ok (.iaload, 1) := by decide +kernel
theorem dL_told_164 : decode cL_told 164 = .ok (.iload 19, 2) := by decide +kernel
theorem dL_told_166 : decode cL_told 166 = .ok (.if_icmp .ne 7, 3) := by decide +kernel
theorem dL_told_169 : decode cL_told 169 = .ok (.iconst 1, 1) := by decide +kernel
theorem dL_told_170 : decode cL_told 170 = .ok (.goto 4, 3) := by decide +kernel
theorem dL_told_173 : decode cL_told 173 = .ok (.iconst 0, 1) := by decide +kernel
theorem dL_told_174 : decode cL_told 174 = .ok (.iadd, 1) := by decide +kernel
theorem dL_told_175 : decode cL_told 175 = .ok (.istore 22, 2) := by decide +kernel
theorem dL_told_177 : decode cL_told 177 = .ok (.iinc 24 1, 3) := by decide +kernel
theorem dL_told_180 : decode cL_told 180 = .ok (.goto (-46), 3) := by decide +kernel
theorem dL_told_183 : decode cL_told 183 = .ok (.iconst 0, 1) := by decide +kernel
theorem dL_told_184 : decode cL_told 184 = .ok (.istore 24, 2) := by decide +kernel
theorem dL_told_186 : decode cL_told 186 = .ok (.iload 24, 2) := by decide +kernel
theorem dL_told_188 : decode cL_told 188 = .ok (.aload 5, 2) := by decide +kernel
theorem dL_told_190 : decode cL_told 190 = .ok (.iconst 1, 1) := by decide +kernel
theorem dL_told_191 : decode cL_told 191 = .ok (.iaload, 1) := by decide +kernel
theorem dL_told_192 : decode cL_told 192 = .ok (.if_icmp .ge 30, 3) := by decide +kernel
theorem dL_told_195 : decode cL_told 195 = .ok (.aload 4, 2) := by decide +kernel
theorem dL_told_197 : decode cL_told 197 = .ok (.iconst 3, 1) := by decide +kernel
theorem dL_told_198 : decode cL_told 198 = .ok (.iload 24, 2) := by decide +kernel
theorem dL_told_200 : decode cL_told 200 = .ok (.imul, 1) := by decide +kernel
theorem dL_told_201 : decode cL_told 201 = .ok (.iaload, 1) := by decide +kernel
theorem dL_told_202 : decode cL_told 202 = .ok (.iload 19, 2) := by decide +kernel
theorem dL_told_204 : decode cL_told 204 = .ok (.if_icmp .ne 8, 3) := by decide +kernel
theorem dL_told_207 : decode cL_told 207 = .ok (.iload 24, 2) := by decide +kernel
theorem dL_told_209 : decode cL_told 209 = .ok (.goto 5, 3) := by decide +kernel
theorem dL_told_212 : decode cL_told 212 = .ok (.iload 23, 2) := by decide +kernel
theorem dL_told_214 : decode cL_told 214 = .ok (.istore 23, 2) := by decide +kernel
theorem dL_told_216 : decode cL_told 216 = .ok (.iinc 24 1, 3) := by decide +kernel
theorem dL_told_219 : decode cL_told 219 = .ok (.goto (-33), 3) := by decide +kernel
theorem dL_told_222 : decode cL_told 222 = .ok (.aload_n 0, 1) := by decide +kernel
theorem dL_told_223 : decode cL_told 223 = .ok (.iload 19, 2) := by decide +kernel
theorem dL_told_225 : decode cL_told 225 = .ok (.iconst 0, 1) := by decide +kernel
theorem dL_told_226 : decode cL_told 226 = .ok (.invokevirtual 30, 3) := by decide +kernel
theorem dL_told_229 : decode cL_told 229 = .ok (.aload_n 2, 1) := by decide +kernel
theorem dL_told_230 : decode cL_told 230 = .ok (.iload 19, 2) := by decide +kernel
theorem dL_told_232 : decode cL_told 232 = .ok (.iaload, 1) := by decide +kernel
theorem dL_told_233 : decode cL_told 233 = .ok (.if_icmp .ne 68, 3) := by decide +kernel
theorem dL_told_236 : decode cL_told 236 = .ok (.aload_n 0, 1) := by decide +kernel
theorem dL_told_237 : decode cL_told 237 = .ok (.iload 19, 2) := by decide +kernel
theorem dL_told_239 : decode cL_told 239 = .ok (.iconst 1, 1) := by decide +kernel
theorem dL_told_240 : decode cL_told 240 = .ok (.invokevirtual 30, 3) := by decide +kernel
theorem dL_told_243 : decode cL_told 243 = .ok (.aload_n 2, 1) := by decide +kernel
theorem dL_told_244 : decode cL_told 244 = .ok (.bipush 10, 2) := by decide +kernel
theorem dL_told_246 : decode cL_told 246 = .ok (.iload 19, 2) := by decide +kernel
theorem dL_told_248 : decode cL_told 248 = .ok (.iadd, 1) := by decide +kernel
theorem dL_told_249 : decode cL_told 249 = .ok (.iaload, 1) := by decide +kernel
theorem dL_told_250 : decode cL_told 250 = .ok (.if_icmp .ne 51, 3) := by decide +kernel
theorem dL_told_253 : decode cL_told 253 = .ok (.aload_n 0, 1) := by decide +kernel
theorem dL_told_254 : decode cL_told 254 = .ok (.iload 19, 2) := by decide +kernel
theorem dL_told_256 : decode cL_told 256 = .ok (.iconst 2, 1) := by decide +kernel
theorem dL_told_257 : decode cL_told 257 = .ok (.invokevirtual 30, 3) := by decide +kernel
theorem dL_told_260 : decode cL_told 260 = .ok (.iload 21, 2) := by decide +kernel
theorem dL_told_262 : decode cL_told 262 = .ok (.if_icmp .ne 39, 3) := by decide +kernel
theorem dL_told_265 : decode cL_told 265 = .ok (.aload_n 0, 1) := by decide +kernel
theorem dL_told_266 : decode cL_told 266 = .ok (.iload 19, 2) := by decide +kernel
theorem dL_told_268 : decode cL_told 268 = .ok (.iconst 3, 1) := by decide +kernel
theorem dL_told_269 : decode cL_told 269 = .ok (.invokevirtual 30, 3) := by decide +kernel
theorem dL_told_272 : decode cL_told 272 = .ok (.iload 20, 2) := by decide +kernel
theorem dL_told_274 : decode cL_told 274 = .ok (.if_icmp .ne 27, 3) := by decide +kernel
theorem dL_told_277 : decode cL_told 277 = .ok (.aload_n 0, 1) := by decide +kernel
theorem dL_told_278 : decode cL_told 278 = .ok (.iload 19, 2) := by decide +kernel
theorem dL_told_280 : decode cL_told 280 = .ok (.iconst 4, 1) := by decide +kernel
theorem dL_told_281 : decode cL_told 281 = .ok (.invokevirtual 30, 3) := by decide +kernel
theorem dL_told_284 : decode cL_told 284 = .ok (.iload 22, 2) := by decide +kernel
theorem dL_told_286 : decode cL_told 286 = .ok (.if_icmp .ne 15, 3) := by decide +kernel
theorem dL_told_289 : decode cL_told 289 = .ok (.aload_n 0, 1) := by decide +kernel
theorem dL_told_290 : decode cL_told 290 = .ok (.iload 19, 2) := by decide +kernel
theorem dL_told_292 : decode cL_told 292 = .ok (.iconst 5, 1) := by decide +kernel
theorem dL_told_293 : decode cL_told 293 = .ok (.invokevirtual 30, 3) := by decide +kernel
theorem dL_told_296 : decode cL_told 296 = .ok (.iload 23, 2) := by decide +kernel
theorem dL_told_298 : decode cL_told 298 = .ok (.if_icmp .eq 5, 3) := by decide +kernel
theorem dL_told_301 : decode cL_told 301 = .ok (.iconst 0, 1) := by decide +kernel
theorem dL_told_302 : decode cL_told 302 = .ok (.ireturn, 1) := by decide +kernel
theorem dL_told_303 : decode cL_told 303 = .ok (.iload 15, 2) := by decide +kernel
theorem dL_told_305 : decode cL_told 305 = .ok (.aload_n 2, 1) := by decide +kernel
theorem dL_told_306 : decode cL_told 306 = .ok (.iload 19, 2) := by decide +kernel
theorem dL_told_308 : decode cL_told 308 = .ok (.iaload, 1) := by decide +kernel
theorem dL_told_309 : decode cL_told 309 = .ok (.iadd, 1) := by decide +kernel
theorem dL_told_310 : decode cL_told 310 = .ok (.istore 15, 2) := by decide +kernel
theorem dL_told_312 : decode cL_told 312 = .ok (.iload 16, 2) := by decide +kernel
theorem dL_told_314 : decode cL_told 314 = .ok (.iload 20, 2) := by decide +kernel
theorem dL_told_316 : decode cL_told 316 = .ok (.iload 21, 2) := by decide +kernel
theorem dL_told_318 : decode cL_told 318 = .ok (.if_icmp .ne 7, 3) := by decide +kernel
theorem dL_told_321 : decode cL_told 321 = .ok (.iconst 1, 1) := by decide +kernel
theorem dL_told_322 : decode cL_told 322 = .ok (.goto 4, 3) := by decide +kernel
theorem dL_told_325 : decode cL_told 325 = .ok (.iconst 0, 1) := by decide +kernel
theorem dL_told_326 : decode cL_told 326 = .ok (.iadd, 1) := by decide +kernel
theorem dL_told_327 : decode cL_told 327 = .ok (.istore 16, 2) := by decide +kernel
theorem dL_told_329 : decode cL_told 329 = .ok (.iload 17, 2) := by decide +kernel
theorem dL_told_331 : decode cL_told 331 = .ok (.iload 20, 2) := by decide +kernel
theorem dL_told_333 : decode cL_told 333 = .ok (.iload 21, 2) := by decide +kernel
theorem dL_told_335 : decode cL_told 335 = .ok (.isub, 1) := by decide +kernel
theorem dL_told_336 : decode cL_told 336 = .ok (.iadd, 1) := by decide +kernel
theorem dL_told_337 : decode cL_told 337 = .ok (.istore 17, 2) := by decide +kernel
theorem dL_told_339 : decode cL_told 339 = .ok (.iload_n 1, 1) := by decide +kernel
theorem dL_told_340 : decode cL_told 340 = .ok (.iload 19, 2) := by decide +kernel
theorem dL_told_342 : decode cL_told 342 = .ok (.ishr, 1) := by decide +kernel
theorem dL_told_343 : decode cL_told 343 = .ok (.bipush 10, 2) := by decide +kernel
theorem dL_told_345 : decode cL_told 345 = .ok (.invokestatic 36, 3) := by decide +kernel
theorem dL_told_348 : decode cL_told 348 = .ok (.istore 24, 2) := by decide +kernel
theorem dL_told_350 : decode cL_told 350 = .ok (.aload_n 0, 1) := by decide +kernel
theorem dL_told_351 : decode cL_told 351 = .ok (.iload 19, 2) := by decide +kernel
theorem dL_told_353 : decode cL_told 353 = .ok (.iload 24, 2) := by decide +kernel
theorem dL_told_355 : decode cL_told 355 = .ok (.invokevirtual 39, 3) := by decide +kernel
theorem dL_told_358 : decode cL_told 358 = .ok (.iload 19, 2) := by decide +kernel
theorem dL_told_360 : decode cL_told 360 = .ok (.iload 24, 2) := by decide +kernel
theorem dL_told_362 : decode cL_told 362 = .ok (.aload 9, 2) := by decide +kernel
theorem dL_told_364 : decode cL_told 364 = .ok (.aload 10, 2) := by decide +kernel
theorem dL_told_366 : decode cL_told 366 = .ok (.aload 11, 2) := by decide +kernel
theorem dL_told_368 : decode cL_told 368 = .ok (.aload 12, 2) := by decide +kernel
theorem dL_told_370 : decode cL_told 370 = .ok (.invokestatic 8, 3) := by decide +kernel
theorem dL_told_373 : decode cL_told 373 = .ok (.if_icmp .eq 5, 3) := by decide +kernel
theorem dL_told_376 : decode cL_told 376 = .ok (.iconst 0, 1) := by decide +kernel
theorem dL_told_377 : decode cL_told 377 = .ok (.ireturn, 1) := by decide +kernel
theorem dL_told_378 : decode cL_told 378 = .ok (.iinc 19 1, 3) := by decide +kernel
theorem dL_told_381 : decode cL_told 381 = .ok (.goto (-298), 3) := by decide +kernel
theorem dL_told_384 : decode cL_told 384 = .ok (.iconst 0, 1) := by decide +kernel
theorem dL_told_385 : decode cL_told 385 = .ok (.istore 19, 2) := by decide +kernel
theorem dL_told_387 : decode cL_told 387 = .ok (.iload 19, 2) := by decide +kernel
theorem dL_told_389 : decode cL_told 389 = .ok (.aload 5, 2) := by decide +kernel
theorem dL_told_391 : decode cL_told 391 = .ok (.iconst 1, 1) := by decide +kernel
theorem dL_told_392 : decode cL_told 392 = .ok (.iaload, 1) := by decide +kernel
theorem dL_told_393 : decode cL_told 393 = .ok (.if_icmp .ge 97, 3) := by decide +kernel
theorem dL_told_396 : decode cL_told 396 = .ok (.iload 18, 2) := by decide +kernel
theorem dL_told_398 : decode cL_told 398 = .ok (.aload 7, 2) := by decide +kernel
theorem dL_told_400 : decode cL_told 400 = .ok (.iconst 2, 1) := by decide +kernel
theorem dL_told_401 : decode cL_told 401 = .ok (.iload 19, 2) := by decide +kernel
theorem dL_told_403 : decode cL_told 403 = .ok (.imul, 1) := by decide +kernel
theorem dL_told_404 : decode cL_told 404 = .ok (.iaload, 1) := by decide +kernel
theorem dL_told_405 : decode cL_told 405 = .ok (.iadd, 1) := by decide +kernel
theorem dL_told_406 : decode cL_told 406 = .ok (.istore 18, 2) := by decide +kernel
theorem dL_told_408 : decode cL_told 408 = .ok (.iconst 0, 1) := by decide +kernel
theorem dL_told_409 : decode cL_told 409 = .ok (.istore 20, 2) := by decide +kernel
theorem dL_told_411 : decode cL_told 411 = .ok (.iload 20, 2) := by decide +kernel
theorem dL_told_413 : decode cL_told 413 = .ok (.iconst 3, 1) := by decide +kernel
theorem dL_told_414 : decode cL_told 414 = .ok (.if_icmp .ge 32, 3) := by decide +kernel
theorem dL_told_417 : decode cL_told 417 = .ok (.aload_n 0, 1) := by decide +kernel
theorem dL_told_418 : decode cL_told 418 = .ok (.iload 19, 2) := by decide +kernel
theorem dL_told_420 : decode cL_told 420 = .ok (.iload 20, 2) := by decide +kernel
theorem dL_told_422 : decode cL_told 422 = .ok (.invokevirtual 42, 3) := by decide +kernel
theorem dL_told_425 : decode cL_told 425 = .ok (.aload 4, 2) := by decide +kernel
theorem dL_told_427 : decode cL_told 427 = .ok (.iconst 3, 1) := by decide +kernel
theorem dL_told_428 : decode cL_told 428 = .ok (.iload 19, 2) := by decide +kernel
theorem dL_told_430 : decode cL_told 430 = .ok (.imul, 1) := by decide +kernel
theorem dL_told_431 : decode cL_told 431 = .ok (.iload 20, 2) := by decide +kernel
theorem dL_told_433 : decode cL_told 433 = .ok (.iadd, 1) := by decide +kernel
theorem dL_told_434 : decode cL_told 434 = .ok (.iaload, 1) := by decide +kernel
theorem dL_told_435 : decode cL_told 435 = .ok (.if_icmp .eq 5, 3) := by decide +kernel
theorem dL_told_438 : decode cL_told 438 = .ok (.iconst 0, 1) := by decide +kernel
theorem dL_told_439 : decode cL_told 439 = .ok (.ireturn, 1) := by decide +kernel
theorem dL_told_440 : decode cL_told 440 = .ok (.iinc 20 1, 3) := by decide +kernel
theorem dL_told_443 : decode cL_told 443 = .ok (.goto (-32), 3) := by decide +kernel
theorem dL_told_446 : decode cL_told 446 = .ok (.aload_n 0, 1) := by decide +kernel
theorem dL_told_447 : decode cL_told 447 = .ok (.iload 19, 2) := by decide +kernel
theorem dL_told_449 : decode cL_told 449 = .ok (.iconst 3, 1) := by decide +kernel
theorem dL_told_450 : decode cL_told 450 = .ok (.invokevirtual 42, 3) := by decide +kernel
theorem dL_told_453 : decode cL_told 453 = .ok (.aload 7, 2) := by decide +kernel
theorem dL_told_455 : decode cL_told 455 = .ok (.iconst 2, 1) := by decide +kernel
theorem dL_told_456 : decode cL_told 456 = .ok (.iload 19, 2) := by decide +kernel
theorem dL_told_458 : decode cL_told 458 = .ok (.imul, 1) := by decide +kernel
theorem dL_told_459 : decode cL_told 459 = .ok (.iaload, 1) := by decide +kernel
theorem dL_told_460 : decode cL_told 460 = .ok (.if_icmp .ne 22, 3) := by decide +kernel
theorem dL_told_463 : decode cL_told 463 = .ok (.aload_n 0, 1) := by decide +kernel
theorem dL_told_464 : decode cL_told 464 = .ok (.iload 19, 2) := by decide +kernel
theorem dL_told_466 : decode cL_told 466 = .ok (.iconst 4, 1) := by decide +kernel
theorem dL_told_467 : decode cL_told 467 = .ok (.invokevirtual 42, 3) := by decide +kernel
theorem dL_told_470 : decode cL_told 470 = .ok (.aload 7, 2) := by decide +kernel
theorem dL_told_472 : decode cL_told 472 = .ok (.iconst 2, 1) := by decide +kernel
theorem dL_told_473 : decode cL_told 473 = .ok (.iload 19, 2) := by decide +kernel
theorem dL_told_475 : decode cL_told 475 = .ok (.imul, 1) := by decide +kernel
theorem dL_told_476 : decode cL_told 476 = .ok (.iconst 1, 1) := by decide +kernel
theorem dL_told_477 : decode cL_told 477 = .ok (.iadd, 1) := by decide +kernel
theorem dL_told_478 : decode cL_told 478 = .ok (.iaload, 1) := by decide +kernel
theorem dL_told_479 : decode cL_told 479 = .ok (.if_icmp .eq 5, 3) := by decide +kernel
theorem dL_told_482 : decode cL_told 482 = .ok (.iconst 0, 1) := by decide +kernel
theorem dL_told_483 : decode cL_told 483 = .ok (.ireturn, 1) := by decide +kernel
theorem dL_told_484 : decode cL_told 484 = .ok (.iinc 19 1, 3) := by decide +kernel
theorem dL_told_487 : decode cL_told 487 = .ok (.goto (-100), 3) := by decide +kernel
theorem dL_told_490 : decode cL_told 490 = .ok (.iconst 0, 1) := by decide +kernel
theorem dL_told_491 : decode cL_told 491 = .ok (.istore 19, 2) := by decide +kernel
theorem dL_told_493 : decode cL_told 493 = .ok (.iload 19, 2) := by decide +kernel
theorem dL_told_495 : decode cL_told 495 = .ok (.aload 5, 2) := by decide +kernel
theorem dL_told_497 : decode cL_told 497 = .ok (.iconst 0, 1) := by decide +kernel
theorem dL_told_498 : decode cL_told 498 = .ok (.iaload, 1) := by decide +kernel
theorem dL_told_499 : decode cL_told 499 = .ok (.if_icmp .ge 312, 3) := by decide +kernel
theorem dL_told_502 : decode cL_told 502 = .ok (.iload 13, 2) := by decide +kernel
theorem dL_told_504 : decode cL_told 504 = .ok (.aload 6, 2) := by decide +kernel
theorem dL_told_506 : decode cL_told 506 = .ok (.iconst 3, 1) := by decide +kernel
theorem dL_told_507 : decode cL_told 507 = .ok (.iload 19, 2) := by decide +kernel
theorem dL_told_509 : decode cL_told 509 = .ok (.imul, 1) := by decide +kernel
theorem dL_told_510 : decode cL_told 510 = .ok (.iaload, 1) := by decide +kernel
theorem dL_told_511 : decode cL_told 511 = .ok (.iadd, 1) := by decide +kernel
theorem dL_told_512 : decode cL_told 512 = .ok (.istore 13, 2) := by decide +kernel
theorem dL_told_514 : decode cL_told 514 = .ok (.iload 14, 2) := by decide +kernel
theorem dL_told_516 : decode cL_told 516 = .ok (.iload 19, 2) := by decide +kernel
theorem dL_told_518 : decode cL_told 518 = .ok (.aload_n 2, 1) := by decide +kernel
theorem dL_told_519 : decode cL_told 519 = .ok (.aload_n 3, 1) := by decide +kernel
theorem dL_told_520 : decode cL_told 520 = .ok (.invokestatic 45, 3) := by decide +kernel
theorem dL_told_523 : decode cL_told 523 = .ok (.ifCond .eq 7, 3) := by decide +kernel
theorem dL_told_526 : decode cL_told 526 = .ok (.iconst 1, 1) := by decide +kernel
theorem dL_told_527 : decode cL_told 527 = .ok (.goto 4, 3) := by decide +kernel
theorem dL_told_530 : decode cL_told 530 = .ok (.iconst 0, 1) := by decide +kernel
theorem dL_told_531 : decode cL_told 531 = .ok (.iadd, 1) := by decide +kernel
theorem dL_told_532 : decode cL_told 532 = .ok (.istore 14, 2) := by decide +kernel
theorem dL_told_534 : decode cL_told 534 = .ok (.iconst 0, 1) := by decide +kernel
theorem dL_told_535 : decode cL_told 535 = .ok (.istore 20, 2) := by decide +kernel
theorem dL_told_537 : decode cL_told 537 = .ok (.iload 20, 2) := by decide +kernel
theorem dL_told_539 : decode cL_told 539 = .ok (.iconst 5, 1) := by decide +kernel
theorem dL_told_540 : decode cL_told 540 = .ok (.if_icmp .ge 54, 3) := by decide +kernel
theorem dL_told_543 : decode cL_told 543 = .ok (.aload_n 0, 1) := by decide +kernel
theorem dL_told_544 : decode cL_told 544 = .ok (.iload 19, 2) := by decide +kernel
theorem dL_told_546 : decode cL_told 546 = .ok (.iload 20, 2) := by decide +kernel
theorem dL_told_548 : decode cL_told 548 = .ok (.invokevirtual 49, 3) := by decide +kernel
theorem dL_told_551 : decode cL_told 551 = .ok (.iload 20, 2) := by decide +kernel
theorem dL_told_553 : decode cL_told 553 = .ok (.iconst 1, 1) := by decide +kernel
theorem dL_told_554 : decode cL_told 554 = .ok (.if_icmp .ne 20, 3) := by decide +kernel
theorem dL_told_557 : decode cL_told 557 = .ok (.aload_n 3, 1) := by decide +kernel
theorem dL_told_558 : decode cL_told 558 = .ok (.iconst 5, 1) := by decide +kernel
theorem dL_told_559 : decode cL_told 559 = .ok (.iload 19, 2) := by decide +kernel
theorem dL_told_561 : decode cL_told 561 = .ok (.imul, 1) := by decide +kernel
theorem dL_told_562 : decode cL_told 562 = .ok (.iconst 1, 1) := by decide +kernel
theorem dL_told_563 : decode cL_told 563 = .ok (.iadd, 1) := by decide +kernel
theorem dL_told_564 : decode cL_told 564 = .ok (.iaload, 1) := by decide +kernel
theorem dL_told_565 : decode cL_told 565 = .ok (.bipush 10, 2) := by decide +kernel
theorem dL_told_567 : decode cL_told 567 = .ok (.if_icmp .ne 7, 3) := by decide +kernel
theorem dL_told_570 : decode cL_told 570 = .ok (.iconst (-1), 1) := by decide +kernel
theorem dL_told_571 : decode cL_told 571 = .ok (.goto 12, 3) := by decide +kernel
theorem dL_told_574 : decode cL_told 574 = .ok (.aload_n 3, 1) := by decide +kernel
theorem dL_told_575 : decode cL_told 575 = .ok (.iconst 5, 1) := by decide +kernel
theorem dL_told_576 : decode cL_told 576 = .ok (.iload 19, 2) := by decide +kernel
theorem dL_told_578 : decode cL_told 578 = .ok (.imul, 1) := by decide +kernel
theorem dL_told_579 : decode cL_told 579 = .ok (.iload 20, 2) := by decide +kernel
theorem dL_told_581 : decode cL_told 581 = .ok (.iadd, 1) := by decide +kernel
theorem dL_told_582 : decode cL_told 582 = .ok (.iaload, 1) := by decide +kernel
theorem dL_told_583 : decode cL_told 583 = .ok (.if_icmp .eq 5, 3) := by decide +kernel
theorem dL_told_586 : decode cL_told 586 = .ok (.iconst 0, 1) := by decide +kernel
theorem dL_told_587 : decode cL_told 587 = .ok (.ireturn, 1) := by decide +kernel
theorem dL_told_588 : decode cL_told 588 = .ok (.iinc 20 1, 3) := by decide +kernel
theorem dL_told_591 : decode cL_told 591 = .ok (.goto (-54), 3) := by decide +kernel
theorem dL_told_594 : decode cL_told 594 = .ok (.aload_n 0, 1) := by decide +kernel
theorem dL_told_595 : decode cL_told 595 = .ok (.iload 19, 2) := by decide +kernel
theorem dL_told_597 : decode cL_told 597 = .ok (.iconst 5, 1) := by decide +kernel
theorem dL_told_598 : decode cL_told 598 = .ok (.invokevirtual 49, 3) := by decide +kernel
theorem dL_told_601 : decode cL_told 601 = .ok (.aload 6, 2) := by decide +kernel
theorem dL_told_603 : decode cL_told 603 = .ok (.iconst 3, 1) := by decide +kernel
theorem dL_told_604 : decode cL_told 604 = .ok (.iload 19, 2) := by decide +kernel
theorem dL_told_606 : decode cL_told 606 = .ok (.imul, 1) := by decide +kernel
theorem dL_told_607 : decode cL_told 607 = .ok (.iaload, 1) := by decide +kernel
theorem dL_told_608 : decode cL_told 608 = .ok (.if_icmp .ne 69, 3) := by decide +kernel
theorem dL_told_611 : decode cL_told 611 = .ok (.aload_n 0, 1) := by decide +kernel
theorem dL_told_612 : decode cL_told 612 = .ok (.iload 19, 2) := by decide +kernel
theorem dL_told_614 : decode cL_told 614 = .ok (.bipush 6, 2) := by decide +kernel
theorem dL_told_616 : decode cL_told 616 = .ok (.invokevirtual 49, 3) := by decide +kernel
theorem dL_told_619 : decode cL_told 619 = .ok (.aload 6, 2) := by decide +kernel
theorem dL_told_621 : decode cL_told 621 = .ok (.iconst 3, 1) := by decide +kernel
theorem dL_told_622 : decode cL_told 622 = .ok (.iload 19, 2) := by decide +kernel
theorem dL_told_624 : decode cL_told 624 = .ok (.imul, 1) := by decide +kernel
theorem dL_told_625 : decode cL_told 625 = .ok (.iconst 1, 1) := by decide +kernel
theorem dL_told_626 : decode cL_told 626 = .ok (.iadd, 1) := by decide +kernel
theorem dL_told_627 : decode cL_told 627 = .ok (.iaload, 1) := by decide +kernel
theorem dL_told_628 : decode cL_told 628 = .ok (.if_icmp .ne 49, 3) := by decide +kernel
theorem dL_told_631 : decode cL_told 631 = .ok (.aload_n 0, 1) := by decide +kernel
theorem dL_told_632 : decode cL_told 632 = .ok (.iload 19, 2) := by decide +kernel
theorem dL_told_634 : decode cL_told 634 = .ok (.bipush 7, 2) := by decide +kernel
theorem dL_told_636 : decode cL_told 636 = .ok (.invokevirtual 49, 3) := by decide +kernel
theorem dL_told_639 : decode cL_told 639 = .ok (.aload 6, 2) := by decide +kernel
theorem dL_told_641 : decode cL_told 641 = .ok (.iconst 3, 1) := by decide +kernel
theorem dL_told_642 : decode cL_told 642 = .ok (.iload 19, 2) := by decide +kernel
theorem dL_told_644 : decode cL_told 644 = .ok (.imul, 1) := by decide +kernel
theorem dL_told_645 : decode cL_told 645 = .ok (.iconst 2, 1) := by decide +kernel
theorem dL_told_646 : decode cL_told 646 = .ok (.iadd, 1) := by decide +kernel
theorem dL_told_647 : decode cL_told 647 = .ok (.iaload, 1) := by decide +kernel
theorem dL_told_648 : decode cL_told 648 = .ok (.if_icmp .ne 29, 3) := by decide +kernel
theorem dL_told_651 : decode cL_told 651 = .ok (.aload_n 0, 1) := by decide +kernel
theorem dL_told_652 : decode cL_told 652 = .ok (.iload 19, 2) := by decide +kernel
theorem dL_told_654 : decode cL_told 654 = .ok (.bipush 9, 2) := by decide +kernel
theorem dL_told_656 : decode cL_told 656 = .ok (.invokevirtual 49, 3) := by decide +kernel
theorem dL_told_659 : decode cL_told 659 = .ok (.iload 19, 2) := by decide +kernel
theorem dL_told_661 : decode cL_told 661 = .ok (.aload_n 2, 1) := by decide +kernel
theorem dL_told_662 : decode cL_told 662 = .ok (.aload_n 3, 1) := by decide +kernel
theorem dL_told_663 : decode cL_told 663 = .ok (.invokestatic 45, 3) := by decide +kernel
theorem dL_told_666 : decode cL_told 666 = .ok (.ifCond .eq 7, 3) := by decide +kernel
theorem dL_told_669 : decode cL_told 669 = .ok (.iconst 1, 1) := by decide +kernel
theorem dL_told_670 : decode cL_told 670 = .ok (.goto 4, 3) := by decide +kernel
theorem dL_told_673 : decode cL_told 673 = .ok (.iconst 0, 1) := by decide +kernel
theorem dL_told_674 : decode cL_told 674 = .ok (.if_icmp .eq 5, 3) := by decide +kernel
theorem dL_told_677 : decode cL_told 677 = .ok (.iconst 0, 1) := by decide +kernel
theorem dL_told_678 : decode cL_told 678 = .ok (.ireturn, 1) := by decide +kernel
theorem dL_told_679 : decode cL_told 679 = .ok (.iconst 0, 1) := by decide +kernel
theorem dL_told_680 : decode cL_told 680 = .ok (.istore 20, 2) := by decide +kernel
theorem dL_told_682 : decode cL_told 682 = .ok (.iconst 0, 1) := by decide +kernel
theorem dL_told_683 : decode cL_told 683 = .ok (.istore 21, 2) := by decide +kernel
theorem dL_told_685 : decode cL_told 685 = .ok (.iload 21, 2) := by decide +kernel
theorem dL_told_687 : decode cL_told 687 = .ok (.aload 5, 2) := by decide +kernel
theorem dL_told_689 : decode cL_told 689 = .ok (.iconst 0, 1) := by decide +kernel
theorem dL_told_690 : decode cL_told 690 = .ok (.iaload, 1) := by decide +kernel
theorem dL_told_691 : decode cL_told 691 = .ok (.if_icmp .ge 99, 3) := by decide +kernel
theorem dL_told_694 : decode cL_told 694 = .ok (.aload 6, 2) := by decide +kernel
theorem dL_told_696 : decode cL_told 696 = .ok (.iconst 3, 1) := by decide +kernel
theorem dL_told_697 : decode cL_told 697 = .ok (.iload 19, 2) := by decide +kernel
theorem dL_told_699 : decode cL_told 699 = .ok (.imul, 1) := by decide +kernel
theorem dL_told_700 : decode cL_told 700 = .ok (.iaload, 1) := by decide +kernel
theorem dL_told_701 : decode cL_told 701 = .ok (.ifCond .ne 89, 3) := by decide +kernel
theorem dL_told_704 : decode cL_told 704 = .ok (.aload 6, 2) := by decide +kernel
theorem dL_told_706 : decode cL_told 706 = .ok (.iconst 3, 1) := by decide +kernel
theorem dL_told_707 : decode cL_told 707 = .ok (.iload 21, 2) := by decide +kernel
theorem dL_told_709 : decode cL_told 709 = .ok (.imul, 1) := by decide +kernel
theorem dL_told_710 : decode cL_told 710 = .ok (.iaload, 1) := by decide +kernel
theorem dL_told_711 : decode cL_told 711 = .ok (.ifCond .eq 73, 3) := by decide +kernel
theorem dL_told_714 : decode cL_told 714 = .ok (.aload 6, 2) := by decide +kernel
theorem dL_told_716 : decode cL_told 716 = .ok (.iconst 3, 1) := by decide +kernel
theorem dL_told_717 : decode cL_told 717 = .ok (.iload 21, 2) := by decide +kernel
theorem dL_told_719 : decode cL_told 719 = .ok (.imul, 1) := by decide +kernel
theorem dL_told_720 : decode cL_told 720 = .ok (.iconst 2, 1) := by decide +kernel
theorem dL_told_721 : decode cL_told 721 = .ok (.iadd, 1) := by decide +kernel
theorem dL_told_722 : decode cL_told 722 = .ok (.iaload, 1) := by decide +kernel
theorem dL_told_723 : decode cL_told 723 = .ok (.aload 6, 2) := by decide +kernel
theorem dL_told_725 : decode cL_told 725 = .ok (.iconst 3, 1) := by decide +kernel
theorem dL_told_726 : decode cL_told 726 = .ok (.iload 19, 2) := by decide +kernel
theorem dL_told_728 : decode cL_told 728 = .ok (.imul, 1) := by decide +kernel
theorem dL_told_729 : decode cL_told 729 = .ok (.iconst 2, 1) := by decide +kernel
theorem dL_told_730 : decode cL_told 730 = .ok (.iadd, 1) := by decide +kernel
theorem dL_told_731 : decode cL_told 731 = .ok (.iaload, 1) := by decide +kernel
theorem dL_told_732 : decode cL_told 732 = .ok (.if_icmp .le 6, 3) := by decide +kernel
theorem dL_told_735 : decode cL_told 735 = .ok (.goto 49, 3) := by decide +kernel
theorem dL_told_738 : decode cL_told 738 = .ok (.iload 21, 2) := by decide +kernel
theorem dL_told_740 : decode cL_told 740 = .ok (.aload_n 3, 1) := by decide +kernel
theorem dL_told_741 : decode cL_told 741 = .ok (.aload 4, 2) := by decide +kernel
theorem dL_told_743 : decode cL_told 743 = .ok (.aload 5, 2) := by decide +kernel
theorem dL_told_745 : decode cL_told 745 = .ok (.aload 8, 2) := by decide +kernel
theorem dL_told_747 : decode cL_told 747 = .ok (.aload 7, 2) := by decide +kernel
theorem dL_told_749 : decode cL_told 749 = .ok (.aload 9, 2) := by decide +kernel
theorem dL_told_751 : decode cL_told 751 = .ok (.aload 10, 2) := by decide +kernel
theorem dL_told_753 : decode cL_told 753 = .ok (.aload 11, 2) := by decide +kernel
theorem dL_told_755 : decode cL_told 755 = .ok (.aload 12, 2) := by decide +kernel
theorem dL_told_757 : decode cL_told 757 = .ok (.invokestatic 22, 3) := by decide +kernel
theorem dL_told_760 : decode cL_told 760 = .ok (.iload 20, 2) := by decide +kernel
theorem dL_told_762 : decode cL_told 762 = .ok (.aload 8, 2) := by decide +kernel
theorem dL_told_764 : decode cL_told 764 = .ok (.iconst 3, 1) := by decide +kernel
theorem dL_told_765 : decode cL_told 765 = .ok (.iload 19, 2) := by decide +kernel
theorem dL_told_767 : decode cL_told 767 = .ok (.imul, 1) := by decide +kernel
theorem dL_told_768 : decode cL_told 768 = .ok (.iaload, 1) := by decide +kernel
theorem dL_told_769 : decode cL_told 769 = .ok (.iconst 1, 1) := by decide +kernel
theorem dL_told_770 : decode cL_told 770 = .ok (.if_icmp .ne 10, 3) := by decide +kernel
theorem dL_told_773 : decode cL_told 773 = .ok (.iconst 1, 1) := by decide +kernel
theorem dL_told_774 : decode cL_told 774 = .ok (.iload 21, 2) := by decide +kernel
theorem dL_told_776 : decode cL_told 776 = .ok (.ishl, 1) := by decide +kernel
theorem dL_told_777 : decode cL_told 777 = .ok (.goto 4, 3) := by decide +kernel
theorem dL_told_780 : decode cL_told 780 = .ok (.iconst 0, 1) := by decide +kernel
theorem dL_told_781 : decode cL_told 781 = .ok (.ior, 1) := by decide +kernel
theorem dL_told_782 : decode cL_told 782 = .ok (.istore 20, 2) := by decide +kernel
theorem dL_told_784 : decode cL_told 784 = .ok (.iinc 21 1, 3) := by decide +kernel
theorem dL_told_787 : decode cL_told 787 = .ok (.goto (-102), 3) := by decide +kernel
theorem dL_told_790 : decode cL_told 790 = .ok (.aload_n 0, 1) := by decide +kernel
theorem dL_told_791 : decode cL_told 791 = .ok (.iload 19, 2) := by decide +kernel
theorem dL_told_793 : decode cL_told 793 = .ok (.bipush 8, 2) := by decide +kernel
theorem dL_told_795 : decode cL_told 795 = .ok (.invokevirtual 49, 3) := by decide +kernel
theorem dL_told_798 : decode cL_told 798 = .ok (.iload 20, 2) := by decide +kernel
theorem dL_told_800 : decode cL_told 800 = .ok (.if_icmp .eq 5, 3) := by decide +kernel
theorem dL_told_803 : decode cL_told 803 = .ok (.iconst 0, 1) := by decide +kernel
theorem dL_told_804 : decode cL_told 804 = .ok (.ireturn, 1) := by decide +kernel
theorem dL_told_805 : decode cL_told 805 = .ok (.iinc 19 1, 3) := by decide +kernel
theorem dL_told_808 : decode cL_told 808 = .ok (.goto (-315), 3) := by decide +kernel
theorem dL_told_811 : decode cL_told 811 = .ok (.aload_n 0, 1) := by decide +kernel
theorem dL_told_812 : decode cL_told 812 = .ok (.invokevirtual 52, 3) := by decide +kernel
theorem dL_told_815 : decode cL_told 815 = .ok (.fconst 1, 1) := by decide +kernel
theorem dL_told_816 : decode cL_told 816 = .ok (.iload 17, 2) := by decide +kernel
theorem dL_told_818 : decode cL_told 818 = .ok (.i2f, 1) := by decide +kernel
theorem dL_told_819 : decode cL_told 819 = .ok (.fmul, 1) := by decide +kernel
theorem dL_told_820 : decode cL_told 820 = .ok (.ldc 56, 2) := by decide +kernel
theorem dL_told_822 : decode cL_told 822 = .ok (.fdiv, 1) := by decide +kernel
theorem dL_told_823 : decode cL_told 823 = .ok (.fcmp .l, 1) := by decide +kernel
theorem dL_told_824 : decode cL_told 824 = .ok (.ifCond .eq 5, 3) := by decide +kernel
theorem dL_told_827 : decode cL_told 827 = .ok (.iconst 0, 1) := by decide +kernel
theorem dL_told_828 : decode cL_told 828 = .ok (.ireturn, 1) := by decide +kernel
theorem dL_told_829 : decode cL_told 829 = .ok (.aload_n 0, 1) := by decide +kernel
theorem dL_told_830 : decode cL_told 830 = .ok (.iconst 0, 1) := by decide +kernel
theorem dL_told_831 : decode cL_told 831 = .ok (.invokevirtual 57, 3) := by decide +kernel
theorem dL_told_834 : decode cL_told 834 = .ok (.aload 5, 2) := by decide +kernel
theorem dL_told_836 : decode cL_told 836 = .ok (.iconst 0, 1) := by decide +kernel
theorem dL_told_837 : decode cL_told 837 = .ok (.iaload, 1) := by decide +kernel
theorem dL_told_838 : decode cL_told 838 = .ok (.if_icmp .ne 71, 3) := by decide +kernel
theorem dL_told_841 : decode cL_told 841 = .ok (.aload_n 0, 1) := by decide +kernel
theorem dL_told_842 : decode cL_told 842 = .ok (.iconst 1, 1) := by decide +kernel
theorem dL_told_843 : decode cL_told 843 = .ok (.invokevirtual 57, 3) := by decide +kernel
theorem dL_told_846 : decode cL_told 846 = .ok (.iload 13, 2) := by decide +kernel
theorem dL_told_848 : decode cL_told 848 = .ok (.if_icmp .ne 61, 3) := by decide +kernel
theorem dL_told_851 : decode cL_told 851 = .ok (.aload_n 0, 1) := by decide +kernel
theorem dL_told_852 : decode cL_told 852 = .ok (.iconst 2, 1) := by decide +kernel
theorem dL_told_853 : decode cL_told 853 = .ok (.invokevirtual 57, 3) := by decide +kernel
theorem dL_told_856 : decode cL_told 856 = .ok (.aload 5, 2) := by decide +kernel
theorem dL_told_858 : decode cL_told 858 = .ok (.iconst 1, 1) := by decide +kernel
theorem dL_told_859 : decode cL_told 859 = .ok (.iaload, 1) := by decide +kernel
theorem dL_told_860 : decode cL_told 860 = .ok (.if_icmp .ne 49, 3) := by decide +kernel
theorem dL_told_863 : decode cL_told 863 = .ok (.aload_n 0, 1) := by decide +kernel
theorem dL_told_864 : decode cL_told 864 = .ok (.iconst 3, 1) := by decide +kernel
theorem dL_told_865 : decode cL_told 865 = .ok (.invokevirtual 57, 3) := by decide +kernel
theorem dL_told_868 : decode cL_told 868 = .ok (.iload 18, 2) := by decide +kernel
theorem dL_told_870 : decode cL_told 870 = .ok (.if_icmp .ne 39, 3) := by decide +kernel
theorem dL_told_873 : decode cL_told 873 = .ok (.aload_n 0, 1) := by decide +kernel
theorem dL_told_874 : decode cL_told 874 = .ok (.iconst 5, 1) := by decide +kernel
theorem dL_told_875 : decode cL_told 875 = .ok (.invokevirtual 57, 3) := by decide +kernel
theorem dL_told_878 : decode cL_told 878 = .ok (.iload 16, 2) := by decide +kernel
theorem dL_told_880 : decode cL_told 880 = .ok (.if_icmp .ne 29, 3) := by decide +kernel
theorem dL_told_883 : decode cL_told 883 = .ok (.aload_n 0, 1) := by decide +kernel
theorem dL_told_884 : decode cL_told 884 = .ok (.bipush 6, 2) := by decide +kernel
theorem dL_told_886 : decode cL_told 886 = .ok (.invokevirtual 57, 3) := by decide +kernel
theorem dL_told_889 : decode cL_told 889 = .ok (.iload 14, 2) := by decide +kernel
theorem dL_told_891 : decode cL_told 891 = .ok (.if_icmp .ne 18, 3) := by decide +kernel
theorem dL_told_894 : decode cL_told 894 = .ok (.aload_n 0, 1) := by decide +kernel
theorem dL_told_895 : decode cL_told 895 = .ok (.bipush 7, 2) := by decide +kernel
theorem dL_told_897 : decode cL_told 897 = .ok (.invokevirtual 57, 3) := by decide +kernel
theorem dL_told_900 : decode cL_told 900 = .ok (.iload 15, 2) := by decide +kernel
theorem dL_told_902 : decode cL_told 902 = .ok (.if_icmp .ne 7, 3) := by decide +kernel
theorem dL_told_905 : decode cL_told 905 = .ok (.iconst 1, 1) := by decide +kernel
theorem dL_told_906 : decode cL_told 906 = .ok (.goto 4, 3) := by decide +kernel
theorem dL_told_909 : decode cL_told 909 = .ok (.iconst 0, 1) := by decide +kernel
theorem dL_told_910 : decode cL_told 910 = .ok (.ireturn, 1) := by decide +kernel
theorem dL_ahead_0 : decode cL_ahead 0 = .ok (.bipush 20, 2) := by decide +kernel
theorem dL_ahead_2 : decode cL_ahead 2 = .ok (.newarray .int, 2) := by decide +kernel
theorem dL_ahead_4 : decode cL_ahead 4 = .ok (.astore 7, 2) := by decide +kernel
theorem dL_ahead_6 : decode cL_ahead 6 = .ok (.bipush 12, 2) := by decide +kernel
theorem dL_ahead_8 : decode cL_ahead 8 = .ok (.newarray .int, 2) := by decide +kernel
theorem dL_ahead_10 : decode cL_ahead 10 = .ok (.astore 8, 2) := by decide +kernel
theorem dL_ahead_12 : decode cL_ahead 12 = .ok (.iconst 2, 1) := by decide +kernel
theorem dL_ahead_13 : decode cL_ahead 13 = .ok (.newarray .int, 2) := by decide +kernel
theorem dL_ahead_15 : decode cL_ahead 15 = .ok (.astore 9, 2) := by decide +kernel
theorem dL_ahead_17 : decode cL_ahead 17 = .ok (.bipush 27, 2) := by decide +kernel
theorem dL_ahead_19 : decode cL_ahead 19 = .ok (.newarray .int, 2) := by decide +kernel
theorem dL_ahead_21 : decode cL_ahead 21 = .ok (.astore 10, 2) := by decide +kernel
theorem dL_ahead_23 : decode cL_ahead 23 = .ok (.bipush 8, 2) := by decide +kernel
theorem dL_ahead_25 : decode cL_ahead 25 = .ok (.newarray .int, 2) := by decide +kernel
theorem dL_ahead_27 : decode cL_ahead 27 = .ok (.astore 11, 2) := by decide +kernel
theorem dL_ahead_29 : decode cL_ahead 29 = .ok (.iconst 2, 1) := by decide +kernel
theorem dL_ahead_30 : decode cL_ahead 30 = .ok (.newarray .int, 2) := by decide +kernel
theorem dL_ahead_32 : decode cL_ahead 32 = .ok (.astore 12, 2) := by decide +kernel
theorem dL_ahead_34 : decode cL_ahead 34 = .ok (.bipush 64, 2) := by decide +kernel
theorem dL_ahead_36 : decode cL_ahead 36 = .ok (.newarray .int, 2) := by decide +kernel
theorem dL_ahead_38 : decode cL_ahead 38 = .ok (.astore 13, 2) := by decide +kernel
theorem dL_ahead_40 : decode cL_ahead 40 = .ok (.bipush 64, 2) := by decide +kernel
theorem dL_ahead_42 : decode cL_ahead 42 = .ok (.newarray .int, 2) := by decide +kernel
theorem dL_ahead_44 : decode cL_ahead 44 = .ok (.astore 14, 2) := by decide +kernel
theorem dL_ahead_46 : decode cL_ahead 46 = .ok (.bipush 64, 2) := by decide +kernel
theorem dL_ahead_48 : decode cL_ahead 48 = .ok (.newarray .int, 2) := by decide +kernel
theorem dL_ahead_50 : decode cL_ahead 50 = .ok (.astore 15, 2) := by decide +kernel
theorem dL_ahead_52 : decode cL_ahead 52 = .ok (.iconst 0, 1) := by decide +kernel
theorem dL_ahead_53 : decode cL_ahead 53 = .ok (.istore 16, 2) := by decide +kernel
theorem dL_ahead_55 : decode cL_ahead 55 = .ok (.iload 16, 2) := by decide +kernel
theorem dL_ahead_57 : decode cL_ahead 57 = .ok (.bipush 20, 2) := by decide +kernel
theorem dL_ahead_59 : decode cL_ahead 59 = .ok (.if_icmp .ge 18, 3) := by decide +kernel
theorem dL_ahead_62 : decode cL_ahead 62 = .ok (.aload 7, 2) := by decide +kernel
theorem dL_ahead_64 : decode cL_ahead 64 = .ok (.iload 16, 2) := by decide +kernel
theorem dL_ahead_66 : decode cL_ahead 66 = .ok (.aload_n 3, 1) := by decide +kernel
theorem dL_ahead_67 : decode cL_ahead 67 = .ok (.iload 16, 2) := by decide +kernel
theorem dL_ahead_69 : decode cL_ahead 69 = .ok (.iaload, 1) := by decide +kernel
theorem dL_ahead_70 : decode cL_ahead 70 = .ok (.iastore, 1) := by decide +kernel
theorem dL_ahead_71 : decode cL_ahead 71 = .ok (.iinc 16 1, 3) := by decide +kernel
theorem dL_ahead_74 : decode cL_ahead 74 = .ok (.goto (-19), 3) := by decide +kernel
theorem dL_ahead_77 : decode cL_ahead 77 = .ok (.iconst 0, 1) := by decide +kernel
theorem dL_ahead_78 : decode cL_ahead 78 = .ok (.istore 16, 2) := by decide +kernel
theorem dL_ahead_80 : decode cL_ahead 80 = .ok (.iload 16, 2) := by decide +kernel
theorem dL_ahead_82 : decode cL_ahead 82 = .ok (.bipush 9, 2) := by decide +kernel
theorem dL_ahead_84 : decode cL_ahead 84 = .ok (.if_icmp .ge 19, 3) := by decide +kernel
theorem dL_ahead_87 : decode cL_ahead 87 = .ok (.aload 8, 2) := by decide +kernel
theorem dL_ahead_89 : decode cL_ahead 89 = .ok (.iload 16, 2) := by decide +kernel
theorem dL_ahead_91 : decode cL_ahead 91 = .ok (.aload 5, 2) := by decide +kernel
theorem dL_ahead_93 : decode cL_ahead 93 = .ok (.iload 16, 2) := by decide +kernel
theorem dL_ahead_95 : decode cL_ahead 95 = .ok (.iaload, 1) := by decide +kernel
theorem dL_ahead_96 : decode cL_ahead 96 = .ok (.iastore, 1) := by decide +kernel
theorem dL_ahead_97 : decode cL_ahead 97 = .ok (.iinc 16 1, 3) := by decide +kernel
theorem dL_ahead_100 : decode cL_ahead 100 = .ok (.goto (-20), 3) := by decide +kernel
theorem dL_ahead_103 : decode cL_ahead 103 = .ok (.aload 9, 2) := by decide +kernel
theorem dL_ahead_105 : decode cL_ahead 105 = .ok (.iconst 0, 1) := by decide +kernel
theorem dL_ahead_106 : decode cL_ahead 106 = .ok (.aload 6, 2) := by decide +kernel
theorem dL_ahead_108 : decode cL_ahead 108 = .ok (.iconst 0, 1) := by decide +kernel
theorem dL_ahead_109 : decode cL_ahead 109 = .ok (.iaload, 1) := by decide +kernel
theorem dL_ahead_110 : decode cL_ahead 110 = .ok (.iastore, 1) := by decide +kernel
theorem dL_ahead_111 : decode cL_ahead 111 = .ok (.aload 9, 2) := by decide +kernel
theorem dL_ahead_113 : decode cL_ahead 113 = .ok (.iconst 1, 1) := by decide +kernel
theorem dL_ahead_114 : decode cL_ahead 114 = .ok (.aload 6, 2) := by decide +kernel
theorem dL_ahead_116 : decode cL_ahead 116 = .ok (.iconst 1, 1) := by decide +kernel
theorem dL_ahead_117 : decode cL_ahead 117 = .ok (.iaload, 1) := by decide +kernel
theorem dL_ahead_118 : decode cL_ahead 118 = .ok (.iastore, 1) := by decide +kernel
theorem dL_ahead_119 : decode cL_ahead 119 = .ok (.iload_n 1, 1) := by decide +kernel
theorem dL_ahead_120 : decode cL_ahead 120 = .ok (.iconst 5, 1) := by decide +kernel
theorem dL_ahead_121 : decode cL_ahead 121 = .ok (.invokestatic 36, 3) := by decide +kernel
theorem dL_ahead_124 : decode cL_ahead 124 = .ok (.istore 16, 2) := by decide +kernel
theorem dL_ahead_126 : decode cL_ahead 126 = .ok (.iload_n 2, 1) := by decide +kernel
theorem dL_ahead_127 : decode cL_ahead 127 = .ok (.sipush 161, 3) := by decide +kernel
theorem dL_ahead_130 : decode cL_ahead 130 = .ok (.invokestatic 36, 3) := by decide +kernel
theorem dL_ahead_133 : decode cL_ahead 133 = .ok (.bipush 80, 2) := by decide +kernel
theorem dL_ahead_135 : decode cL_ahead 135 = .ok (.isub, 1) := by decide +kernel
theorem dL_ahead_136 : decode cL_ahead 136 = .ok (.istore 17, 2) := by decide +kernel
theorem dL_ahead_138 : decode cL_ahead 138 = .ok (.iload_n 1, 1) := by decide +kernel
theorem dL_ahead_139 : decode cL_ahead 139 = .ok (.iconst 4, 1) := by decide +kernel
theorem dL_ahead_140 : decode cL_ahead 140 = .ok (.ishr, 1) := by decide +kernel
theorem dL_ahead_141 : decode cL_ahead 141 = .ok (.iconst 4, 1) := by decide +kernel
theorem dL_ahead_142 : decode cL_ahead 142 = .ok (.invokestatic 36, 3) := by decide +kernel
theorem dL_ahead_145 : decode cL_ahead 145 = .ok (.istore 18, 2) := by decide +kernel
theorem dL_ahead_147 : decode cL_ahead 147 = .ok (.iload_n 2, 1) := by decide +kernel
theorem dL_ahead_148 : decode cL_ahead 148 = .ok (.bipush 8, 2) := by decide +kernel
theorem dL_ahead_150 : decode cL_ahead 150 = .ok (.ishr, 1) := by decide +kernel
theorem dL_ahead_151 : decode cL_ahead 151 = .ok (.bipush 6, 2) := by decide +kernel
theorem dL_ahead_153 : decode cL_ahead 153 = .ok (.invokestatic 36, 3) := by decide +kernel
theorem dL_ahead_156 : decode cL_ahead 156 = .ok (.istore 19, 2) := by decide +kernel
theorem dL_ahead_158 : decode cL_ahead 158 = .ok (.iload 16, 2) := by decide +kernel
theorem dL_ahead_160 : decode cL_ahead 160 = .ok (.iload 17, 2) := by decide +kernel
theorem dL_ahead_162 : decode cL_ahead 162 = .ok (.iload 18, 2) := by decide +kernel
theorem dL_ahead_164 : decode cL_ahead 164 = .ok (.aload 8, 2) := by decide +kernel
theorem dL_ahead_166 : decode cL_ahead 166 = .ok (.aload 9, 2) := by decide +kernel
theorem dL_ahead_168 : decode cL_ahead 168 = .ok (.invokestatic 61, 3) := by decide +kernel
theorem dL_ahead_171 : decode cL_ahead 171 = .ok (.aload 7, 2) := by decide +kernel
theorem dL_ahead_173 : decode cL_ahead 173 = .ok (.aload 4, 2) := by decide +kernel
theorem dL_ahead_175 : decode cL_ahead 175 = .ok (.aload 8, 2) := by decide +kernel
theorem dL_ahead_177 : decode cL_ahead 177 = .ok (.aload 9, 2) := by decide +kernel
theorem dL_ahead_179 : decode cL_ahead 179 = .ok (.aload 12, 2) := by decide +kernel
theorem dL_ahead_181 : decode cL_ahead 181 = .ok (.aload 13, 2) := by decide +kernel
theorem dL_ahead_183 : decode cL_ahead 183 = .ok (.aload 14, 2) := by decide +kernel
theorem dL_ahead_185 : decode cL_ahead 185 = .ok (.aload 15, 2) := by decide +kernel
theorem dL_ahead_187 : decode cL_ahead 187 = .ok (.invokestatic 65, 3) := by decide +kernel
theorem dL_ahead_190 : decode cL_ahead 190 = .ok (.aload_n 0, 1) := by decide +kernel
theorem dL_ahead_191 : decode cL_ahead 191 = .ok (.iload 16, 2) := by decide +kernel
theorem dL_ahead_193 : decode cL_ahead 193 = .ok (.iload 17, 2) := by decide +kernel
theorem dL_ahead_195 : decode cL_ahead 195 = .ok (.iload 18, 2) := by decide +kernel
theorem dL_ahead_197 : decode cL_ahead 197 = .ok (.iload 19, 2) := by decide +kernel
theorem dL_ahead_199 : decode cL_ahead 199 = .ok (.invokevirtual 69, 3) := by decide +kernel
theorem dL_ahead_202 : decode cL_ahead 202 = .ok (.aload 7, 2) := by decide +kernel
theorem dL_ahead_204 : decode cL_ahead 204 = .ok (.iload 19, 2) := by decide +kernel
theorem dL_ahead_206 : decode cL_ahead 206 = .ok (.iaload, 1) := by decide +kernel
theorem dL_ahead_207 : decode cL_ahead 207 = .ok (.if_icmp .ne 17, 3) := by decide +kernel
theorem dL_ahead_210 : decode cL_ahead 210 = .ok (.aload_n 0, 1) := by decide +kernel
theorem dL_ahead_211 : decode cL_ahead 211 = .ok (.iload 19, 2) := by decide +kernel
theorem dL_ahead_213 : decode cL_ahead 213 = .ok (.iconst 0, 1) := by decide +kernel
theorem dL_ahead_214 : decode cL_ahead 214 = .ok (.invokevirtual 30, 3) := by decide +kernel
theorem dL_ahead_217 : decode cL_ahead 217 = .ok (.aload_n 3, 1) := by decide +kernel
theorem dL_ahead_218 : decode cL_ahead 218 = .ok (.iload 19, 2) := by decide +kernel
theorem dL_ahead_220 : decode cL_ahead 220 = .ok (.iaload, 1) := by decide +kernel
theorem dL_ahead_221 : decode cL_ahead 221 = .ok (.if_icmp .eq 5, 3) := by decide +kernel
theorem dL_ahead_224 : decode cL_ahead 224 = .ok (.iconst 0, 1) := by decide +kernel
theorem dL_ahead_225 : decode cL_ahead 225 = .ok (.ireturn, 1) := by decide +kernel
theorem dL_ahead_226 : decode cL_ahead 226 = .ok (.aload 6, 2) := by decide +kernel
theorem dL_ahead_228 : decode cL_ahead 228 = .ok (.iconst 0, 1) := by decide +kernel
theorem dL_ahead_229 : decode cL_ahead 229 = .ok (.iaload, 1) := by decide +kernel
theorem dL_ahead_230 : decode cL_ahead 230 = .ok (.ifCond .ne 5, 3) := by decide +kernel
theorem dL_ahead_233 : decode cL_ahead 233 = .ok (.iconst 1, 1) := by decide +kernel
theorem dL_ahead_234 : decode cL_ahead 234 = .ok (.ireturn, 1) := by decide +kernel
theorem dL_ahead_235 : decode cL_ahead 235 = .ok (.iload_n 1, 1) := by decide +kernel
theorem dL_ahead_236 : decode cL_ahead 236 = .ok (.bipush 7, 2) := by decide +kernel
theorem dL_ahead_238 : decode cL_ahead 238 = .ok (.ishr, 1) := by decide +kernel
theorem dL_ahead_239 : decode cL_ahead 239 = .ok (.aload 6, 2) := by decide +kernel
theorem dL_ahead_241 : decode cL_ahead 241 = .ok (.iconst 0, 1) := by decide +kernel
theorem dL_ahead_242 : decode cL_ahead 242 = .ok (.iaload, 1) := by decide +kernel
theorem dL_ahead_243 : decode cL_ahead 243 = .ok (.invokestatic 36, 3) := by decide +kernel
theorem dL_ahead_246 : decode cL_ahead 246 = .ok (.istore 20, 2) := by decide +kernel
theorem dL_ahead_248 : decode cL_ahead 248 = .ok (.iload 20, 2) := by decide +kernel
theorem dL_ahead_250 : decode cL_ahead 250 = .ok (.aload 4, 2) := by decide +kernel
theorem dL_ahead_252 : decode cL_ahead 252 = .ok (.aload 5, 2) := by decide +kernel
theorem dL_ahead_254 : decode cL_ahead 254 = .ok (.aload 6, 2) := by decide +kernel
theorem dL_ahead_256 : decode cL_ahead 256 = .ok (.aload 10, 2) := by decide +kernel
theorem dL_ahead_258 : decode cL_ahead 258 = .ok (.aload 11, 2) := by decide +kernel
theorem dL_ahead_260 : decode cL_ahead 260 = .ok (.aload 12, 2) := by decide +kernel
theorem dL_ahead_262 : decode cL_ahead 262 = .ok (.aload 13, 2) := by decide +kernel
theorem dL_ahead_264 : decode cL_ahead 264 = .ok (.aload 14, 2) := by decide +kernel
theorem dL_ahead_266 : decode cL_ahead 266 = .ok (.aload 15, 2) := by decide +kernel
theorem dL_ahead_268 : decode cL_ahead 268 = .ok (.invokestatic 22, 3) := by decide +kernel
theorem dL_ahead_271 : decode cL_ahead 271 = .ok (.iconst 0, 1) := by decide +kernel
theorem dL_ahead_272 : decode cL_ahead 272 = .ok (.istore 21, 2) := by decide +kernel
theorem dL_ahead_274 : decode cL_ahead 274 = .ok (.iconst 0, 1) := by decide +kernel
theorem dL_ahead_275 : decode cL_ahead 275 = .ok (.istore 22, 2) := by decide +kernel
theorem dL_ahead_277 : decode cL_ahead 277 = .ok (.iload 22, 2) := by decide +kernel
theorem dL_ahead_279 : decode cL_ahead 279 = .ok (.aload 6, 2) := by decide +kernel
theorem dL_ahead_281 : decode cL_ahead 281 = .ok (.iconst 0, 1) := by decide +kernel
theorem dL_ahead_282 : decode cL_ahead 282 = .ok (.iaload, 1) := by decide +kernel
theorem dL_ahead_283 : decode cL_ahead 283 = .ok (.if_icmp .ge 32, 3) := by decide +kernel
theorem dL_ahead_286 : decode cL_ahead 286 = .ok (.iload 21, 2) := by decide +kernel
theorem dL_ahead_288 : decode cL_ahead 288 = .ok (.iload 22, 2) := by decide +kernel
theorem dL_ahead_290 : decode cL_ahead 290 = .ok (.iload 20, 2) := by decide +kernel
theorem dL_ahead_292 : decode cL_ahead 292 = .ok (.if_icmp .eq 13, 3) := by decide +kernel
theorem dL_ahead_295 : decode cL_ahead 295 = .ok (.aload 10, 2) := by decide +kernel
theorem dL_ahead_297 : decode cL_ahead 297 = .ok (.iconst 3, 1) := by decide +kernel
theorem dL_ahead_298 : decode cL_ahead 298 = .ok (.iload 22, 2) := by decide +kernel
theorem dL_ahead_300 : decode cL_ahead 300 = .ok (.imul, 1) := by decide +kernel
theorem dL_ahead_301 : decode cL_ahead 301 = .ok (.iaload, 1) := by decide +kernel
theorem dL_ahead_302 : decode cL_ahead 302 = .ok (.goto 4, 3) := by decide +kernel
theorem dL_ahead_305 : decode cL_ahead 305 = .ok (.iconst 0, 1) := by decide +kernel
theorem dL_ahead_306 : decode cL_ahead 306 = .ok (.iadd, 1) := by decide +kernel
theorem dL_ahead_307 : decode cL_ahead 307 = .ok (.istore 21, 2) := by decide +kernel
theorem dL_ahead_309 : decode cL_ahead 309 = .ok (.iinc 22 1, 3) := by decide +kernel
theorem dL_ahead_312 : decode cL_ahead 312 = .ok (.goto (-35), 3) := by decide +kernel
theorem dL_ahead_315 : decode cL_ahead 315 = .ok (.aload 4, 2) := by decide +kernel
theorem dL_ahead_317 : decode cL_ahead 317 = .ok (.iconst 5, 1) := by decide +kernel
theorem dL_ahead_318 : decode cL_ahead 318 = .ok (.iload 20, 2) := by decide +kernel
theorem dL_ahead_320 : decode cL_ahead 320 = .ok (.imul, 1) := by decide +kernel
theorem dL_ahead_321 : decode cL_ahead 321 = .ok (.iconst 4, 1) := by decide +kernel
theorem dL_ahead_322 : decode cL_ahead 322 = .ok (.iadd, 1) := by decide +kernel
theorem dL_ahead_323 : decode cL_ahead 323 = .ok (.iaload, 1) := by decide +kernel
theorem dL_ahead_324 : decode cL_ahead 324 = .ok (.istore 22, 2) := by decide +kernel
theorem dL_ahead_326 : decode cL_ahead 326 = .ok (.iconst (-1), 1) := by decide +kernel
theorem dL_ahead_327 : decode cL_ahead 327 = .ok (.istore 23, 2) := by decide +kernel
theorem dL_ahead_329 : decode cL_ahead 329 = .ok (.iconst 3, 1) := by decide +kernel
theorem dL_ahead_330 : decode cL_ahead 330 = .ok (.istore 24, 2) := by decide +kernel
theorem dL_ahead_332 : decode cL_ahead 332 = .ok (.iload 24, 2) := by decide +kernel
theorem dL_ahead_334 : decode cL_ahead 334 = .ok (.ifCond .lt 62, 3) := by decide +kernel
theorem dL_ahead_337 : decode cL_ahead 337 = .ok (.aload 4, 2) := by decide +kernel
theorem dL_ahead_339 : decode cL_ahead 339 = .ok (.iconst 5, 1) := by decide +kernel
theorem dL_ahead_340 : decode cL_ahead 340 = .ok (.iload 20, 2) := by decide +kernel
theorem dL_ahead_342 : decode cL_ahead 342 = .ok (.imul, 1) := by decide +kernel
theorem dL_ahead_343 : decode cL_ahead 343 = .ok (.iconst 4, 1) := by decide +kernel
theorem dL_ahead_344 : decode cL_ahead 344 = .ok (.iadd, 1) := by decide +kernel
theorem dL_ahead_345 : decode cL_ahead 345 = .ok (.iload 24, 2) := by decide +kernel
theorem dL_ahead_347 : decode cL_ahead 347 = .ok (.iastore, 1) := by decide +kernel
theorem dL_ahead_348 : decode cL_ahead 348 = .ok (.iconst (-1), 1) := by decide +kernel
theorem dL_ahead_349 : decode cL_ahead 349 = .ok (.aload 4, 2) := by decide +kernel
theorem dL_ahead_351 : decode cL_ahead 351 = .ok (.aload 5, 2) := by decide +kernel
theorem dL_ahead_353 : decode cL_ahead 353 = .ok (.aload 6, 2) := by decide +kernel
theorem dL_ahead_355 : decode cL_ahead 355 = .ok (.aload 10, 2) := by decide +kernel
theorem dL_ahead_357 : decode cL_ahead 357 = .ok (.aload 11, 2) := by decide +kernel
theorem dL_ahead_359 : decode cL_ahead 359 = .ok (.aload 12, 2) := by decide +kernel
theorem dL_ahead_361 : decode cL_ahead 361 = .ok (.aload 13, 2) := by decide +kernel
theorem dL_ahead_363 : decode cL_ahead 363 = .ok (.aload 14, 2) := by decide +kernel
theorem dL_ahead_365 : decode cL_ahead 365 = .ok (.aload 15, 2) := by decide +kernel
theorem dL_ahead_367 : decode cL_ahead 367 = .ok (.invokestatic 22, 3) := by decide +kernel
theorem dL_ahead_370 : decode cL_ahead 370 = .ok (.aload 10, 2) := by decide +kernel
theorem dL_ahead_372 : decode cL_ahead 372 = .ok (.iconst 3, 1) := by decide +kernel
theorem dL_ahead_373 : decode cL_ahead 373 = .ok (.iload 20, 2) := by decide +kernel
theorem dL_ahead_375 : decode cL_ahead 375 = .ok (.imul, 1) := by decide +kernel
theorem dL_ahead_376 : decode cL_ahead 376 = .ok (.iaload, 1) := by decide +kernel
theorem dL_ahead_377 : decode cL_ahead 377 = .ok (.iconst 1, 1) := by decide +kernel
theorem dL_ahead_378 : decode cL_ahead 378 = .ok (.if_icmp .ne 8, 3) := by decide +kernel
theorem dL_ahead_381 : decode cL_ahead 381 = .ok (.iload 24, 2) := by decide +kernel
theorem dL_ahead_383 : decode cL_ahead 383 = .ok (.goto 5, 3) := by decide +kernel
theorem dL_ahead_386 : decode cL_ahead 386 = .ok (.iload 23, 2) := by decide +kernel
theorem dL_ahead_388 : decode cL_ahead 388 = .ok (.istore 23, 2) := by decide +kernel
theorem dL_ahead_390 : decode cL_ahead 390 = .ok (.iinc 24 (-1), 3) := by decide +kernel
theorem dL_ahead_393 : decode cL_ahead 393 = .ok (.goto (-61), 3) := by decide +kernel
theorem dL_ahead_396 : decode cL_ahead 396 = .ok (.aload 4, 2) := by decide +kernel
theorem dL_ahead_398 : decode cL_ahead 398 = .ok (.iconst 5, 1) := by decide +kernel
theorem dL_ahead_399 : decode cL_ahead 399 = .ok (.iload 20, 2) := by decide +kernel
theorem dL_ahead_401 : decode cL_ahead 401 = .ok (.imul, 1) := by decide +kernel
theorem dL_ahead_402 : decode cL_ahead 402 = .ok (.iconst 4, 1) := by decide +kernel
theorem dL_ahead_403 : decode cL_ahead 403 = .ok (.iadd, 1) := by decide +kernel
theorem dL_ahead_404 : decode cL_ahead 404 = .ok (.iload 22, 2) := by decide +kernel
theorem dL_ahead_406 : decode cL_ahead 406 = .ok (.iastore, 1) := by decide +kernel
theorem dL_ahead_407 : decode cL_ahead 407 = .ok (.aload_n 0, 1) := by decide +kernel
theorem dL_ahead_408 : decode cL_ahead 408 = .ok (.iload 20, 2) := by decide +kernel
theorem dL_ahead_410 : decode cL_ahead 410 = .ok (.invokevirtual 73, 3) := by decide +kernel
theorem dL_ahead_413 : decode cL_ahead 413 = .ok (.iload 21, 2) := by decide +kernel
theorem dL_ahead_415 : decode cL_ahead 415 = .ok (.if_icmp .ne 18, 3) := by decide +kernel
theorem dL_ahead_418 : decode cL_ahead 418 = .ok (.aload_n 0, 1) := by decide +kernel
theorem dL_ahead_419 : decode cL_ahead 419 = .ok (.iload 20, 2) := by decide +kernel
theorem dL_ahead_421 : decode cL_ahead 421 = .ok (.invokevirtual 76, 3) := by decide +kernel
theorem dL_ahead_424 : decode cL_ahead 424 = .ok (.iload 23, 2) := by decide +kernel
theorem dL_ahead_426 : decode cL_ahead 426 = .ok (.if_icmp .ne 7, 3) := by decide +kernel
theorem dL_ahead_429 : decode cL_ahead 429 = .ok (.iconst 1, 1) := by decide +kernel
theorem dL_ahead_430 : decode cL_ahead 430 = .ok (.goto 4, 3) := by decide +kernel
theorem dL_ahead_433 : decode cL_ahead 433 = .ok (.iconst 0, 1) := by decide +kernel
theorem dL_ahead_434 : decode cL_ahead 434 = .ok (.ireturn, 1) := by decide +kernel
theorem dL_lay_0 : decode cL_lay 0 = .ok (.iconst 0, 1) := by decide +kernel
theorem dL_lay_1 : decode cL_lay 1 = .ok (.istore 5, 2) := by decide +kernel
theorem dL_lay_3 : decode cL_lay 3 = .ok (.iload 5, 2) := by decide +kernel
theorem dL_lay_5 : decode cL_lay 5 = .ok (.aload 4, 2) := by decide +kernel
theorem dL_lay_7 : decode cL_lay 7 = .ok (.iconst 1, 1) := by decide +kernel
theorem dL_lay_8 : decode cL_lay 8 = .ok (.iaload, 1) := by decide +kernel
theorem dL_lay_9 : decode cL_lay 9 = .ok (.if_icmp .ge 19, 3) := by decide +kernel
theorem dL_lay_12 : decode cL_lay 12 = .ok (.aload_n 3, 1) := by decide +kernel
theorem dL_lay_13 : decode cL_lay 13 = .ok (.iconst 3, 1) := by decide +kernel
theorem dL_lay_14 : decode cL_lay 14 = .ok (.iload 5, 2) := by decide +kernel
theorem dL_lay_16 : decode cL_lay 16 = .ok (.imul, 1) := by decide +kernel
theorem dL_lay_17 : decode cL_lay 17 = .ok (.iaload, 1) := by decide +kernel
theorem dL_lay_18 : decode cL_lay 18 = .ok (.iload_n 0, 1) := by decide +kernel
theorem dL_lay_19 : decode cL_lay 19 = .ok (.if_icmp .eq 9, 3) := by decide +kernel
theorem dL_lay_22 : decode cL_lay 22 = .ok (.iinc 5 1, 3) := by decide +kernel
theorem dL_lay_25 : decode cL_lay 25 = .ok (.goto (-22), 3) := by decide +kernel
theorem dL_lay_28 : decode cL_lay 28 = .ok (.aload 4, 2) := by decide +kernel
theorem dL_lay_30 : decode cL_lay 30 = .ok (.iconst 1, 1) := by decide +kernel
theorem dL_lay_31 : decode cL_lay 31 = .ok (.iload 5, 2) := by decide +kernel
theorem dL_lay_33 : decode cL_lay 33 = .ok (.aload 4, 2) := by decide +kernel
theorem dL_lay_35 : decode cL_lay 35 = .ok (.iconst 1, 1) := by decide +kernel
theorem dL_lay_36 : decode cL_lay 36 = .ok (.iaload, 1) := by decide +kernel
theorem dL_lay_37 : decode cL_lay 37 = .ok (.if_icmp .ne 10, 3) := by decide +kernel
theorem dL_lay_40 : decode cL_lay 40 = .ok (.iload 5, 2) := by decide +kernel
theorem dL_lay_42 : decode cL_lay 42 = .ok (.iconst 1, 1) := by decide +kernel
theorem dL_lay_43 : decode cL_lay 43 = .ok (.iadd, 1) := by decide +kernel
theorem dL_lay_44 : decode cL_lay 44 = .ok (.goto 7, 3) := by decide +kernel
theorem dL_lay_47 : decode cL_lay 47 = .ok (.aload 4, 2) := by decide +kernel
theorem dL_lay_49 : decode cL_lay 49 = .ok (.iconst 1, 1) := by decide +kernel
theorem dL_lay_50 : decode cL_lay 50 = .ok (.iaload, 1) := by decide +kernel
theorem dL_lay_51 : decode cL_lay 51 = .ok (.iastore, 1) := by decide +kernel
theorem dL_lay_52 : decode cL_lay 52 = .ok (.aload_n 3, 1) := by decide +kernel
theorem dL_lay_53 : decode cL_lay 53 = .ok (.iconst 3, 1) := by decide +kernel
theorem dL_lay_54 : decode cL_lay 54 = .ok (.iload 5, 2) := by decide +kernel
theorem dL_lay_56 : decode cL_lay 56 = .ok (.imul, 1) := by decide +kernel
theorem dL_lay_57 : decode cL_lay 57 = .ok (.iload_n 0, 1) := by decide +kernel
theorem dL_lay_58 : decode cL_lay 58 = .ok (.iastore, 1) := by decide +kernel
theorem dL_lay_59 : decode cL_lay 59 = .ok (.aload_n 3, 1) := by decide +kernel
theorem dL_lay_60 : decode cL_lay 60 = .ok (.iconst 3, 1) := by decide +kernel
theorem dL_lay_61 : decode cL_lay 61 = .ok (.iload 5, 2) := by decide +kernel
theorem dL_lay_63 : decode cL_lay 63 = .ok (.imul, 1) := by decide +kernel
theorem dL_lay_64 : decode cL_lay 64 = .ok (.iconst 1, 1) := by decide +kernel
theorem dL_lay_65 : decode cL_lay 65 = .ok (.iadd, 1) := by decide +kernel
theorem dL_lay_66 : decode cL_lay 66 = .ok (.iload_n 1, 1) := by decide +kernel
theorem dL_lay_67 : decode cL_lay 67 = .ok (.iastore, 1) := by decide +kernel
theorem dL_lay_68 : decode cL_lay 68 = .ok (.aload_n 3, 1) := by decide +kernel
theorem dL_lay_69 : decode cL_lay 69 = .ok (.iconst 3, 1) := by decide +kernel
theorem dL_lay_70 : decode cL_lay 70 = .ok (.iload 5, 2) := by decide +kernel
theorem dL_lay_72 : decode cL_lay 72 = .ok (.imul, 1) := by decide +kernel
theorem dL_lay_73 : decode cL_lay 73 = .ok (.iconst 2, 1) := by decide +kernel
theorem dL_lay_74 : decode cL_lay 74 = .ok (.iadd, 1) := by decide +kernel
theorem dL_lay_75 : decode cL_lay 75 = .ok (.iload_n 2, 1) := by decide +kernel
theorem dL_lay_76 : decode cL_lay 76 = .ok (.iastore, 1) := by decide +kernel
theorem dL_lay_77 : decode cL_lay 77 = .ok (.return_, 1) := by decide +kernel
theorem dL_act_0 : decode cL_act 0 = .ok (.iload_n 3, 1) := by decide +kernel
theorem dL_act_1 : decode cL_act 1 = .ok (.iload_n 2, 1) := by decide +kernel
theorem dL_act_2 : decode cL_act 2 = .ok (.bipush 11, 2) := by decide +kernel
theorem dL_act_4 : decode cL_act 4 = .ok (.ishr, 1) := by decide +kernel
theorem dL_act_5 : decode cL_act 5 = .ok (.iconst 3, 1) := by decide +kernel
theorem dL_act_6 : decode cL_act 6 = .ok (.invokestatic 36, 3) := by decide +kernel
theorem dL_act_9 : decode cL_act 9 = .ok (.ifCond .ne 9, 3) := by decide +kernel
theorem dL_act_12 : decode cL_act 12 = .ok (.sipush 2001, 3) := by decide +kernel
theorem dL_act_15 : decode cL_act 15 = .ok (.goto 5, 3) := by decide +kernel
theorem dL_act_18 : decode cL_act 18 = .ok (.bipush 121, 2) := by decide +kernel
theorem dL_act_20 : decode cL_act 20 = .ok (.invokestatic 36, 3) := by decide +kernel
theorem dL_act_23 : decode cL_act 23 = .ok (.iload_n 2, 1) := by decide +kernel
theorem dL_act_24 : decode cL_act 24 = .ok (.bipush 11, 2) := by decide +kernel
theorem dL_act_26 : decode cL_act 26 = .ok (.ishr, 1) := by decide +kernel
theorem dL_act_27 : decode cL_act 27 = .ok (.iconst 3, 1) := by decide +kernel
theorem dL_act_28 : decode cL_act 28 = .ok (.invokestatic 36, 3) := by decide +kernel
theorem dL_act_31 : decode cL_act 31 = .ok (.ifCond .ne 9, 3) := by decide +kernel
theorem dL_act_34 : decode cL_act 34 = .ok (.sipush 1000, 3) := by decide +kernel
theorem dL_act_37 : decode cL_act 37 = .ok (.goto 5, 3) := by decide +kernel
theorem dL_act_40 : decode cL_act 40 = .ok (.bipush 60, 2) := by decide +kernel
theorem dL_act_42 : decode cL_act 42 = .ok (.isub, 1) := by decide +kernel
theorem dL_act_43 : decode cL_act 43 = .ok (.istore 12, 2) := by decide +kernel
theorem dL_act_45 : decode cL_act 45 = .ok (.iload_n 1, 1) := by decide +kernel
theorem dL_act_46 : decode cL_act 46 = .ok (.iconst 5, 1) := by decide +kernel
theorem dL_act_47 : decode cL_act 47 = .ok (.if_icmp .lt 16, 3) := by decide +kernel
theorem dL_act_50 : decode cL_act 50 = .ok (.iload_n 1, 1) := by decide +kernel
theorem dL_act_51 : decode cL_act 51 = .ok (.bipush 8, 2) := by decide +kernel
theorem dL_act_53 : decode cL_act 53 = .ok (.if_icmp .ge 207, 3) := by decide +kernel
theorem dL_act_56 : decode cL_act 56 = .ok (.aload 7, 2) := by decide +kernel
theorem dL_act_58 : decode cL_act 58 = .ok (.iconst 0, 1) := by decide +kernel
theorem dL_act_59 : decode cL_act 59 = .ok (.iaload, 1) := by decide +kernel
theorem dL_act_60 : decode cL_act 60 = .ok (.ifCond .ne 200, 3) := by decide +kernel
theorem dL_act_63 : decode cL_act 63 = .ok (.aload 7, 2) := by decide +kernel
theorem dL_act_65 : decode cL_act 65 = .ok (.iconst 0, 1) := by decide +kernel
theorem dL_act_66 : decode cL_act 66 = .ok (.iaload, 1) := by decide +kernel
theorem dL_act_67 : decode cL_act 67 = .ok (.bipush 9, 2) := by decide +kernel
theorem dL_act_69 : decode cL_act 69 = .ok (.if_icmp .ne 5, 3) := by decide +kernel
theorem dL_act_72 : decode cL_act 72 = .ok (.iconst 1, 1) := by decide +kernel
theorem dL_act_73 : decode cL_act 73 = .ok (.ireturn, 1) := by decide +kernel
theorem dL_act_74 : decode cL_act 74 = .ok (.iconst 5, 1) := by decide +kernel
theorem dL_act_75 : decode cL_act 75 = .ok (.aload 7, 2) := by decide +kernel
theorem dL_act_77 : decode cL_act 77 = .ok (.iconst 0, 1) := by decide +kernel
theorem dL_act_78 : decode cL_act 78 = .ok (.iaload, 1) := by decide +kernel
theorem dL_act_79 : decode cL_act 79 = .ok (.imul, 1) := by decide +kernel
theorem dL_act_80 : decode cL_act 80 = .ok (.istore 13, 2) := by decide +kernel
theorem dL_act_82 : decode cL_act 82 = .ok (.aload 5, 2) := by decide +kernel
theorem dL_act_84 : decode cL_act 84 = .ok (.iload 13, 2) := by decide +kernel
theorem dL_act_86 : decode cL_act 86 = .ok (.iload_n 2, 1) := by decide +kernel
theorem dL_act_87 : decode cL_act 87 = .ok (.iconst 5, 1) := by decide +kernel
theorem dL_act_88 : decode cL_act 88 = .ok (.invokestatic 36, 3) := by decide +kernel
theorem dL_act_91 : decode cL_act 91 = .ok (.iastore, 1) := by decide +kernel
theorem dL_act_92 : decode cL_act 92 = .ok (.aload 5, 2) := by decide +kernel
theorem dL_act_94 : decode cL_act 94 = .ok (.iload 13, 2) := by decide +kernel
theorem dL_act_96 : decode cL_act 96 = .ok (.iconst 1, 1) := by decide +kernel
theorem dL_act_97 : decode cL_act 97 = .ok (.iadd, 1) := by decide +kernel
theorem dL_act_98 : decode cL_act 98 = .ok (.iload_n 2, 1) := by decide +kernel
theorem dL_act_99 : decode cL_act 99 = .ok (.iconst 3, 1) := by decide +kernel
theorem dL_act_100 : decode cL_act 100 = .ok (.ishr, 1) := by decide +kernel
theorem dL_act_101 : decode cL_act 101 = .ok (.iconst 3, 1) := by decide +kernel
theorem dL_act_102 : decode cL_act 102 = .ok (.invokestatic 36, 3) := by decide +kernel
theorem dL_act_105 : decode cL_act 105 = .ok (.ifCond .ne 8, 3) := by decide +kernel
theorem dL_act_108 : decode cL_act 108 = .ok (.bipush 10, 2) := by decide +kernel
theorem dL_act_110 : decode cL_act 110 = .ok (.goto 20, 3) := by decide +kernel
theorem dL_act_113 : decode cL_act 113 = .ok (.aload 5, 2) := by decide +kernel
theorem dL_act_115 : decode cL_act 115 = .ok (.iload 13, 2) := by decide +kernel
theorem dL_act_117 : decode cL_act 117 = .ok (.iaload, 1) := by decide +kernel
theorem dL_act_118 : decode cL_act 118 = .ok (.iconst 1, 1) := by decide +kernel
theorem dL_act_119 : decode cL_act 119 = .ok (.iadd, 1) := by decide +kernel
theorem dL_act_120 : decode cL_act 120 = .ok (.iload_n 2, 1) := by decide +kernel
theorem dL_act_121 : decode cL_act 121 = .ok (.iconst 4, 1) := by decide +kernel
theorem dL_act_122 : decode cL_act 122 = .ok (.ishr, 1) := by decide +kernel
theorem dL_act_123 : decode cL_act 123 = .ok (.iconst 4, 1) := by decide +kernel
theorem dL_act_124 : decode cL_act 124 = .ok (.invokestatic 36, 3) := by decide +kernel
theorem dL_act_127 : decode cL_act 127 = .ok (.iadd, 1) := by decide +kernel
theorem dL_act_128 : decode cL_act 128 = .ok (.iconst 5, 1) := by decide +kernel
theorem dL_act_129 : decode cL_act 129 = .ok (.irem, 1) := by decide +kernel
theorem dL_act_130 : decode cL_act 130 = .ok (.iastore, 1) := by decide +kernel
theorem dL_act_131 : decode cL_act 131 = .ok (.aload 5, 2) := by decide +kernel
theorem dL_act_133 : decode cL_act 133 = .ok (.iload 13, 2) := by decide +kernel
theorem dL_act_135 : decode cL_act 135 = .ok (.iconst 2, 1) := by decide +kernel
theorem dL_act_136 : decode cL_act 136 = .ok (.iadd, 1) := by decide +kernel
theorem dL_act_137 : decode cL_act 137 = .ok (.iload_n 2, 1) := by decide +kernel
theorem dL_act_138 : decode cL_act 138 = .ok (.bipush 7, 2) := by decide +kernel
theorem dL_act_140 : decode cL_act 140 = .ok (.ishr, 1) := by decide +kernel
theorem dL_act_141 : decode cL_act 141 = .ok (.iconst 3, 1) := by decide +kernel
theorem dL_act_142 : decode cL_act 142 = .ok (.invokestatic 36, 3) := by decide +kernel
theorem dL_act_145 : decode cL_act 145 = .ok (.iastore, 1) := by decide +kernel
theorem dL_act_146 : decode cL_act 146 = .ok (.aload 5, 2) := by decide +kernel
theorem dL_act_148 : decode cL_act 148 = .ok (.iload 13, 2) := by decide +kernel
theorem dL_act_150 : decode cL_act 150 = .ok (.iconst 3, 1) := by decide +kernel
theorem dL_act_151 : decode cL_act 151 = .ok (.iadd, 1) := by decide +kernel
theorem dL_act_152 : decode cL_act 152 = .ok (.iload 12, 2) := by decide +kernel
theorem dL_act_154 : decode cL_act 154 = .ok (.iastore, 1) := by decide +kernel
theorem dL_act_155 : decode cL_act 155 = .ok (.aload 5, 2) := by decide +kernel
theorem dL_act_157 : decode cL_act 157 = .ok (.iload 13, 2) := by decide +kernel
theorem dL_act_159 : decode cL_act 159 = .ok (.iconst 4, 1) := by decide +kernel
theorem dL_act_160 : decode cL_act 160 = .ok (.iadd, 1) := by decide +kernel
theorem dL_act_161 : decode cL_act 161 = .ok (.iload_n 3, 1) := by decide +kernel
theorem dL_act_162 : decode cL_act 162 = .ok (.bipush 9, 2) := by decide +kernel
theorem dL_act_164 : decode cL_act 164 = .ok (.ishr, 1) := by decide +kernel
theorem dL_act_165 : decode cL_act 165 = .ok (.iconst 4, 1) := by decide +kernel
theorem dL_act_166 : decode cL_act 166 = .ok (.invokestatic 36, 3) := by decide +kernel
theorem dL_act_169 : decode cL_act 169 = .ok (.iastore, 1) := by decide +kernel
theorem dL_act_170 : decode cL_act 170 = .ok (.aload 7, 2) := by decide +kernel
theorem dL_act_172 : decode cL_act 172 = .ok (.iconst 0, 1) := by decide +kernel
theorem dL_act_173 : decode cL_act 173 = .ok (.dup2, 1) := by decide +kernel
theorem dL_act_174 : decode cL_act 174 = .ok (.iaload, 1) := by decide +kernel
theorem dL_act_175 : decode cL_act 175 = .ok (.iconst 1, 1) := by decide +kernel
theorem dL_act_176 : decode cL_act 176 = .ok (.iadd, 1) := by decide +kernel
theorem dL_act_177 : decode cL_act 177 = .ok (.iastore, 1) := by decide +kernel
theorem dL_act_178 : decode cL_act 178 = .ok (.aload 4, 2) := by decide +kernel
theorem dL_act_180 : decode cL_act 180 = .ok (.aload 5, 2) := by decide +kernel
theorem dL_act_182 : decode cL_act 182 = .ok (.aload 6, 2) := by decide +kernel
theorem dL_act_184 : decode cL_act 184 = .ok (.aload 7, 2) := by decide +kernel
theorem dL_act_186 : decode cL_act 186 = .ok (.aload 8, 2) := by decide +kernel
theorem dL_act_188 : decode cL_act 188 = .ok (.aload 9, 2) := by decide +kernel
theorem dL_act_190 : decode cL_act 190 = .ok (.aload 10, 2) := by decide +kernel
theorem dL_act_192 : decode cL_act 192 = .ok (.aload 11, 2) := by decide +kernel
theorem dL_act_194 : decode cL_act 194 = .ok (.invokestatic 65, 3) := by decide +kernel
theorem dL_act_197 : decode cL_act 197 = .ok (.aload_n 0, 1) := by decide +kernel
theorem dL_act_198 : decode cL_act 198 = .ok (.aload 5, 2) := by decide +kernel
theorem dL_act_200 : decode cL_act 200 = .ok (.iload 13, 2) := by decide +kernel
theorem dL_act_202 : decode cL_act 202 = .ok (.iaload, 1) := by decide +kernel
theorem dL_act_203 : decode cL_act 203 = .ok (.aload 5, 2) := by decide +kernel
theorem dL_act_205 : decode cL_act 205 = .ok (.iload 13, 2) := by decide +kernel
theorem dL_act_207 : decode cL_act 207 = .ok (.iconst 1, 1) := by decide +kernel
theorem dL_act_208 : decode cL_act 208 = .ok (.iadd, 1) := by decide +kernel
theorem dL_act_209 : decode cL_act 209 = .ok (.iaload, 1) := by decide +kernel
theorem dL_act_210 : decode cL_act 210 = .ok (.bipush 10, 2) := by decide +kernel
theorem dL_act_212 : decode cL_act 212 = .ok (.if_icmp .ne 7, 3) := by decide +kernel
theorem dL_act_215 : decode cL_act 215 = .ok (.iconst (-1), 1) := by decide +kernel
theorem dL_act_216 : decode cL_act 216 = .ok (.goto 10, 3) := by decide +kernel
theorem dL_act_219 : decode cL_act 219 = .ok (.aload 5, 2) := by decide +kernel
theorem dL_act_221 : decode cL_act 221 = .ok (.iload 13, 2) := by decide +kernel
theorem dL_act_223 : decode cL_act 223 = .ok (.iconst 1, 1) := by decide +kernel
theorem dL_act_224 : decode cL_act 224 = .ok (.iadd, 1) := by decide +kernel
theorem dL_act_225 : decode cL_act 225 = .ok (.iaload, 1) := by decide +kernel
theorem dL_act_226 : decode cL_act 226 = .ok (.aload 5, 2) := by decide +kernel
theorem dL_act_228 : decode cL_act 228 = .ok (.iload 13, 2) := by decide +kernel
theorem dL_act_230 : decode cL_act 230 = .ok (.iconst 2, 1) := by decide +kernel
theorem dL_act_231 : decode cL_act 231 = .ok (.iadd, 1) := by decide +kernel
theorem dL_act_232 : decode cL_act 232 = .ok (.iaload, 1) := by decide +kernel
theorem dL_act_233 : decode cL_act 233 = .ok (.iload 12, 2) := by decide +kernel
theorem dL_act_235 : decode cL_act 235 = .ok (.aload 5, 2) := by decide +kernel
theorem dL_act_237 : decode cL_act 237 = .ok (.iload 13, 2) := by decide +kernel
theorem dL_act_239 : decode cL_act 239 = .ok (.iconst 4, 1) := by decide +kernel
theorem dL_act_240 : decode cL_act 240 = .ok (.iadd, 1) := by decide +kernel
theorem dL_act_241 : decode cL_act 241 = .ok (.iaload, 1) := by decide +kernel
theorem dL_act_242 : decode cL_act 242 = .ok (.invokevirtual 79, 3) := by decide +kernel
theorem dL_act_245 : decode cL_act 245 = .ok (.aload 7, 2) := by decide +kernel
theorem dL_act_247 : decode cL_act 247 = .ok (.iconst 0, 1) := by decide +kernel
theorem dL_act_248 : decode cL_act 248 = .ok (.iaload, 1) := by decide +kernel
theorem dL_act_249 : decode cL_act 249 = .ok (.iconst 1, 1) := by decide +kernel
theorem dL_act_250 : decode cL_act 250 = .ok (.isub, 1) := by decide +kernel
theorem dL_act_251 : decode cL_act 251 = .ok (.if_icmp .ne 7, 3) := by decide +kernel
theorem dL_act_254 : decode cL_act 254 = .ok (.iconst 1, 1) := by decide +kernel
theorem dL_act_255 : decode cL_act 255 = .ok (.goto 4, 3) := by decide +kernel
theorem dL_act_258 : decode cL_act 258 = .ok (.iconst 0, 1) := by decide +kernel
theorem dL_act_259 : decode cL_act 259 = .ok (.ireturn, 1) := by decide +kernel
theorem dL_act_260 : decode cL_act 260 = .ok (.iload_n 1, 1) := by decide +kernel
theorem dL_act_261 : decode cL_act 261 = .ok (.bipush 8, 2) := by decide +kernel
theorem dL_act_263 : decode cL_act 263 = .ok (.if_icmp .ge 254, 3) := by decide +kernel
theorem dL_act_266 : decode cL_act 266 = .ok (.iload_n 2, 1) := by decide +kernel
theorem dL_act_267 : decode cL_act 267 = .ok (.aload 7, 2) := by decide +kernel
theorem dL_act_269 : decode cL_act 269 = .ok (.iconst 0, 1) := by decide +kernel
theorem dL_act_270 : decode cL_act 270 = .ok (.iaload, 1) := by decide +kernel
theorem dL_act_271 : decode cL_act 271 = .ok (.invokestatic 36, 3) := by decide +kernel
theorem dL_act_274 : decode cL_act 274 = .ok (.istore 13, 2) := by decide +kernel
theorem dL_act_276 : decode cL_act 276 = .ok (.bipush 27, 2) := by decide +kernel
theorem dL_act_278 : decode cL_act 278 = .ok (.newarray .int, 2) := by decide +kernel
theorem dL_act_280 : decode cL_act 280 = .ok (.astore 14, 2) := by decide +kernel
theorem dL_act_282 : decode cL_act 282 = .ok (.bipush 8, 2) := by decide +kernel
theorem dL_act_284 : decode cL_act 284 = .ok (.newarray .int, 2) := by decide +kernel
theorem dL_act_286 : decode cL_act 286 = .ok (.astore 15, 2) := by decide +kernel
theorem dL_act_288 : decode cL_act 288 = .ok (.iload_n 1, 1) := by decide +kernel
theorem dL_act_289 : decode cL_act 289 = .ok (.iconst 5, 1) := by decide +kernel
theorem dL_act_290 : decode cL_act 290 = .ok (.if_icmp .ne 113, 3) := by decide +kernel
theorem dL_act_293 : decode cL_act 293 = .ok (.iconst (-1), 1) := by decide +kernel
theorem dL_act_294 : decode cL_act 294 = .ok (.aload 5, 2) := by decide +kernel
theorem dL_act_296 : decode cL_act 296 = .ok (.aload 6, 2) := by decide +kernel
theorem dL_act_298 : decode cL_act 298 = .ok (.aload 7, 2) := by decide +kernel
theorem dL_act_300 : decode cL_act 300 = .ok (.aload 14, 2) := by decide +kernel
theorem dL_act_302 : decode cL_act 302 = .ok (.aload 15, 2) := by decide +kernel
theorem dL_act_304 : decode cL_act 304 = .ok (.aload 8, 2) := by decide +kernel
theorem dL_act_306 : decode cL_act 306 = .ok (.aload 9, 2) := by decide +kernel
theorem dL_act_308 : decode cL_act 308 = .ok (.aload 10, 2) := by decide +kernel
theorem dL_act_310 : decode cL_act 310 = .ok (.aload 11, 2) := by decide +kernel
theorem dL_act_312 : decode cL_act 312 = .ok (.invokestatic 22, 3) := by decide +kernel
theorem dL_act_315 : decode cL_act 315 = .ok (.aload 14, 2) := by decide +kernel
theorem dL_act_317 : decode cL_act 317 = .ok (.iconst 3, 1) := by decide +kernel
theorem dL_act_318 : decode cL_act 318 = .ok (.iload 13, 2) := by decide +kernel
theorem dL_act_320 : decode cL_act 320 = .ok (.imul, 1) := by decide +kernel
theorem dL_act_321 : decode cL_act 321 = .ok (.iaload, 1) := by decide +kernel
theorem dL_act_322 : decode cL_act 322 = .ok (.istore 16, 2) := by decide +kernel
theorem dL_act_324 : decode cL_act 324 = .ok (.aload 7, 2) := by decide +kernel
theorem dL_act_326 : decode cL_act 326 = .ok (.iconst 0, 1) := by decide +kernel
theorem dL_act_327 : decode cL_act 327 = .ok (.dup2, 1) := by decide +kernel
theorem dL_act_328 : decode cL_act 328 = .ok (.iaload, 1) := by decide +kernel
theorem dL_act_329 : decode cL_act 329 = .ok (.iconst 1, 1) := by decide +kernel
theorem dL_act_330 : decode cL_act 330 = .ok (.isub, 1) := by decide +kernel
theorem dL_act_331 : decode cL_act 331 = .ok (.iastore, 1) := by decide +kernel
theorem dL_act_332 : decode cL_act 332 = .ok (.iconst 5, 1) := by decide +kernel
theorem dL_act_333 : decode cL_act 333 = .ok (.iload 13, 2) := by decide +kernel
theorem dL_act_335 : decode cL_act 335 = .ok (.imul, 1) := by decide +kernel
theorem dL_act_336 : decode cL_act 336 = .ok (.istore 17, 2) := by decide +kernel
theorem dL_act_338 : decode cL_act 338 = .ok (.iload 17, 2) := by decide +kernel
theorem dL_act_340 : decode cL_act 340 = .ok (.iconst 5, 1) := by decide +kernel
theorem dL_act_341 : decode cL_act 341 = .ok (.aload 7, 2) := by decide +kernel
theorem dL_act_343 : decode cL_act 343 = .ok (.iconst 0, 1) := by decide +kernel
theorem dL_act_344 : decode cL_act 344 = .ok (.iaload, 1) := by decide +kernel
theorem dL_act_345 : decode cL_act 345 = .ok (.imul, 1) := by decide +kernel
theorem dL_act_346 : decode cL_act 346 = .ok (.if_icmp .ge 21, 3) := by decide +kernel
theorem dL_act_349 : decode cL_act 349 = .ok (.aload 5, 2) := by decide +kernel
theorem dL_act_351 : decode cL_act 351 = .ok (.iload 17, 2) := by decide +kernel
theorem dL_act_353 : decode cL_act 353 = .ok (.aload 5, 2) := by decide +kernel
theorem dL_act_355 : decode cL_act 355 = .ok (.iload 17, 2) := by decide +kernel
theorem dL_act_357 : decode cL_act 357 = .ok (.iconst 5, 1) := by decide +kernel
theorem dL_act_358 : decode cL_act 358 = .ok (.iadd, 1) := by decide +kernel
theorem dL_act_359 : decode cL_act 359 = .ok (.iaload, 1) := by decide +kernel
theorem dL_act_360 : decode cL_act 360 = .ok (.iastore, 1) := by decide +kernel
theorem dL_act_361 : decode cL_act 361 = .ok (.iinc 17 1, 3) := by decide +kernel
theorem dL_act_364 : decode cL_act 364 = .ok (.goto (-26), 3) := by decide +kernel
theorem dL_act_367 : decode cL_act 367 = .ok (.aload 4, 2) := by decide +kernel
theorem dL_act_369 : decode cL_act 369 = .ok (.aload 5, 2) := by decide +kernel
theorem dL_act_371 : decode cL_act 371 = .ok (.aload 6, 2) := by decide +kernel
theorem dL_act_373 : decode cL_act 373 = .ok (.aload 7, 2) := by decide +kernel
theorem dL_act_375 : decode cL_act 375 = .ok (.aload 8, 2) := by decide +kernel
theorem dL_act_377 : decode cL_act 377 = .ok (.aload 9, 2) := by decide +kernel
theorem dL_act_379 : decode cL_act 379 = .ok (.aload 10, 2) := by decide +kernel
theorem dL_act_381 : decode cL_act 381 = .ok (.aload 11, 2) := by decide +kernel
theorem dL_act_383 : decode cL_act 383 = .ok (.invokestatic 65, 3) := by decide +kernel
theorem dL_act_386 : decode cL_act 386 = .ok (.aload_n 0, 1) := by decide +kernel
theorem dL_act_387 : decode cL_act 387 = .ok (.iload 13, 2) := by decide +kernel
theorem dL_act_389 : decode cL_act 389 = .ok (.invokevirtual 83, 3) := by decide +kernel
theorem dL_act_392 : decode cL_act 392 = .ok (.iload 16, 2) := by decide +kernel
theorem dL_act_394 : decode cL_act 394 = .ok (.if_icmp .ne 7, 3) := by decide +kernel
theorem dL_act_397 : decode cL_act 397 = .ok (.iconst 1, 1) := by decide +kernel
theorem dL_act_398 : decode cL_act 398 = .ok (.goto 4, 3) := by decide +kernel
theorem dL_act_401 : decode cL_act 401 = .ok (.iconst 0, 1) := by decide +kernel
theorem dL_act_402 : decode cL_act 402 = .ok (.ireturn, 1) := by decide +kernel
theorem dL_act_403 : decode cL_act 403 = .ok (.iload_n 1, 1) := by decide +kernel
theorem dL_act_404 : decode cL_act 404 = .ok (.bipush 6, 2) := by decide +kernel
theorem dL_act_406 : decode cL_act 406 = .ok (.if_icmp .ne 7, 3) := by decide +kernel
theorem dL_act_409 : decode cL_act 409 = .ok (.iconst 3, 1) := by decide +kernel
theorem dL_act_410 : decode cL_act 410 = .ok (.goto 4, 3) := by decide +kernel
theorem dL_act_413 : decode cL_act 413 = .ok (.iconst 4, 1) := by decide +kernel
theorem dL_act_414 : decode cL_act 414 = .ok (.istore 17, 2) := by decide +kernel
theorem dL_act_416 : decode cL_act 416 = .ok (.aload 5, 2) := by decide +kernel
theorem dL_act_418 : decode cL_act 418 = .ok (.iconst 5, 1) := by decide +kernel
theorem dL_act_419 : decode cL_act 419 = .ok (.iload 13, 2) := by decide +kernel
theorem dL_act_421 : decode cL_act 421 = .ok (.imul, 1) := by decide +kernel
theorem dL_act_422 : decode cL_act 422 = .ok (.iload 17, 2) := by decide +kernel
theorem dL_act_424 : decode cL_act 424 = .ok (.iadd, 1) := by decide +kernel
theorem dL_act_425 : decode cL_act 425 = .ok (.iaload, 1) := by decide +kernel
theorem dL_act_426 : decode cL_act 426 = .ok (.istore 16, 2) := by decide +kernel
theorem dL_act_428 : decode cL_act 428 = .ok (.aload 5, 2) := by decide +kernel
theorem dL_act_430 : decode cL_act 430 = .ok (.iconst 5, 1) := by decide +kernel
theorem dL_act_431 : decode cL_act 431 = .ok (.iload 13, 2) := by decide +kernel
theorem dL_act_433 : decode cL_act 433 = .ok (.imul, 1) := by decide +kernel
theorem dL_act_434 : decode cL_act 434 = .ok (.iload 17, 2) := by decide +kernel
theorem dL_act_436 : decode cL_act 436 = .ok (.iadd, 1) := by decide +kernel
theorem dL_act_437 : decode cL_act 437 = .ok (.iload_n 1, 1) := by decide +kernel
theorem dL_act_438 : decode cL_act 438 = .ok (.bipush 6, 2) := by decide +kernel
theorem dL_act_440 : decode cL_act 440 = .ok (.if_icmp .ne 8, 3) := by decide +kernel
theorem dL_act_443 : decode cL_act 443 = .ok (.iload 12, 2) := by decide +kernel
theorem dL_act_445 : decode cL_act 445 = .ok (.goto 8, 3) := by decide +kernel
theorem dL_act_448 : decode cL_act 448 = .ok (.iload_n 3, 1) := by decide +kernel
theorem dL_act_449 : decode cL_act 449 = .ok (.iconst 4, 1) := by decide +kernel
theorem dL_act_450 : decode cL_act 450 = .ok (.invokestatic 36, 3) := by decide +kernel
theorem dL_act_453 : decode cL_act 453 = .ok (.iastore, 1) := by decide +kernel
theorem dL_act_454 : decode cL_act 454 = .ok (.aload 4, 2) := by decide +kernel
theorem dL_act_456 : decode cL_act 456 = .ok (.aload 5, 2) := by decide +kernel
theorem dL_act_458 : decode cL_act 458 = .ok (.aload 6, 2) := by decide +kernel
theorem dL_act_460 : decode cL_act 460 = .ok (.aload 7, 2) := by decide +kernel
theorem dL_act_462 : decode cL_act 462 = .ok (.aload 8, 2) := by decide +kernel
theorem dL_act_464 : decode cL_act 464 = .ok (.aload 9, 2) := by decide +kernel
theorem dL_act_466 : decode cL_act 466 = .ok (.aload 10, 2) := by decide +kernel
theorem dL_act_468 : decode cL_act 468 = .ok (.aload 11, 2) := by decide +kernel
theorem dL_act_470 : decode cL_act 470 = .ok (.invokestatic 65, 3) := by decide +kernel
theorem dL_act_473 : decode cL_act 473 = .ok (.iload_n 1, 1) := by decide +kernel
theorem dL_act_474 : decode cL_act 474 = .ok (.bipush 6, 2) := by decide +kernel
theorem dL_act_476 : decode cL_act 476 = .ok (.if_icmp .ne 14, 3) := by decide +kernel
theorem dL_act_479 : decode cL_act 479 = .ok (.aload_n 0, 1) := by decide +kernel
theorem dL_act_480 : decode cL_act 480 = .ok (.iload 13, 2) := by decide +kernel
theorem dL_act_482 : decode cL_act 482 = .ok (.iload 12, 2) := by decide +kernel
theorem dL_act_484 : decode cL_act 484 = .ok (.invokevirtual 86, 3) := by decide +kernel
theorem dL_act_487 : decode cL_act 487 = .ok (.goto 19, 3) := by decide +kernel
theorem dL_act_490 : decode cL_act 490 = .ok (.aload_n 0, 1) := by decide +kernel
theorem dL_act_491 : decode cL_act 491 = .ok (.iload 13, 2) := by decide +kernel
theorem dL_act_493 : decode cL_act 493 = .ok (.aload 5, 2) := by decide +kernel
theorem dL_act_495 : decode cL_act 495 = .ok (.iconst 5, 1) := by decide +kernel
theorem dL_act_496 : decode cL_act 496 = .ok (.iload 13, 2) := by decide +kernel
theorem dL_act_498 : decode cL_act 498 = .ok (.imul, 1) := by decide +kernel
theorem dL_act_499 : decode cL_act 499 = .ok (.iload 17, 2) := by decide +kernel
theorem dL_act_501 : decode cL_act 501 = .ok (.iadd, 1) := by decide +kernel
theorem dL_act_502 : decode cL_act 502 = .ok (.iaload, 1) := by decide +kernel
theorem dL_act_503 : decode cL_act 503 = .ok (.invokevirtual 89, 3) := by decide +kernel
theorem dL_act_506 : decode cL_act 506 = .ok (.iload 16, 2) := by decide +kernel
theorem dL_act_508 : decode cL_act 508 = .ok (.if_icmp .ne 7, 3) := by decide +kernel
theorem dL_act_511 : decode cL_act 511 = .ok (.iconst 1, 1) := by decide +kernel
theorem dL_act_512 : decode cL_act 512 = .ok (.goto 4, 3) := by decide +kernel
theorem dL_act_515 : decode cL_act 515 = .ok (.iconst 0, 1) := by decide +kernel
theorem dL_act_516 : decode cL_act 516 = .ok (.ireturn, 1) := by decide +kernel
theorem dL_act_517 : decode cL_act 517 = .ok (.iload_n 1, 1) := by decide +kernel
theorem dL_act_518 : decode cL_act 518 = .ok (.bipush 11, 2) := by decide +kernel
theorem dL_act_520 : decode cL_act 520 = .ok (.if_icmp .ge 152, 3) := by decide +kernel
theorem dL_act_523 : decode cL_act 523 = .ok (.iload_n 2, 1) := by decide +kernel
theorem dL_act_524 : decode cL_act 524 = .ok (.iconst 5, 1) := by decide +kernel
theorem dL_act_525 : decode cL_act 525 = .ok (.invokestatic 36, 3) := by decide +kernel
theorem dL_act_528 : decode cL_act 528 = .ok (.istore 13, 2) := by decide +kernel
theorem dL_act_530 : decode cL_act 530 = .ok (.aload 7, 2) := by decide +kernel
theorem dL_act_532 : decode cL_act 532 = .ok (.iconst 1, 1) := by decide +kernel
theorem dL_act_533 : decode cL_act 533 = .ok (.iaload, 1) := by decide +kernel
theorem dL_act_534 : decode cL_act 534 = .ok (.iconst 3, 1) := by decide +kernel
theorem dL_act_535 : decode cL_act 535 = .ok (.if_icmp .ge 7, 3) := by decide +kernel
theorem dL_act_538 : decode cL_act 538 = .ok (.iconst 1, 1) := by decide +kernel
theorem dL_act_539 : decode cL_act 539 = .ok (.goto 4, 3) := by decide +kernel
theorem dL_act_542 : decode cL_act 542 = .ok (.iconst 0, 1) := by decide +kernel
theorem dL_act_543 : decode cL_act 543 = .ok (.istore 14, 2) := by decide +kernel
theorem dL_act_545 : decode cL_act 545 = .ok (.iconst 0, 1) := by decide +kernel
theorem dL_act_546 : decode cL_act 546 = .ok (.istore 15, 2) := by decide +kernel
theorem dL_act_548 : decode cL_act 548 = .ok (.iload 15, 2) := by decide +kernel
theorem dL_act_550 : decode cL_act 550 = .ok (.aload 7, 2) := by decide +kernel
theorem dL_act_552 : decode cL_act 552 = .ok (.iconst 1, 1) := by decide +kernel
theorem dL_act_553 : decode cL_act 553 = .ok (.iaload, 1) := by decide +kernel
theorem dL_act_554 : decode cL_act 554 = .ok (.if_icmp .ge 33, 3) := by decide +kernel
theorem dL_act_557 : decode cL_act 557 = .ok (.iload 14, 2) := by decide +kernel
theorem dL_act_559 : decode cL_act 559 = .ok (.ifCond .ne 15, 3) := by decide +kernel
theorem dL_act_562 : decode cL_act 562 = .ok (.aload 6, 2) := by decide +kernel
theorem dL_act_564 : decode cL_act 564 = .ok (.iconst 3, 1) := by decide +kernel
theorem dL_act_565 : decode cL_act 565 = .ok (.iload 15, 2) := by decide +kernel
theorem dL_act_567 : decode cL_act 567 = .ok (.imul, 1) := by decide +kernel
theorem dL_act_568 : decode cL_act 568 = .ok (.iaload, 1) := by decide +kernel
theorem dL_act_569 : decode cL_act 569 = .ok (.iload 13, 2) := by decide +kernel
theorem dL_act_571 : decode cL_act 571 = .ok (.if_icmp .ne 7, 3) := by decide +kernel
theorem dL_act_574 : decode cL_act 574 = .ok (.iconst 1, 1) := by decide +kernel
theorem dL_act_575 : decode cL_act 575 = .ok (.goto 4, 3) := by decide +kernel
theorem dL_act_578 : decode cL_act 578 = .ok (.iconst 0, 1) := by decide +kernel
theorem dL_act_579 : decode cL_act 579 = .ok (.istore 14, 2) := by decide +kernel
theorem dL_act_581 : decode cL_act 581 = .ok (.iinc 15 1, 3) := by decide +kernel
theorem dL_act_584 : decode cL_act 584 = .ok (.goto (-36), 3) := by decide +kernel
theorem dL_act_587 : decode cL_act 587 = .ok (.iload 14, 2) := by decide +kernel
theorem dL_act_589 : decode cL_act 589 = .ok (.ifCond .ne 5, 3) := by decide +kernel
theorem dL_act_592 : decode cL_act 592 = .ok (.iconst 1, 1) := by decide +kernel
theorem dL_act_593 : decode cL_act 593 = .ok (.ireturn, 1) := by decide +kernel
theorem dL_act_594 : decode cL_act 594 = .ok (.iload_n 3, 1) := by decide +kernel
theorem dL_act_595 : decode cL_act 595 = .ok (.sipush 201, 3) := by decide +kernel
theorem dL_act_598 : decode cL_act 598 = .ok (.invokestatic 36, 3) := by decide +kernel
theorem dL_act_601 : decode cL_act 601 = .ok (.bipush 100, 2) := by decide +kernel
theorem dL_act_603 : decode cL_act 603 = .ok (.isub, 1) := by decide +kernel
theorem dL_act_604 : decode cL_act 604 = .ok (.istore 15, 2) := by decide +kernel
theorem dL_act_606 : decode cL_act 606 = .ok (.iload 13, 2) := by decide +kernel
theorem dL_act_608 : decode cL_act 608 = .ok (.iload 15, 2) := by decide +kernel
theorem dL_act_610 : decode cL_act 610 = .ok (.iload_n 2, 1) := by decide +kernel
theorem dL_act_611 : decode cL_act 611 = .ok (.iconst 3, 1) := by decide +kernel
theorem dL_act_612 : decode cL_act 612 = .ok (.ishr, 1) := by decide +kernel
theorem dL_act_613 : decode cL_act 613 = .ok (.iconst 4, 1) := by decide +kernel
theorem dL_act_614 : decode cL_act 614 = .ok (.invokestatic 36, 3) := by decide +kernel
theorem dL_act_617 : decode cL_act 617 = .ok (.aload 6, 2) := by decide +kernel
theorem dL_act_619 : decode cL_act 619 = .ok (.aload 7, 2) := by decide +kernel
theorem dL_act_621 : decode cL_act 621 = .ok (.invokestatic 61, 3) := by decide +kernel
theorem dL_act_624 : decode cL_act 624 = .ok (.aload 4, 2) := by decide +kernel
theorem dL_act_626 : decode cL_act 626 = .ok (.aload 5, 2) := by decide +kernel
theorem dL_act_628 : decode cL_act 628 = .ok (.aload 6, 2) := by decide +kernel
theorem dL_act_630 : decode cL_act 630 = .ok (.aload 7, 2) := by decide +kernel
theorem dL_act_632 : decode cL_act 632 = .ok (.aload 8, 2) := by decide +kernel
theorem dL_act_634 : decode cL_act 634 = .ok (.aload 9, 2) := by decide +kernel
theorem dL_act_636 : decode cL_act 636 = .ok (.aload 10, 2) := by decide +kernel
theorem dL_act_638 : decode cL_act 638 = .ok (.aload 11, 2) := by decide +kernel
theorem dL_act_640 : decode cL_act 640 = .ok (.invokestatic 65, 3) := by decide +kernel
theorem dL_act_643 : decode cL_act 643 = .ok (.aload_n 0, 1) := by decide +kernel
theorem dL_act_644 : decode cL_act 644 = .ok (.iload 13, 2) := by decide +kernel
theorem dL_act_646 : decode cL_act 646 = .ok (.iload 15, 2) := by decide +kernel
theorem dL_act_648 : decode cL_act 648 = .ok (.iload_n 2, 1) := by decide +kernel
theorem dL_act_649 : decode cL_act 649 = .ok (.iconst 3, 1) := by decide +kernel
theorem dL_act_650 : decode cL_act 650 = .ok (.ishr, 1) := by decide +kernel
theorem dL_act_651 : decode cL_act 651 = .ok (.iconst 4, 1) := by decide +kernel
theorem dL_act_652 : decode cL_act 652 = .ok (.invokestatic 36, 3) := by decide +kernel
theorem dL_act_655 : decode cL_act 655 = .ok (.invokevirtual 92, 3) := by decide +kernel
theorem dL_act_658 : decode cL_act 658 = .ok (.aload 4, 2) := by decide +kernel
theorem dL_act_660 : decode cL_act 660 = .ok (.iload 13, 2) := by decide +kernel
theorem dL_act_662 : decode cL_act 662 = .ok (.iaload, 1) := by decide +kernel
theorem dL_act_663 : decode cL_act 663 = .ok (.if_icmp .ne 7, 3) := by decide +kernel
theorem dL_act_666 : decode cL_act 666 = .ok (.iconst 1, 1) := by decide +kernel
theorem dL_act_667 : decode cL_act 667 = .ok (.goto 4, 3) := by decide +kernel
theorem dL_act_670 : decode cL_act 670 = .ok (.iconst 0, 1) := by decide +kernel
theorem dL_act_671 : decode cL_act 671 = .ok (.ireturn, 1) := by decide +kernel
theorem dL_act_672 : decode cL_act 672 = .ok (.iload_n 1, 1) := by decide +kernel
theorem dL_act_673 : decode cL_act 673 = .ok (.bipush 11, 2) := by decide +kernel
theorem dL_act_675 : decode cL_act 675 = .ok (.if_icmp .ne 29, 3) := by decide +kernel
theorem dL_act_678 : decode cL_act 678 = .ok (.aload 7, 2) := by decide +kernel
theorem dL_act_680 : decode cL_act 680 = .ok (.iconst 1, 1) := by decide +kernel
theorem dL_act_681 : decode cL_act 681 = .ok (.iaload, 1) := by decide +kernel
theorem dL_act_682 : decode cL_act 682 = .ok (.istore 13, 2) := by decide +kernel
theorem dL_act_684 : decode cL_act 684 = .ok (.aload 7, 2) := by decide +kernel
theorem dL_act_686 : decode cL_act 686 = .ok (.iconst 1, 1) := by decide +kernel
theorem dL_act_687 : decode cL_act 687 = .ok (.iconst 0, 1) := by decide +kernel
theorem dL_act_688 : decode cL_act 688 = .ok (.iastore, 1) := by decide +kernel
theorem dL_act_689 : decode cL_act 689 = .ok (.aload_n 0, 1) := by decide +kernel
theorem dL_act_690 : decode cL_act 690 = .ok (.invokevirtual 96, 3) := by decide +kernel
theorem dL_act_693 : decode cL_act 693 = .ok (.iload 13, 2) := by decide +kernel
theorem dL_act_695 : decode cL_act 695 = .ok (.if_icmp .ne 7, 3) := by decide +kernel
theorem dL_act_698 : decode cL_act 698 = .ok (.iconst 1, 1) := by decide +kernel
theorem dL_act_699 : decode cL_act 699 = .ok (.goto 4, 3) := by decide +kernel
theorem dL_act_702 : decode cL_act 702 = .ok (.iconst 0, 1) := by decide +kernel
theorem dL_act_703 : decode cL_act 703 = .ok (.ireturn, 1) := by decide +kernel
theorem dL_act_704 : decode cL_act 704 = .ok (.iload_n 1, 1) := by decide +kernel
theorem dL_act_705 : decode cL_act 705 = .ok (.bipush 12, 2) := by decide +kernel
theorem dL_act_707 : decode cL_act 707 = .ok (.if_icmp .ne 79, 3) := by decide +kernel
theorem dL_act_710 : decode cL_act 710 = .ok (.iload_n 2, 1) := by decide +kernel
theorem dL_act_711 : decode cL_act 711 = .ok (.bipush 10, 2) := by decide +kernel
theorem dL_act_713 : decode cL_act 713 = .ok (.invokestatic 36, 3) := by decide +kernel
theorem dL_act_716 : decode cL_act 716 = .ok (.istore 13, 2) := by decide +kernel
theorem dL_act_718 : decode cL_act 718 = .ok (.aload 4, 2) := by decide +kernel
theorem dL_act_720 : decode cL_act 720 = .ok (.bipush 10, 2) := by decide +kernel
theorem dL_act_722 : decode cL_act 722 = .ok (.iload 13, 2) := by decide +kernel
theorem dL_act_724 : decode cL_act 724 = .ok (.iadd, 1) := by decide +kernel
theorem dL_act_725 : decode cL_act 725 = .ok (.iaload, 1) := by decide +kernel
theorem dL_act_726 : decode cL_act 726 = .ok (.istore 14, 2) := by decide +kernel
theorem dL_act_728 : decode cL_act 728 = .ok (.aload 4, 2) := by decide +kernel
theorem dL_act_730 : decode cL_act 730 = .ok (.bipush 10, 2) := by decide +kernel
theorem dL_act_732 : decode cL_act 732 = .ok (.iload 13, 2) := by decide +kernel
theorem dL_act_734 : decode cL_act 734 = .ok (.iadd, 1) := by decide +kernel
theorem dL_act_735 : decode cL_act 735 = .ok (.iload_n 3, 1) := by decide +kernel
theorem dL_act_736 : decode cL_act 736 = .ok (.bipush 10, 2) := by decide +kernel
theorem dL_act_738 : decode cL_act 738 = .ok (.invokestatic 36, 3) := by decide +kernel
theorem dL_act_741 : decode cL_act 741 = .ok (.iastore, 1) := by decide +kernel
theorem dL_act_742 : decode cL_act 742 = .ok (.aload 4, 2) := by decide +kernel
theorem dL_act_744 : decode cL_act 744 = .ok (.aload 5, 2) := by decide +kernel
theorem dL_act_746 : decode cL_act 746 = .ok (.aload 6, 2) := by decide +kernel
theorem dL_act_748 : decode cL_act 748 = .ok (.aload 7, 2) := by decide +kernel
theorem dL_act_750 : decode cL_act 750 = .ok (.aload 8, 2) := by decide +kernel
theorem dL_act_752 : decode cL_act 752 = .ok (.aload 9, 2) := by decide +kernel
theorem dL_act_754 : decode cL_act 754 = .ok (.aload 10, 2) := by decide +kernel
theorem dL_act_756 : decode cL_act 756 = .ok (.aload 11, 2) := by decide +kernel
theorem dL_act_758 : decode cL_act 758 = .ok (.invokestatic 65, 3) := by decide +kernel
theorem dL_act_761 : decode cL_act 761 = .ok (.aload_n 0, 1) := by decide +kernel
theorem dL_act_762 : decode cL_act 762 = .ok (.iload 13, 2) := by decide +kernel
theorem dL_act_764 : decode cL_act 764 = .ok (.aload 4, 2) := by decide +kernel
theorem dL_act_766 : decode cL_act 766 = .ok (.bipush 10, 2) := by decide +kernel
theorem dL_act_768 : decode cL_act 768 = .ok (.iload 13, 2) := by decide +kernel
theorem dL_act_770 : decode cL_act 770 = .ok (.iadd, 1) := by decide +kernel
theorem dL_act_771 : decode cL_act 771 = .ok (.iaload, 1) := by decide +kernel
theorem dL_act_772 : decode cL_act 772 = .ok (.invokevirtual 100, 3) := by decide +kernel
theorem dL_act_775 : decode cL_act 775 = .ok (.iload 14, 2) := by decide +kernel
theorem dL_act_777 : decode cL_act 777 = .ok (.if_icmp .ne 7, 3) := by decide +kernel
theorem dL_act_780 : decode cL_act 780 = .ok (.iconst 1, 1) := by decide +kernel
theorem dL_act_781 : decode cL_act 781 = .ok (.goto 4, 3) := by decide +kernel
theorem dL_act_784 : decode cL_act 784 = .ok (.iconst 0, 1) := by decide +kernel
theorem dL_act_785 : decode cL_act 785 = .ok (.ireturn, 1) := by decide +kernel
theorem dL_act_786 : decode cL_act 786 = .ok (.iload_n 3, 1) := by decide +kernel
theorem dL_act_787 : decode cL_act 787 = .ok (.sipush 201, 3) := by decide +kernel
theorem dL_act_790 : decode cL_act 790 = .ok (.invokestatic 36, 3) := by decide +kernel
theorem dL_act_793 : decode cL_act 793 = .ok (.bipush 100, 2) := by decide +kernel
theorem dL_act_795 : decode cL_act 795 = .ok (.isub, 1) := by decide +kernel
theorem dL_act_796 : decode cL_act 796 = .ok (.istore 13, 2) := by decide +kernel
theorem dL_act_798 : decode cL_act 798 = .ok (.iconst 0, 1) := by decide +kernel
theorem dL_act_799 : decode cL_act 799 = .ok (.istore 14, 2) := by decide +kernel
theorem dL_act_801 : decode cL_act 801 = .ok (.iconst 0, 1) := by decide +kernel
theorem dL_act_802 : decode cL_act 802 = .ok (.istore 15, 2) := by decide +kernel
theorem dL_act_804 : decode cL_act 804 = .ok (.iload 15, 2) := by decide +kernel
theorem dL_act_806 : decode cL_act 806 = .ok (.bipush 10, 2) := by decide +kernel
theorem dL_act_808 : decode cL_act 808 = .ok (.if_icmp .ge 16, 3) := by decide +kernel
theorem dL_act_811 : decode cL_act 811 = .ok (.aload 4, 2) := by decide +kernel
theorem dL_act_813 : decode cL_act 813 = .ok (.iload 15, 2) := by decide +kernel
theorem dL_act_815 : decode cL_act 815 = .ok (.iload 13, 2) := by decide +kernel
theorem dL_act_817 : decode cL_act 817 = .ok (.iastore, 1) := by decide +kernel
theorem dL_act_818 : decode cL_act 818 = .ok (.iinc 15 1, 3) := by decide +kernel
theorem dL_act_821 : decode cL_act 821 = .ok (.goto (-17), 3) := by decide +kernel
theorem dL_act_824 : decode cL_act 824 = .ok (.aload 4, 2) := by decide +kernel
theorem dL_act_826 : decode cL_act 826 = .ok (.aload 5, 2) := by decide +kernel
theorem dL_act_828 : decode cL_act 828 = .ok (.aload 6, 2) := by decide +kernel
theorem dL_act_830 : decode cL_act 830 = .ok (.aload 7, 2) := by decide +kernel
theorem dL_act_832 : decode cL_act 832 = .ok (.aload 8, 2) := by decide +kernel
theorem dL_act_834 : decode cL_act 834 = .ok (.aload 9, 2) := by decide +kernel
theorem dL_act_836 : decode cL_act 836 = .ok (.aload 10, 2) := by decide +kernel
theorem dL_act_838 : decode cL_act 838 = .ok (.aload 11, 2) := by decide +kernel
theorem dL_act_840 : decode cL_act 840 = .ok (.invokestatic 65, 3) := by decide +kernel
theorem dL_act_843 : decode cL_act 843 = .ok (.iconst 0, 1) := by decide +kernel
theorem dL_act_844 : decode cL_act 844 = .ok (.istore 15, 2) := by decide +kernel
theorem dL_act_846 : decode cL_act 846 = .ok (.iload 15, 2) := by decide +kernel
theorem dL_act_848 : decode cL_act 848 = .ok (.bipush 10, 2) := by decide +kernel
theorem dL_act_850 : decode cL_act 850 = .ok (.if_icmp .ge 29, 3) := by decide +kernel
theorem dL_act_853 : decode cL_act 853 = .ok (.iload 14, 2) := by decide +kernel
theorem dL_act_855 : decode cL_act 855 = .ok (.aload 4, 2) := by decide +kernel
theorem dL_act_857 : decode cL_act 857 = .ok (.iload 15, 2) := by decide +kernel
theorem dL_act_859 : decode cL_act 859 = .ok (.iaload, 1) := by decide +kernel
theorem dL_act_860 : decode cL_act 860 = .ok (.iload 13, 2) := by decide +kernel
theorem dL_act_862 : decode cL_act 862 = .ok (.if_icmp .eq 7, 3) := by decide +kernel
theorem dL_act_865 : decode cL_act 865 = .ok (.iconst 1, 1) := by decide +kernel
theorem dL_act_866 : decode cL_act 866 = .ok (.goto 4, 3) := by decide +kernel
theorem dL_act_869 : decode cL_act 869 = .ok (.iconst 0, 1) := by decide +kernel
theorem dL_act_870 : decode cL_act 870 = .ok (.iadd, 1) := by decide +kernel
theorem dL_act_871 : decode cL_act 871 = .ok (.istore 14, 2) := by decide +kernel
theorem dL_act_873 : decode cL_act 873 = .ok (.iinc 15 1, 3) := by decide +kernel
theorem dL_act_876 : decode cL_act 876 = .ok (.goto (-30), 3) := by decide +kernel
theorem dL_act_879 : decode cL_act 879 = .ok (.aload_n 0, 1) := by decide +kernel
theorem dL_act_880 : decode cL_act 880 = .ok (.iload 13, 2) := by decide +kernel
theorem dL_act_882 : decode cL_act 882 = .ok (.invokevirtual 103, 3) := by decide +kernel
theorem dL_act_885 : decode cL_act 885 = .ok (.iload 14, 2) := by decide +kernel
theorem dL_act_887 : decode cL_act 887 = .ok (.if_icmp .ne 7, 3) := by decide +kernel
theorem dL_act_890 : decode cL_act 890 = .ok (.iconst 1, 1) := by decide +kernel
theorem dL_act_891 : decode cL_act 891 = .ok (.goto 4, 3) := by decide +kernel
theorem dL_act_894 : decode cL_act 894 = .ok (.iconst 0, 1) := by decide +kernel
theorem dL_act_895 : decode cL_act 895 = .ok (.ireturn, 1) := by decide +kernel
theorem dL_law_0 : decode cL_law 0 = .ok (.new 31, 3) := by decide +kernel
theorem dL_law_3 : decode cL_law 3 = .ok (.dup, 1) := by decide +kernel
theorem dL_law_4 : decode cL_law 4 = .ok (.invokespecial 106, 3) := by decide +kernel
theorem dL_law_7 : decode cL_law 7 = .ok (.astore_n 1, 1) := by decide +kernel
theorem dL_law_8 : decode cL_law 8 = .ok (.bipush 20, 2) := by decide +kernel
theorem dL_law_10 : decode cL_law 10 = .ok (.newarray .int, 2) := by decide +kernel
theorem dL_law_12 : decode cL_law 12 = .ok (.astore_n 2, 1) := by decide +kernel
theorem dL_law_13 : decode cL_law 13 = .ok (.bipush 45, 2) := by decide +kernel
theorem dL_law_15 : decode cL_law 15 = .ok (.newarray .int, 2) := by decide +kernel
theorem dL_law_17 : decode cL_law 17 = .ok (.astore_n 3, 1) := by decide +kernel
theorem dL_law_18 : decode cL_law 18 = .ok (.bipush 9, 2) := by decide +kernel
theorem dL_law_20 : decode cL_law 20 = .ok (.newarray .int, 2) := by decide +kernel
theorem dL_law_22 : decode cL_law 22 = .ok (.astore 4, 2) := by decide +kernel
theorem dL_law_24 : decode cL_law 24 = .ok (.iconst 2, 1) := by decide +kernel
theorem dL_law_25 : decode cL_law 25 = .ok (.newarray .int, 2) := by decide +kernel
theorem dL_law_27 : decode cL_law 27 = .ok (.astore 5, 2) := by decide +kernel
theorem dL_law_29 : decode cL_law 29 = .ok (.iconst 2, 1) := by decide +kernel
theorem dL_law_30 : decode cL_law 30 = .ok (.newarray .int, 2) := by decide +kernel
theorem dL_law_32 : decode cL_law 32 = .ok (.astore 6, 2) := by decide +kernel
theorem dL_law_34 : decode cL_law 34 = .ok (.bipush 64, 2) := by decide +kernel
theorem dL_law_36 : decode cL_law 36 = .ok (.newarray .int, 2) := by decide +kernel
theorem dL_law_38 : decode cL_law 38 = .ok (.astore 7, 2) := by decide +kernel
theorem dL_law_40 : decode cL_law 40 = .ok (.bipush 64, 2) := by decide +kernel
theorem dL_law_42 : decode cL_law 42 = .ok (.newarray .int, 2) := by decide +kernel
theorem dL_law_44 : decode cL_law 44 = .ok (.astore 8, 2) := by decide +kernel
theorem dL_law_46 : decode cL_law 46 = .ok (.bipush 64, 2) := by decide +kernel
theorem dL_law_48 : decode cL_law 48 = .ok (.newarray .int, 2) := by decide +kernel
theorem dL_law_50 : decode cL_law 50 = .ok (.astore 9, 2) := by decide +kernel
theorem dL_law_52 : decode cL_law 52 = .ok (.iconst 0, 1) := by decide +kernel
theorem dL_law_53 : decode cL_law 53 = .ok (.istore 10, 2) := by decide +kernel
theorem dL_law_55 : decode cL_law 55 = .ok (.iload 10, 2) := by decide +kernel
theorem dL_law_57 : decode cL_law 57 = .ok (.bipush 10, 2) := by decide +kernel
theorem dL_law_59 : decode cL_law 59 = .ok (.if_icmp .ge 17, 3) := by decide +kernel
theorem dL_law_62 : decode cL_law 62 = .ok (.aload_n 2, 1) := by decide +kernel
theorem dL_law_63 : decode cL_law 63 = .ok (.bipush 10, 2) := by decide +kernel
theorem dL_law_65 : decode cL_law 65 = .ok (.iload 10, 2) := by decide +kernel
theorem dL_law_67 : decode cL_law 67 = .ok (.iadd, 1) := by decide +kernel
theorem dL_law_68 : decode cL_law 68 = .ok (.iconst 5, 1) := by decide +kernel
theorem dL_law_69 : decode cL_law 69 = .ok (.iastore, 1) := by decide +kernel
theorem dL_law_70 : decode cL_law 70 = .ok (.iinc 10 1, 3) := by decide +kernel
theorem dL_law_73 : decode cL_law 73 = .ok (.goto (-18), 3) := by decide +kernel
theorem dL_law_76 : decode cL_law 76 = .ok (.aload_n 1, 1) := by decide +kernel
theorem dL_law_77 : decode cL_law 77 = .ok (.iconst 0, 1) := by decide +kernel
theorem dL_law_78 : decode cL_law 78 = .ok (.aload_n 2, 1) := by decide +kernel
theorem dL_law_79 : decode cL_law 79 = .ok (.aload_n 3, 1) := by decide +kernel
theorem dL_law_80 : decode cL_law 80 = .ok (.aload 4, 2) := by decide +kernel
theorem dL_law_82 : decode cL_law 82 = .ok (.aload 5, 2) := by decide +kernel
theorem dL_law_84 : decode cL_law 84 = .ok (.invokestatic 107, 3) := by decide +kernel
theorem dL_law_87 : decode cL_law 87 = .ok (.ifCond .eq 11, 3) := by decide +kernel
theorem dL_law_90 : decode cL_law 90 = .ok (.aload_n 1, 1) := by decide +kernel
theorem dL_law_91 : decode cL_law 91 = .ok (.iconst 4, 1) := by decide +kernel
theorem dL_law_92 : decode cL_law 92 = .ok (.invokevirtual 57, 3) := by decide +kernel
theorem dL_law_95 : decode cL_law 95 = .ok (.ifCond .eq 5, 3) := by decide +kernel
theorem dL_law_98 : decode cL_law 98 = .ok (.iconst 0, 1) := by decide +kernel
theorem dL_law_99 : decode cL_law 99 = .ok (.ireturn, 1) := by decide +kernel
theorem dL_law_100 : decode cL_law 100 = .ok (.iconst 0, 1) := by decide +kernel
theorem dL_law_101 : decode cL_law 101 = .ok (.istore 10, 2) := by decide +kernel
theorem dL_law_103 : decode cL_law 103 = .ok (.iload 10, 2) := by decide +kernel
theorem dL_law_105 : decode cL_law 105 = .ok (.bipush 18, 2) := by decide +kernel
theorem dL_law_107 : decode cL_law 107 = .ok (.if_icmp .ge 132, 3) := by decide +kernel
theorem dL_law_110 : decode cL_law 110 = .ok (.aload_n 0, 1) := by decide +kernel
theorem dL_law_111 : decode cL_law 111 = .ok (.iconst 2, 1) := by decide +kernel
theorem dL_law_112 : decode cL_law 112 = .ok (.iload 10, 2) := by decide +kernel
theorem dL_law_114 : decode cL_law 114 = .ok (.imul, 1) := by decide +kernel
theorem dL_law_115 : decode cL_law 115 = .ok (.invokestatic 111, 3) := by decide +kernel
theorem dL_law_118 : decode cL_law 118 = .ok (.ldc 115, 2) := by decide +kernel
theorem dL_law_120 : decode cL_law 120 = .ok (.iand, 1) := by decide +kernel
theorem dL_law_121 : decode cL_law 121 = .ok (.istore 11, 2) := by decide +kernel
theorem dL_law_123 : decode cL_law 123 = .ok (.aload_n 0, 1) := by decide +kernel
theorem dL_law_124 : decode cL_law 124 = .ok (.iconst 2, 1) := by decide +kernel
theorem dL_law_125 : decode cL_law 125 = .ok (.iload 10, 2) := by decide +kernel
theorem dL_law_127 : decode cL_law 127 = .ok (.imul, 1) := by decide +kernel
theorem dL_law_128 : decode cL_law 128 = .ok (.iconst 1, 1) := by decide +kernel
theorem dL_law_129 : decode cL_law 129 = .ok (.iadd, 1) := by decide +kernel
theorem dL_law_130 : decode cL_law 130 = .ok (.invokestatic 111, 3) := by decide +kernel
theorem dL_law_133 : decode cL_law 133 = .ok (.ldc 115, 2) := by decide +kernel
theorem dL_law_135 : decode cL_law 135 = .ok (.iand, 1) := by decide +kernel
theorem dL_law_136 : decode cL_law 136 = .ok (.istore 12, 2) := by decide +kernel
theorem dL_law_138 : decode cL_law 138 = .ok (.aload_n 1, 1) := by decide +kernel
theorem dL_law_139 : decode cL_law 139 = .ok (.iload 10, 2) := by decide +kernel
theorem dL_law_141 : decode cL_law 141 = .ok (.iconst 3, 1) := by decide +kernel
theorem dL_law_142 : decode cL_law 142 = .ok (.if_icmp .ge 7, 3) := by decide +kernel
theorem dL_law_145 : decode cL_law 145 = .ok (.iconst 0, 1) := by decide +kernel
theorem dL_law_146 : decode cL_law 146 = .ok (.goto 13, 3) := by decide +kernel
theorem dL_law_149 : decode cL_law 149 = .ok (.iload 11, 2) := by decide +kernel
theorem dL_law_151 : decode cL_law 151 = .ok (.bipush 13, 2) := by decide +kernel
theorem dL_law_153 : decode cL_law 153 = .ok (.ishr, 1) := by decide +kernel
theorem dL_law_154 : decode cL_law 154 = .ok (.bipush 14, 2) := by decide +kernel
theorem dL_law_156 : decode cL_law 156 = .ok (.invokestatic 36, 3) := by decide +kernel
theorem dL_law_159 : decode cL_law 159 = .ok (.iload 11, 2) := by decide +kernel
theorem dL_law_161 : decode cL_law 161 = .ok (.iload 12, 2) := by decide +kernel
theorem dL_law_163 : decode cL_law 163 = .ok (.aload_n 2, 1) := by decide +kernel
theorem dL_law_164 : decode cL_law 164 = .ok (.aload_n 3, 1) := by decide +kernel
theorem dL_law_165 : decode cL_law 165 = .ok (.aload 4, 2) := by decide +kernel
theorem dL_law_167 : decode cL_law 167 = .ok (.aload 5, 2) := by decide +kernel
theorem dL_law_169 : decode cL_law 169 = .ok (.aload 6, 2) := by decide +kernel
theorem dL_law_171 : decode cL_law 171 = .ok (.aload 7, 2) := by decide +kernel
theorem dL_law_173 : decode cL_law 173 = .ok (.aload 8, 2) := by decide +kernel
theorem dL_law_175 : decode cL_law 175 = .ok (.aload 9, 2) := by decide +kernel
theorem dL_law_177 : decode cL_law 177 = .ok (.invokestatic 116, 3) := by decide +kernel
theorem dL_law_180 : decode cL_law 180 = .ok (.ifCond .eq 20, 3) := by decide +kernel
theorem dL_law_183 : decode cL_law 183 = .ok (.aload_n 1, 1) := by decide +kernel
theorem dL_law_184 : decode cL_law 184 = .ok (.iload 12, 2) := by decide +kernel
theorem dL_law_186 : decode cL_law 186 = .ok (.iconst 2, 1) := by decide +kernel
theorem dL_law_187 : decode cL_law 187 = .ok (.ishr, 1) := by decide +kernel
theorem dL_law_188 : decode cL_law 188 = .ok (.aload_n 2, 1) := by decide +kernel
theorem dL_law_189 : decode cL_law 189 = .ok (.aload_n 3, 1) := by decide +kernel
theorem dL_law_190 : decode cL_law 190 = .ok (.aload 4, 2) := by decide +kernel
theorem dL_law_192 : decode cL_law 192 = .ok (.aload 5, 2) := by decide +kernel
theorem dL_law_194 : decode cL_law 194 = .ok (.invokestatic 107, 3) := by decide +kernel
theorem dL_law_197 : decode cL_law 197 = .ok (.ifCond .ne 5, 3) := by decide +kernel
theorem dL_law_200 : decode cL_law 200 = .ok (.iconst 0, 1) := by decide +kernel
theorem dL_law_201 : decode cL_law 201 = .ok (.ireturn, 1) := by decide +kernel
theorem dL_law_202 : decode cL_law 202 = .ok (.iload 10, 2) := by decide +kernel
theorem dL_law_204 : decode cL_law 204 = .ok (.iconst 5, 1) := by decide +kernel
theorem dL_law_205 : decode cL_law 205 = .ok (.irem, 1) := by decide +kernel
theorem dL_law_206 : decode cL_law 206 = .ok (.iconst 4, 1) := by decide +kernel
theorem dL_law_207 : decode cL_law 207 = .ok (.if_icmp .ne 26, 3) := by decide +kernel
theorem dL_law_210 : decode cL_law 210 = .ok (.aload_n 1, 1) := by decide +kernel
theorem dL_law_211 : decode cL_law 211 = .ok (.iload 12, 2) := by decide +kernel
theorem dL_law_213 : decode cL_law 213 = .ok (.iconst 2, 1) := by decide +kernel
theorem dL_law_214 : decode cL_law 214 = .ok (.ishr, 1) := by decide +kernel
theorem dL_law_215 : decode cL_law 215 = .ok (.iload 11, 2) := by decide +kernel
theorem dL_law_217 : decode cL_law 217 = .ok (.iconst 2, 1) := by decide +kernel
theorem dL_law_218 : decode cL_law 218 = .ok (.ishr, 1) := by decide +kernel
theorem dL_law_219 : decode cL_law 219 = .ok (.aload_n 2, 1) := by decide +kernel
theorem dL_law_220 : decode cL_law 220 = .ok (.aload_n 3, 1) := by decide +kernel
theorem dL_law_221 : decode cL_law 221 = .ok (.aload 4, 2) := by decide +kernel
theorem dL_law_223 : decode cL_law 223 = .ok (.aload 5, 2) := by decide +kernel
theorem dL_law_225 : decode cL_law 225 = .ok (.invokestatic 120, 3) := by decide +kernel
theorem dL_law_228 : decode cL_law 228 = .ok (.ifCond .ne 5, 3) := by decide +kernel
theorem dL_law_231 : decode cL_law 231 = .ok (.iconst 0, 1) := by decide +kernel
theorem dL_law_232 : decode cL_law 232 = .ok (.ireturn, 1) := by decide +kernel
theorem dL_law_233 : decode cL_law 233 = .ok (.iinc 10 1, 3) := by decide +kernel
theorem dL_law_236 : decode cL_law 236 = .ok (.goto (-133), 3) := by decide +kernel
theorem dL_law_239 : decode cL_law 239 = .ok (.aload_n 1, 1) := by decide +kernel
theorem dL_law_240 : decode cL_law 240 = .ok (.iconst 4, 1) := by decide +kernel
theorem dL_law_241 : decode cL_law 241 = .ok (.invokevirtual 57, 3) := by decide +kernel
theorem dL_law_244 : decode cL_law 244 = .ok (.ifCond .le 7, 3) := by decide +kernel
theorem dL_law_247 : decode cL_law 247 = .ok (.iconst 1, 1) := by decide +kernel
theorem dL_law_248 : decode cL_law 248 = .ok (.goto 4, 3) := by decide +kernel
theorem dL_law_251 : decode cL_law 251 = .ok (.iconst 0, 1) := by decide +kernel
theorem dL_law_252 : decode cL_law 252 = .ok (.ireturn, 1) := by decide +kernel

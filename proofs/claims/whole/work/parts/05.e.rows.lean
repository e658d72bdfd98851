-- ===== printed by program (wip/whole/gen11.py): what stands at each place of a method =====
theorem d_Mo_feed_73 : decode m_Mo_feed.2.1 73 = .ok (.istore 7, 2) := by decide +kernel
theorem d_Mo_feed_75 : decode m_Mo_feed.2.1 75 = .ok (.aload_n 0, 1) := by decide +kernel
theorem d_Mo_feed_76 : decode m_Mo_feed.2.1 76 = .ok (.getfield 7, 3) := by decide +kernel
theorem d_Mo_feed_79 : decode m_Mo_feed.2.1 79 = .ok (.aload_n 0, 1) := by decide +kernel
theorem d_Mo_feed_80 : decode m_Mo_feed.2.1 80 = .ok (.getfield 163, 3) := by decide +kernel
theorem d_Mo_feed_83 : decode m_Mo_feed.2.1 83 = .ok (.iload 6, 2) := by decide +kernel
theorem d_Mo_feed_85 : decode m_Mo_feed.2.1 85 = .ok (.iadd, 1) := by decide +kernel
theorem d_Mo_feed_86 : decode m_Mo_feed.2.1 86 = .ok (.iload 7, 2) := by decide +kernel
theorem d_Mo_feed_88 : decode m_Mo_feed.2.1 88 = .ok (.bipush 24, 2) := by decide +kernel
theorem d_Mo_feed_90 : decode m_Mo_feed.2.1 90 = .ok (.bipush 8, 2) := by decide +kernel
theorem d_Mo_feed_92 : decode m_Mo_feed.2.1 92 = .ok (.iload 6, 2) := by decide +kernel
theorem d_Mo_feed_94 : decode m_Mo_feed.2.1 94 = .ok (.iconst 4, 1) := by decide +kernel
theorem d_Mo_feed_95 : decode m_Mo_feed.2.1 95 = .ok (.irem, 1) := by decide +kernel
theorem d_Mo_feed_96 : decode m_Mo_feed.2.1 96 = .ok (.imul, 1) := by decide +kernel
theorem d_Mo_feed_97 : decode m_Mo_feed.2.1 97 = .ok (.isub, 1) := by decide +kernel
theorem d_Mo_feed_98 : decode m_Mo_feed.2.1 98 = .ok (.ishr, 1) := by decide +kernel
theorem d_Mo_feed_99 : decode m_Mo_feed.2.1 99 = .ok (.sipush 255, 3) := by decide +kernel
theorem d_Mo_feed_102 : decode m_Mo_feed.2.1 102 = .ok (.iand, 1) := by decide +kernel
theorem d_Mo_feed_103 : decode m_Mo_feed.2.1 103 = .ok (.iastore, 1) := by decide +kernel
theorem d_Mo_feed_104 : decode m_Mo_feed.2.1 104 = .ok (.iinc 6 1, 3) := by decide +kernel
theorem d_Mo_feed_107 : decode m_Mo_feed.2.1 107 = .ok (.goto (-87), 3) := by decide +kernel
theorem d_Mo_feed_110 : decode m_Mo_feed.2.1 110 = .ok (.aload_n 0, 1) := by decide +kernel
theorem d_Mo_feed_111 : decode m_Mo_feed.2.1 111 = .ok (.dup, 1) := by decide +kernel
theorem d_Mo_feed_112 : decode m_Mo_feed.2.1 112 = .ok (.getfield 163, 3) := by decide +kernel
theorem d_Mo_feed_115 : decode m_Mo_feed.2.1 115 = .ok (.bipush 20, 2) := by decide +kernel
theorem d_Mo_feed_117 : decode m_Mo_feed.2.1 117 = .ok (.iadd, 1) := by decide +kernel
theorem d_Mo_feed_118 : decode m_Mo_feed.2.1 118 = .ok (.putfield 163, 3) := by decide +kernel
theorem d_Mo_feed_121 : decode m_Mo_feed.2.1 121 = .ok (.aload_n 0, 1) := by decide +kernel
theorem d_Mo_feed_122 : decode m_Mo_feed.2.1 122 = .ok (.getfield 163, 3) := by decide +kernel
theorem d_Mo_feed_125 : decode m_Mo_feed.2.1 125 = .ok (.ireturn, 1) := by decide +kernel
theorem d_Mo_text_0 : decode m_Mo_text.2.1 0 = .ok (.aload_n 0, 1) := by decide +kernel
theorem d_Mo_text_1 : decode m_Mo_text.2.1 1 = .ok (.iconst 0, 1) := by decide +kernel
theorem d_Mo_text_2 : decode m_Mo_text.2.1 2 = .ok (.putfield 160, 3) := by decide +kernel
theorem d_Mo_text_5 : decode m_Mo_text.2.1 5 = .ok (.iload_n 1, 1) := by decide +kernel
theorem d_Mo_text_6 : decode m_Mo_text.2.1 6 = .ok (.ifCond .lt 11, 3) := by decide +kernel
theorem d_Mo_text_9 : decode m_Mo_text.2.1 9 = .ok (.iload_n 1, 1) := by decide +kernel
theorem d_Mo_text_10 : decode m_Mo_text.2.1 10 = .ok (.aload_n 0, 1) := by decide +kernel
theorem d_Mo_text_11 : decode m_Mo_text.2.1 11 = .ok (.getfield 163, 3) := by decide +kernel
theorem d_Mo_text_14 : decode m_Mo_text.2.1 14 = .ok (.if_icmp .le 6, 3) := by decide +kernel
theorem d_Mo_text_17 : decode m_Mo_text.2.1 17 = .ok (.bipush (-2), 2) := by decide +kernel
theorem d_Mo_text_19 : decode m_Mo_text.2.1 19 = .ok (.ireturn, 1) := by decide +kernel
theorem d_Mo_text_20 : decode m_Mo_text.2.1 20 = .ok (.aload_n 0, 1) := by decide +kernel
theorem d_Mo_text_21 : decode m_Mo_text.2.1 21 = .ok (.iload_n 1, 1) := by decide +kernel
theorem d_Mo_text_22 : decode m_Mo_text.2.1 22 = .ok (.putfield 169, 3) := by decide +kernel
theorem d_Mo_text_25 : decode m_Mo_text.2.1 25 = .ok (.aload_n 0, 1) := by decide +kernel
theorem d_Mo_text_26 : decode m_Mo_text.2.1 26 = .ok (.iconst 0, 1) := by decide +kernel
theorem d_Mo_text_27 : decode m_Mo_text.2.1 27 = .ok (.putfield 163, 3) := by decide +kernel
theorem d_Mo_text_30 : decode m_Mo_text.2.1 30 = .ok (.aload_n 0, 1) := by decide +kernel
theorem d_Mo_text_31 : decode m_Mo_text.2.1 31 = .ok (.iconst 0, 1) := by decide +kernel
theorem d_Mo_text_32 : decode m_Mo_text.2.1 32 = .ok (.putfield 166, 3) := by decide +kernel
theorem d_Mo_text_35 : decode m_Mo_text.2.1 35 = .ok (.aload_n 0, 1) := by decide +kernel
theorem d_Mo_text_36 : decode m_Mo_text.2.1 36 = .ok (.iconst 0, 1) := by decide +kernel
theorem d_Mo_text_37 : decode m_Mo_text.2.1 37 = .ok (.putfield 214, 3) := by decide +kernel
theorem d_Mo_text_40 : decode m_Mo_text.2.1 40 = .ok (.aload_n 0, 1) := by decide +kernel
theorem d_Mo_text_41 : decode m_Mo_text.2.1 41 = .ok (.iconst (-1), 1) := by decide +kernel
theorem d_Mo_text_42 : decode m_Mo_text.2.1 42 = .ok (.putfield 217, 3) := by decide +kernel
theorem d_Mo_text_45 : decode m_Mo_text.2.1 45 = .ok (.iconst 0, 1) := by decide +kernel
theorem d_Mo_text_46 : decode m_Mo_text.2.1 46 = .ok (.istore_n 2, 1) := by decide +kernel
theorem d_Mo_text_47 : decode m_Mo_text.2.1 47 = .ok (.iload_n 2, 1) := by decide +kernel
theorem d_Mo_text_48 : decode m_Mo_text.2.1 48 = .ok (.iconst 4, 1) := by decide +kernel
theorem d_Mo_text_49 : decode m_Mo_text.2.1 49 = .ok (.if_icmp .ge 18, 3) := by decide +kernel
theorem d_Mo_text_52 : decode m_Mo_text.2.1 52 = .ok (.aload_n 0, 1) := by decide +kernel
theorem d_Mo_text_53 : decode m_Mo_text.2.1 53 = .ok (.getfield 13, 3) := by decide +kernel
theorem d_Mo_text_56 : decode m_Mo_text.2.1 56 = .ok (.iconst 4, 1) := by decide +kernel
theorem d_Mo_text_57 : decode m_Mo_text.2.1 57 = .ok (.iload_n 2, 1) := by decide +kernel
theorem d_Mo_text_58 : decode m_Mo_text.2.1 58 = .ok (.iadd, 1) := by decide +kernel
theorem d_Mo_text_59 : decode m_Mo_text.2.1 59 = .ok (.iconst 0, 1) := by decide +kernel
theorem d_Mo_text_60 : decode m_Mo_text.2.1 60 = .ok (.iastore, 1) := by decide +kernel
theorem d_Mo_text_61 : decode m_Mo_text.2.1 61 = .ok (.iinc 2 1, 3) := by decide +kernel
theorem d_Mo_text_64 : decode m_Mo_text.2.1 64 = .ok (.goto (-17), 3) := by decide +kernel
theorem d_Mo_text_67 : decode m_Mo_text.2.1 67 = .ok (.iconst 4, 1) := by decide +kernel
theorem d_Mo_text_68 : decode m_Mo_text.2.1 68 = .ok (.istore_n 2, 1) := by decide +kernel
theorem d_Mo_text_69 : decode m_Mo_text.2.1 69 = .ok (.iload_n 2, 1) := by decide +kernel
theorem d_Mo_text_70 : decode m_Mo_text.2.1 70 = .ok (.bipush 8, 2) := by decide +kernel
theorem d_Mo_text_72 : decode m_Mo_text.2.1 72 = .ok (.if_icmp .ge 23, 3) := by decide +kernel
theorem d_Mo_text_75 : decode m_Mo_text.2.1 75 = .ok (.aload_n 0, 1) := by decide +kernel
theorem d_Mo_text_76 : decode m_Mo_text.2.1 76 = .ok (.getfield 41, 3) := by decide +kernel
theorem d_Mo_text_79 : decode m_Mo_text.2.1 79 = .ok (.iload_n 2, 1) := by decide +kernel
theorem d_Mo_text_80 : decode m_Mo_text.2.1 80 = .ok (.iconst 0, 1) := by decide +kernel
theorem d_Mo_text_81 : decode m_Mo_text.2.1 81 = .ok (.iastore, 1) := by decide +kernel
theorem d_Mo_text_82 : decode m_Mo_text.2.1 82 = .ok (.aload_n 0, 1) := by decide +kernel
theorem d_Mo_text_83 : decode m_Mo_text.2.1 83 = .ok (.getfield 44, 3) := by decide +kernel
theorem d_Mo_text_86 : decode m_Mo_text.2.1 86 = .ok (.iload_n 2, 1) := by decide +kernel
theorem d_Mo_text_87 : decode m_Mo_text.2.1 87 = .ok (.iconst 0, 1) := by decide +kernel
theorem d_Mo_text_88 : decode m_Mo_text.2.1 88 = .ok (.iastore, 1) := by decide +kernel
theorem d_Mo_text_89 : decode m_Mo_text.2.1 89 = .ok (.iinc 2 1, 3) := by decide +kernel
theorem d_Mo_text_92 : decode m_Mo_text.2.1 92 = .ok (.goto (-23), 3) := by decide +kernel
theorem d_Mo_text_95 : decode m_Mo_text.2.1 95 = .ok (.aload_n 0, 1) := by decide +kernel
theorem d_Mo_text_96 : decode m_Mo_text.2.1 96 = .ok (.iconst 0, 1) := by decide +kernel
theorem d_Mo_text_97 : decode m_Mo_text.2.1 97 = .ok (.putfield 234, 3) := by decide +kernel
theorem d_Mo_text_100 : decode m_Mo_text.2.1 100 = .ok (.aload_n 0, 1) := by decide +kernel
theorem d_Mo_text_101 : decode m_Mo_text.2.1 101 = .ok (.iconst 0, 1) := by decide +kernel
theorem d_Mo_text_102 : decode m_Mo_text.2.1 102 = .ok (.putfield 254, 3) := by decide +kernel
theorem d_Mo_text_105 : decode m_Mo_text.2.1 105 = .ok (.aload_n 0, 1) := by decide +kernel
theorem d_Mo_text_106 : decode m_Mo_text.2.1 106 = .ok (.iconst 0, 1) := by decide +kernel
theorem d_Mo_text_107 : decode m_Mo_text.2.1 107 = .ok (.putfield 291, 3) := by decide +kernel
theorem d_Mo_text_110 : decode m_Mo_text.2.1 110 = .ok (.aload_n 0, 1) := by decide +kernel
theorem d_Mo_text_111 : decode m_Mo_text.2.1 111 = .ok (.iconst 0, 1) := by decide +kernel
theorem d_Mo_text_112 : decode m_Mo_text.2.1 112 = .ok (.putfield 263, 3) := by decide +kernel
theorem d_Mo_text_115 : decode m_Mo_text.2.1 115 = .ok (.aload_n 0, 1) := by decide +kernel
theorem d_Mo_text_116 : decode m_Mo_text.2.1 116 = .ok (.invokevirtual 220, 3) := by decide +kernel
theorem d_Mo_text_119 : decode m_Mo_text.2.1 119 = .ok (.aload_n 0, 1) := by decide +kernel
theorem d_Mo_text_120 : decode m_Mo_text.2.1 120 = .ok (.getfield 214, 3) := by decide +kernel
theorem d_Mo_text_123 : decode m_Mo_text.2.1 123 = .ok (.ifCond .ne 18, 3) := by decide +kernel
theorem d_Mo_text_126 : decode m_Mo_text.2.1 126 = .ok (.aload_n 0, 1) := by decide +kernel
theorem d_Mo_text_127 : decode m_Mo_text.2.1 127 = .ok (.getfield 179, 3) := by decide +kernel
theorem d_Mo_text_130 : decode m_Mo_text.2.1 130 = .ok (.iconst 4, 1) := by decide +kernel
theorem d_Mo_text_131 : decode m_Mo_text.2.1 131 = .ok (.if_icmp .eq 10, 3) := by decide +kernel
theorem d_Mo_text_134 : decode m_Mo_text.2.1 134 = .ok (.aload_n 0, 1) := by decide +kernel
theorem d_Mo_text_135 : decode m_Mo_text.2.1 135 = .ok (.invokevirtual 294, 3) := by decide +kernel
theorem d_Mo_text_138 : decode m_Mo_text.2.1 138 = .ok (.goto (-19), 3) := by decide +kernel
theorem d_Mo_text_141 : decode m_Mo_text.2.1 141 = .ok (.aload_n 0, 1) := by decide +kernel
theorem d_Mo_text_142 : decode m_Mo_text.2.1 142 = .ok (.aload_n 0, 1) := by decide +kernel
theorem d_Mo_text_143 : decode m_Mo_text.2.1 143 = .ok (.getfield 214, 3) := by decide +kernel
theorem d_Mo_text_146 : decode m_Mo_text.2.1 146 = .ok (.putfield 297, 3) := by decide +kernel
theorem d_Mo_text_149 : decode m_Mo_text.2.1 149 = .ok (.aload_n 0, 1) := by decide +kernel
theorem d_Mo_text_150 : decode m_Mo_text.2.1 150 = .ok (.aload_n 0, 1) := by decide +kernel
theorem d_Mo_text_151 : decode m_Mo_text.2.1 151 = .ok (.getfield 217, 3) := by decide +kernel
theorem d_Mo_text_154 : decode m_Mo_text.2.1 154 = .ok (.putfield 53, 3) := by decide +kernel
theorem d_Mo_text_157 : decode m_Mo_text.2.1 157 = .ok (.aload_n 0, 1) := by decide +kernel
theorem d_Mo_text_158 : decode m_Mo_text.2.1 158 = .ok (.getfield 214, 3) := by decide +kernel
theorem d_Mo_text_161 : decode m_Mo_text.2.1 161 = .ok (.ifCond .eq 5, 3) := by decide +kernel
theorem d_Mo_text_164 : decode m_Mo_text.2.1 164 = .ok (.iconst (-1), 1) := by decide +kernel
theorem d_Mo_text_165 : decode m_Mo_text.2.1 165 = .ok (.ireturn, 1) := by decide +kernel
theorem d_Mo_text_166 : decode m_Mo_text.2.1 166 = .ok (.aload_n 0, 1) := by decide +kernel
theorem d_Mo_text_167 : decode m_Mo_text.2.1 167 = .ok (.getfield 13, 3) := by decide +kernel
theorem d_Mo_text_170 : decode m_Mo_text.2.1 170 = .ok (.invokestatic 300, 3) := by decide +kernel
theorem d_Mo_text_173 : decode m_Mo_text.2.1 173 = .ok (.aload_n 0, 1) := by decide +kernel
theorem d_Mo_text_174 : decode m_Mo_text.2.1 174 = .ok (.getfield 16, 3) := by decide +kernel
theorem d_Mo_text_177 : decode m_Mo_text.2.1 177 = .ok (.invokestatic 300, 3) := by decide +kernel
theorem d_Mo_text_180 : decode m_Mo_text.2.1 180 = .ok (.aload_n 0, 1) := by decide +kernel
theorem d_Mo_text_181 : decode m_Mo_text.2.1 181 = .ok (.getfield 19, 3) := by decide +kernel
theorem d_Mo_text_184 : decode m_Mo_text.2.1 184 = .ok (.invokestatic 300, 3) := by decide +kernel
theorem d_Mo_text_187 : decode m_Mo_text.2.1 187 = .ok (.aload_n 0, 1) := by decide +kernel
theorem d_Mo_text_188 : decode m_Mo_text.2.1 188 = .ok (.getfield 22, 3) := by decide +kernel
theorem d_Mo_text_191 : decode m_Mo_text.2.1 191 = .ok (.invokestatic 300, 3) := by decide +kernel
theorem d_Mo_text_194 : decode m_Mo_text.2.1 194 = .ok (.aload_n 0, 1) := by decide +kernel
theorem d_Mo_text_195 : decode m_Mo_text.2.1 195 = .ok (.getfield 25, 3) := by decide +kernel
theorem d_Mo_text_198 : decode m_Mo_text.2.1 198 = .ok (.invokestatic 300, 3) := by decide +kernel
theorem d_Mo_text_201 : decode m_Mo_text.2.1 201 = .ok (.iconst 0, 1) := by decide +kernel
theorem d_Mo_text_202 : decode m_Mo_text.2.1 202 = .ok (.istore_n 2, 1) := by decide +kernel
theorem d_Mo_text_203 : decode m_Mo_text.2.1 203 = .ok (.iload_n 2, 1) := by decide +kernel
theorem d_Mo_text_204 : decode m_Mo_text.2.1 204 = .ok (.bipush 6, 2) := by decide +kernel
theorem d_Mo_text_206 : decode m_Mo_text.2.1 206 = .ok (.if_icmp .ge 24, 3) := by decide +kernel
theorem d_Mo_text_209 : decode m_Mo_text.2.1 209 = .ok (.aload_n 0, 1) := by decide +kernel
theorem d_Mo_text_210 : decode m_Mo_text.2.1 210 = .ok (.getfield 28, 3) := by decide +kernel
theorem d_Mo_text_213 : decode m_Mo_text.2.1 213 = .ok (.iload_n 2, 1) := by decide +kernel
theorem d_Mo_text_214 : decode m_Mo_text.2.1 214 = .ok (.aload_n 0, 1) := by decide +kernel
theorem d_Mo_text_215 : decode m_Mo_text.2.1 215 = .ok (.getfield 28, 3) := by decide +kernel
theorem d_Mo_text_218 : decode m_Mo_text.2.1 218 = .ok (.bipush 6, 2) := by decide +kernel
theorem d_Mo_text_220 : decode m_Mo_text.2.1 220 = .ok (.iload_n 2, 1) := by decide +kernel
theorem d_Mo_text_221 : decode m_Mo_text.2.1 221 = .ok (.iadd, 1) := by decide +kernel
theorem d_Mo_text_222 : decode m_Mo_text.2.1 222 = .ok (.baload, 1) := by decide +kernel
theorem d_Mo_text_223 : decode m_Mo_text.2.1 223 = .ok (.bastore, 1) := by decide +kernel
theorem d_Mo_text_224 : decode m_Mo_text.2.1 224 = .ok (.iinc 2 1, 3) := by decide +kernel
theorem d_Mo_text_227 : decode m_Mo_text.2.1 227 = .ok (.goto (-24), 3) := by decide +kernel
theorem d_Mo_text_230 : decode m_Mo_text.2.1 230 = .ok (.aload_n 0, 1) := by decide +kernel
theorem d_Mo_text_231 : decode m_Mo_text.2.1 231 = .ok (.getfield 32, 3) := by decide +kernel
theorem d_Mo_text_234 : decode m_Mo_text.2.1 234 = .ok (.invokestatic 300, 3) := by decide +kernel
theorem d_Mo_text_237 : decode m_Mo_text.2.1 237 = .ok (.aload_n 0, 1) := by decide +kernel
theorem d_Mo_text_238 : decode m_Mo_text.2.1 238 = .ok (.getfield 35, 3) := by decide +kernel
theorem d_Mo_text_241 : decode m_Mo_text.2.1 241 = .ok (.invokestatic 300, 3) := by decide +kernel
theorem d_Mo_text_244 : decode m_Mo_text.2.1 244 = .ok (.aload_n 0, 1) := by decide +kernel
theorem d_Mo_text_245 : decode m_Mo_text.2.1 245 = .ok (.getfield 38, 3) := by decide +kernel
theorem d_Mo_text_248 : decode m_Mo_text.2.1 248 = .ok (.invokestatic 300, 3) := by decide +kernel
theorem d_Mo_text_251 : decode m_Mo_text.2.1 251 = .ok (.aload_n 0, 1) := by decide +kernel
theorem d_Mo_text_252 : decode m_Mo_text.2.1 252 = .ok (.getfield 41, 3) := by decide +kernel
theorem d_Mo_text_255 : decode m_Mo_text.2.1 255 = .ok (.invokestatic 300, 3) := by decide +kernel
theorem d_Mo_text_258 : decode m_Mo_text.2.1 258 = .ok (.aload_n 0, 1) := by decide +kernel
theorem d_Mo_text_259 : decode m_Mo_text.2.1 259 = .ok (.getfield 44, 3) := by decide +kernel
theorem d_Mo_text_262 : decode m_Mo_text.2.1 262 = .ok (.invokestatic 300, 3) := by decide +kernel
theorem d_Mo_text_265 : decode m_Mo_text.2.1 265 = .ok (.aload_n 0, 1) := by decide +kernel
theorem d_Mo_text_266 : decode m_Mo_text.2.1 266 = .ok (.getfield 47, 3) := by decide +kernel
theorem d_Mo_text_269 : decode m_Mo_text.2.1 269 = .ok (.invokestatic 300, 3) := by decide +kernel
theorem d_Mo_text_272 : decode m_Mo_text.2.1 272 = .ok (.aload_n 0, 1) := by decide +kernel
theorem d_Mo_text_273 : decode m_Mo_text.2.1 273 = .ok (.getfield 50, 3) := by decide +kernel
theorem d_Mo_text_276 : decode m_Mo_text.2.1 276 = .ok (.invokestatic 300, 3) := by decide +kernel
theorem d_Mo_text_279 : decode m_Mo_text.2.1 279 = .ok (.aload_n 0, 1) := by decide +kernel
theorem d_Mo_text_280 : decode m_Mo_text.2.1 280 = .ok (.iconst 0, 1) := by decide +kernel
theorem d_Mo_text_281 : decode m_Mo_text.2.1 281 = .ok (.putfield 304, 3) := by decide +kernel
theorem d_Mo_text_284 : decode m_Mo_text.2.1 284 = .ok (.aload_n 0, 1) := by decide +kernel
theorem d_Mo_text_285 : decode m_Mo_text.2.1 285 = .ok (.iconst (-1), 1) := by decide +kernel
theorem d_Mo_text_286 : decode m_Mo_text.2.1 286 = .ok (.putfield 139, 3) := by decide +kernel
theorem d_Mo_text_289 : decode m_Mo_text.2.1 289 = .ok (.aload_n 0, 1) := by decide +kernel
theorem d_Mo_text_290 : decode m_Mo_text.2.1 290 = .ok (.iconst 0, 1) := by decide +kernel
theorem d_Mo_text_291 : decode m_Mo_text.2.1 291 = .ok (.putfield 307, 3) := by decide +kernel
theorem d_Mo_text_294 : decode m_Mo_text.2.1 294 = .ok (.aload_n 0, 1) := by decide +kernel
theorem d_Mo_text_295 : decode m_Mo_text.2.1 295 = .ok (.iconst 0, 1) := by decide +kernel
theorem d_Mo_text_296 : decode m_Mo_text.2.1 296 = .ok (.putfield 311, 3) := by decide +kernel
theorem d_Mo_text_299 : decode m_Mo_text.2.1 299 = .ok (.aload_n 0, 1) := by decide +kernel
theorem d_Mo_text_300 : decode m_Mo_text.2.1 300 = .ok (.invokevirtual 157, 3) := by decide +kernel
theorem d_Mo_text_303 : decode m_Mo_text.2.1 303 = .ok (.aload_n 0, 1) := by decide +kernel
theorem d_Mo_text_304 : decode m_Mo_text.2.1 304 = .ok (.getfield 254, 3) := by decide +kernel
theorem d_Mo_text_307 : decode m_Mo_text.2.1 307 = .ok (.ireturn, 1) := by decide +kernel
theorem d_Mo_token_0 : decode m_Mo_token.2.1 0 = .ok (.aload_n 0, 1) := by decide +kernel
theorem d_Mo_token_1 : decode m_Mo_token.2.1 1 = .ok (.invokevirtual 172, 3) := by decide +kernel
theorem d_Mo_token_4 : decode m_Mo_token.2.1 4 = .ok (.bipush 10, 2) := by decide +kernel
theorem d_Mo_token_6 : decode m_Mo_token.2.1 6 = .ok (.if_icmp .eq 12, 3) := by decide +kernel
theorem d_Mo_token_9 : decode m_Mo_token.2.1 9 = .ok (.aload_n 0, 1) := by decide +kernel
theorem d_Mo_token_10 : decode m_Mo_token.2.1 10 = .ok (.invokevirtual 172, 3) := by decide +kernel
theorem d_Mo_token_13 : decode m_Mo_token.2.1 13 = .ok (.bipush 32, 2) := by decide +kernel
theorem d_Mo_token_15 : decode m_Mo_token.2.1 15 = .ok (.if_icmp .ne 16, 3) := by decide +kernel
theorem d_Mo_token_18 : decode m_Mo_token.2.1 18 = .ok (.aload_n 0, 1) := by decide +kernel
theorem d_Mo_token_19 : decode m_Mo_token.2.1 19 = .ok (.dup, 1) := by decide +kernel
theorem d_Mo_token_20 : decode m_Mo_token.2.1 20 = .ok (.getfield 166, 3) := by decide +kernel
theorem d_Mo_token_23 : decode m_Mo_token.2.1 23 = .ok (.iconst 1, 1) := by decide +kernel
theorem d_Mo_token_24 : decode m_Mo_token.2.1 24 = .ok (.iadd, 1) := by decide +kernel
theorem d_Mo_token_25 : decode m_Mo_token.2.1 25 = .ok (.putfield 166, 3) := by decide +kernel
theorem d_Mo_token_28 : decode m_Mo_token.2.1 28 = .ok (.goto (-28), 3) := by decide +kernel
theorem d_Mo_token_31 : decode m_Mo_token.2.1 31 = .ok (.aload_n 0, 1) := by decide +kernel
theorem d_Mo_token_32 : decode m_Mo_token.2.1 32 = .ok (.aload_n 0, 1) := by decide +kernel
theorem d_Mo_token_33 : decode m_Mo_token.2.1 33 = .ok (.getfield 166, 3) := by decide +kernel
theorem d_Mo_token_36 : decode m_Mo_token.2.1 36 = .ok (.putfield 176, 3) := by decide +kernel
theorem d_Mo_token_39 : decode m_Mo_token.2.1 39 = .ok (.aload_n 0, 1) := by decide +kernel
theorem d_Mo_token_40 : decode m_Mo_token.2.1 40 = .ok (.invokevirtual 172, 3) := by decide +kernel
theorem d_Mo_token_43 : decode m_Mo_token.2.1 43 = .ok (.istore_n 1, 1) := by decide +kernel
theorem d_Mo_token_44 : decode m_Mo_token.2.1 44 = .ok (.iload_n 1, 1) := by decide +kernel
theorem d_Mo_token_45 : decode m_Mo_token.2.1 45 = .ok (.iconst (-1), 1) := by decide +kernel
theorem d_Mo_token_46 : decode m_Mo_token.2.1 46 = .ok (.if_icmp .ne 11, 3) := by decide +kernel
theorem d_Mo_token_49 : decode m_Mo_token.2.1 49 = .ok (.aload_n 0, 1) := by decide +kernel
theorem d_Mo_token_50 : decode m_Mo_token.2.1 50 = .ok (.iconst 4, 1) := by decide +kernel
theorem d_Mo_token_51 : decode m_Mo_token.2.1 51 = .ok (.putfield 179, 3) := by decide +kernel
theorem d_Mo_token_54 : decode m_Mo_token.2.1 54 = .ok (.goto 171, 3) := by decide +kernel
theorem d_Mo_token_57 : decode m_Mo_token.2.1 57 = .ok (.iload_n 1, 1) := by decide +kernel
theorem d_Mo_token_58 : decode m_Mo_token.2.1 58 = .ok (.invokestatic 182, 3) := by decide +kernel
theorem d_Mo_token_61 : decode m_Mo_token.2.1 61 = .ok (.ifCond .eq 84, 3) := by decide +kernel
theorem d_Mo_token_64 : decode m_Mo_token.2.1 64 = .ok (.aload_n 0, 1) := by decide +kernel
theorem d_Mo_token_65 : decode m_Mo_token.2.1 65 = .ok (.invokevirtual 172, 3) := by decide +kernel
theorem d_Mo_token_68 : decode m_Mo_token.2.1 68 = .ok (.invokestatic 182, 3) := by decide +kernel
theorem d_Mo_token_71 : decode m_Mo_token.2.1 71 = .ok (.ifCond .eq 16, 3) := by decide +kernel
theorem d_Mo_token_74 : decode m_Mo_token.2.1 74 = .ok (.aload_n 0, 1) := by decide +kernel
theorem d_Mo_token_75 : decode m_Mo_token.2.1 75 = .ok (.dup, 1) := by decide +kernel
theorem d_Mo_token_76 : decode m_Mo_token.2.1 76 = .ok (.getfield 166, 3) := by decide +kernel
theorem d_Mo_token_79 : decode m_Mo_token.2.1 79 = .ok (.iconst 1, 1) := by decide +kernel
theorem d_Mo_token_80 : decode m_Mo_token.2.1 80 = .ok (.iadd, 1) := by decide +kernel
theorem d_Mo_token_81 : decode m_Mo_token.2.1 81 = .ok (.putfield 166, 3) := by decide +kernel
theorem d_Mo_token_84 : decode m_Mo_token.2.1 84 = .ok (.goto (-20), 3) := by decide +kernel
theorem d_Mo_token_87 : decode m_Mo_token.2.1 87 = .ok (.aload_n 0, 1) := by decide +kernel
theorem d_Mo_token_88 : decode m_Mo_token.2.1 88 = .ok (.aload_n 0, 1) := by decide +kernel
theorem d_Mo_token_89 : decode m_Mo_token.2.1 89 = .ok (.invokevirtual 186, 3) := by decide +kernel
theorem d_Mo_token_92 : decode m_Mo_token.2.1 92 = .ok (.putfield 189, 3) := by decide +kernel
theorem d_Mo_token_95 : decode m_Mo_token.2.1 95 = .ok (.aload_n 0, 1) := by decide +kernel
theorem d_Mo_token_96 : decode m_Mo_token.2.1 96 = .ok (.aload_n 0, 1) := by decide +kernel
theorem d_Mo_token_97 : decode m_Mo_token.2.1 97 = .ok (.getfield 189, 3) := by decide +kernel
theorem d_Mo_token_100 : decode m_Mo_token.2.1 100 = .ok (.iconst (-1), 1) := by decide +kernel
theorem d_Mo_token_101 : decode m_Mo_token.2.1 101 = .ok (.if_icmp .eq 7, 3) := by decide +kernel
theorem d_Mo_token_104 : decode m_Mo_token.2.1 104 = .ok (.iconst 0, 1) := by decide +kernel
theorem d_Mo_token_105 : decode m_Mo_token.2.1 105 = .ok (.goto 22, 3) := by decide +kernel
theorem d_Mo_token_108 : decode m_Mo_token.2.1 108 = .ok (.aload_n 0, 1) := by decide +kernel
theorem d_Mo_token_109 : decode m_Mo_token.2.1 109 = .ok (.getfield 166, 3) := by decide +kernel
theorem d_Mo_token_112 : decode m_Mo_token.2.1 112 = .ok (.aload_n 0, 1) := by decide +kernel
theorem d_Mo_token_113 : decode m_Mo_token.2.1 113 = .ok (.getfield 176, 3) := by decide +kernel
theorem d_Mo_token_116 : decode m_Mo_token.2.1 116 = .ok (.isub, 1) := by decide +kernel
theorem d_Mo_token_117 : decode m_Mo_token.2.1 117 = .ok (.bipush 6, 2) := by decide +kernel
theorem d_Mo_token_119 : decode m_Mo_token.2.1 119 = .ok (.if_icmp .le 7, 3) := by decide +kernel
theorem d_Mo_token_122 : decode m_Mo_token.2.1 122 = .ok (.iconst 5, 1) := by decide +kernel
theorem d_Mo_token_123 : decode m_Mo_token.2.1 123 = .ok (.goto 4, 3) := by decide +kernel
theorem d_Mo_token_126 : decode m_Mo_token.2.1 126 = .ok (.iconst 1, 1) := by decide +kernel
theorem d_Mo_token_127 : decode m_Mo_token.2.1 127 = .ok (.putfield 179, 3) := by decide +kernel
theorem d_Mo_token_130 : decode m_Mo_token.2.1 130 = .ok (.aload_n 0, 1) := by decide +kernel
theorem d_Mo_token_131 : decode m_Mo_token.2.1 131 = .ok (.getfield 179, 3) := by decide +kernel
theorem d_Mo_token_134 : decode m_Mo_token.2.1 134 = .ok (.iconst 1, 1) := by decide +kernel
theorem d_Mo_token_135 : decode m_Mo_token.2.1 135 = .ok (.if_icmp .ne 90, 3) := by decide +kernel
theorem d_Mo_token_138 : decode m_Mo_token.2.1 138 = .ok (.aload_n 0, 1) := by decide +kernel
theorem d_Mo_token_139 : decode m_Mo_token.2.1 139 = .ok (.invokevirtual 192, 3) := by decide +kernel
theorem d_Mo_token_142 : decode m_Mo_token.2.1 142 = .ok (.goto 83, 3) := by decide +kernel
theorem d_Mo_token_145 : decode m_Mo_token.2.1 145 = .ok (.iload_n 1, 1) := by decide +kernel
theorem d_Mo_token_146 : decode m_Mo_token.2.1 146 = .ok (.invokestatic 195, 3) := by decide +kernel
theorem d_Mo_token_149 : decode m_Mo_token.2.1 149 = .ok (.ifCond .eq 71, 3) := by decide +kernel
theorem d_Mo_token_152 : decode m_Mo_token.2.1 152 = .ok (.aload_n 0, 1) := by decide +kernel
theorem d_Mo_token_153 : decode m_Mo_token.2.1 153 = .ok (.iconst 2, 1) := by decide +kernel
theorem d_Mo_token_154 : decode m_Mo_token.2.1 154 = .ok (.putfield 179, 3) := by decide +kernel
theorem d_Mo_token_157 : decode m_Mo_token.2.1 157 = .ok (.aload_n 0, 1) := by decide +kernel
theorem d_Mo_token_158 : decode m_Mo_token.2.1 158 = .ok (.iconst 0, 1) := by decide +kernel
theorem d_Mo_token_159 : decode m_Mo_token.2.1 159 = .ok (.putfield 189, 3) := by decide +kernel
theorem d_Mo_token_162 : decode m_Mo_token.2.1 162 = .ok (.aload_n 0, 1) := by decide +kernel
theorem d_Mo_token_163 : decode m_Mo_token.2.1 163 = .ok (.invokevirtual 172, 3) := by decide +kernel
theorem d_Mo_token_166 : decode m_Mo_token.2.1 166 = .ok (.invokestatic 195, 3) := by decide +kernel
theorem d_Mo_token_169 : decode m_Mo_token.2.1 169 = .ok (.ifCond .eq 56, 3) := by decide +kernel
theorem d_Mo_token_172 : decode m_Mo_token.2.1 172 = .ok (.aload_n 0, 1) := by decide +kernel
theorem d_Mo_token_173 : decode m_Mo_token.2.1 173 = .ok (.aload_n 0, 1) := by decide +kernel
theorem d_Mo_token_174 : decode m_Mo_token.2.1 174 = .ok (.getfield 189, 3) := by decide +kernel
theorem d_Mo_token_177 : decode m_Mo_token.2.1 177 = .ok (.ldc 198, 2) := by decide +kernel
theorem d_Mo_token_179 : decode m_Mo_token.2.1 179 = .ok (.if_icmp .le 10, 3) := by decide +kernel
theorem d_Mo_token_182 : decode m_Mo_token.2.1 182 = .ok (.aload_n 0, 1) := by decide +kernel
theorem d_Mo_token_183 : decode m_Mo_token.2.1 183 = .ok (.getfield 189, 3) := by decide +kernel
theorem d_Mo_token_186 : decode m_Mo_token.2.1 186 = .ok (.goto 18, 3) := by decide +kernel
theorem d_Mo_token_189 : decode m_Mo_token.2.1 189 = .ok (.bipush 10, 2) := by decide +kernel
theorem d_Mo_token_191 : decode m_Mo_token.2.1 191 = .ok (.aload_n 0, 1) := by decide +kernel
theorem d_Mo_token_192 : decode m_Mo_token.2.1 192 = .ok (.getfield 189, 3) := by decide +kernel
theorem d_Mo_token_195 : decode m_Mo_token.2.1 195 = .ok (.imul, 1) := by decide +kernel
theorem d_Mo_token_196 : decode m_Mo_token.2.1 196 = .ok (.aload_n 0, 1) := by decide +kernel
theorem d_Mo_token_197 : decode m_Mo_token.2.1 197 = .ok (.invokevirtual 172, 3) := by decide +kernel
theorem d_Mo_token_200 : decode m_Mo_token.2.1 200 = .ok (.iadd, 1) := by decide +kernel
theorem d_Mo_token_201 : decode m_Mo_token.2.1 201 = .ok (.bipush 48, 2) := by decide +kernel
theorem d_Mo_token_203 : decode m_Mo_token.2.1 203 = .ok (.isub, 1) := by decide +kernel
theorem d_Mo_token_204 : decode m_Mo_token.2.1 204 = .ok (.putfield 189, 3) := by decide +kernel
theorem d_Mo_token_207 : decode m_Mo_token.2.1 207 = .ok (.aload_n 0, 1) := by decide +kernel
theorem d_Mo_token_208 : decode m_Mo_token.2.1 208 = .ok (.dup, 1) := by decide +kernel
theorem d_Mo_token_209 : decode m_Mo_token.2.1 209 = .ok (.getfield 166, 3) := by decide +kernel
theorem d_Mo_token_212 : decode m_Mo_token.2.1 212 = .ok (.iconst 1, 1) := by decide +kernel
theorem d_Mo_token_213 : decode m_Mo_token.2.1 213 = .ok (.iadd, 1) := by decide +kernel
theorem d_Mo_token_214 : decode m_Mo_token.2.1 214 = .ok (.putfield 166, 3) := by decide +kernel
theorem d_Mo_token_217 : decode m_Mo_token.2.1 217 = .ok (.goto (-55), 3) := by decide +kernel
theorem d_Mo_token_220 : decode m_Mo_token.2.1 220 = .ok (.aload_n 0, 1) := by decide +kernel
theorem d_Mo_token_221 : decode m_Mo_token.2.1 221 = .ok (.iload_n 1, 1) := by decide +kernel
theorem d_Mo_token_222 : decode m_Mo_token.2.1 222 = .ok (.invokevirtual 199, 3) := by decide +kernel
theorem d_Mo_token_225 : decode m_Mo_token.2.1 225 = .ok (.return_, 1) := by decide +kernel
theorem d_Mo_here_0 : decode m_Mo_here.2.1 0 = .ok (.aload_n 0, 1) := by decide +kernel
theorem d_Mo_here_1 : decode m_Mo_here.2.1 1 = .ok (.getfield 166, 3) := by decide +kernel
theorem d_Mo_here_4 : decode m_Mo_here.2.1 4 = .ok (.aload_n 0, 1) := by decide +kernel
theorem d_Mo_here_5 : decode m_Mo_here.2.1 5 = .ok (.getfield 169, 3) := by decide +kernel
theorem d_Mo_here_8 : decode m_Mo_here.2.1 8 = .ok (.if_icmp .ge 15, 3) := by decide +kernel
theorem d_Mo_here_11 : decode m_Mo_here.2.1 11 = .ok (.aload_n 0, 1) := by decide +kernel
theorem d_Mo_here_12 : decode m_Mo_here.2.1 12 = .ok (.getfield 7, 3) := by decide +kernel
theorem d_Mo_here_15 : decode m_Mo_here.2.1 15 = .ok (.aload_n 0, 1) := by decide +kernel
theorem d_Mo_here_16 : decode m_Mo_here.2.1 16 = .ok (.getfield 166, 3) := by decide +kernel
theorem d_Mo_here_19 : decode m_Mo_here.2.1 19 = .ok (.iaload, 1) := by decide +kernel
theorem d_Mo_here_20 : decode m_Mo_here.2.1 20 = .ok (.goto 4, 3) := by decide +kernel
theorem d_Mo_here_23 : decode m_Mo_here.2.1 23 = .ok (.iconst (-1), 1) := by decide +kernel
theorem d_Mo_here_24 : decode m_Mo_here.2.1 24 = .ok (.ireturn, 1) := by decide +kernel
theorem d_Mo_isSmall_0 : decode m_Mo_isSmall.2.1 0 = .ok (.iload_n 0, 1) := by decide +kernel
theorem d_Mo_isSmall_1 : decode m_Mo_isSmall.2.1 1 = .ok (.bipush 97, 2) := by decide +kernel
theorem d_Mo_isSmall_3 : decode m_Mo_isSmall.2.1 3 = .ok (.if_icmp .lt 13, 3) := by decide +kernel
theorem d_Mo_isSmall_6 : decode m_Mo_isSmall.2.1 6 = .ok (.iload_n 0, 1) := by decide +kernel
theorem d_Mo_isSmall_7 : decode m_Mo_isSmall.2.1 7 = .ok (.bipush 122, 2) := by decide +kernel
theorem d_Mo_isSmall_9 : decode m_Mo_isSmall.2.1 9 = .ok (.if_icmp .gt 7, 3) := by decide +kernel
theorem d_Mo_isSmall_12 : decode m_Mo_isSmall.2.1 12 = .ok (.iconst 1, 1) := by decide +kernel
theorem d_Mo_isSmall_13 : decode m_Mo_isSmall.2.1 13 = .ok (.goto 4, 3) := by decide +kernel
theorem d_Mo_isSmall_16 : decode m_Mo_isSmall.2.1 16 = .ok (.iconst 0, 1) := by decide +kernel
theorem d_Mo_isSmall_17 : decode m_Mo_isSmall.2.1 17 = .ok (.ireturn, 1) := by decide +kernel
theorem d_Mo_word_0 : decode m_Mo_word.2.1 0 = .ok (.iconst 0, 1) := by decide +kernel
theorem d_Mo_word_1 : decode m_Mo_word.2.1 1 = .ok (.istore_n 1, 1) := by decide +kernel
theorem d_Mo_word_2 : decode m_Mo_word.2.1 2 = .ok (.iconst 0, 1) := by decide +kernel
theorem d_Mo_word_3 : decode m_Mo_word.2.1 3 = .ok (.istore_n 2, 1) := by decide +kernel
theorem d_Mo_word_4 : decode m_Mo_word.2.1 4 = .ok (.iload_n 2, 1) := by decide +kernel
theorem d_Mo_word_5 : decode m_Mo_word.2.1 5 = .ok (.ldc 203, 2) := by decide +kernel
theorem d_Mo_word_7 : decode m_Mo_word.2.1 7 = .ok (.invokevirtual 205, 3) := by decide +kernel
theorem d_Mo_word_10 : decode m_Mo_word.2.1 10 = .ok (.if_icmp .ge 113, 3) := by decide +kernel
theorem d_Mo_word_13 : decode m_Mo_word.2.1 13 = .ok (.iconst 0, 1) := by decide +kernel
theorem d_Mo_word_14 : decode m_Mo_word.2.1 14 = .ok (.istore_n 3, 1) := by decide +kernel
theorem d_Mo_word_15 : decode m_Mo_word.2.1 15 = .ok (.ldc 203, 2) := by decide +kernel
theorem d_Mo_word_17 : decode m_Mo_word.2.1 17 = .ok (.iload_n 2, 1) := by decide +kernel
theorem d_Mo_word_18 : decode m_Mo_word.2.1 18 = .ok (.iload_n 3, 1) := by decide +kernel
theorem d_Mo_word_19 : decode m_Mo_word.2.1 19 = .ok (.iadd, 1) := by decide +kernel
theorem d_Mo_word_20 : decode m_Mo_word.2.1 20 = .ok (.invokevirtual 210, 3) := by decide +kernel
theorem d_Mo_word_23 : decode m_Mo_word.2.1 23 = .ok (.bipush 32, 2) := by decide +kernel
theorem d_Mo_word_25 : decode m_Mo_word.2.1 25 = .ok (.if_icmp .eq 44, 3) := by decide +kernel
theorem d_Mo_word_28 : decode m_Mo_word.2.1 28 = .ok (.aload_n 0, 1) := by decide +kernel
theorem d_Mo_word_29 : decode m_Mo_word.2.1 29 = .ok (.getfield 176, 3) := by decide +kernel
theorem d_Mo_word_32 : decode m_Mo_word.2.1 32 = .ok (.iload_n 3, 1) := by decide +kernel
theorem d_Mo_word_33 : decode m_Mo_word.2.1 33 = .ok (.iadd, 1) := by decide +kernel
theorem d_Mo_word_34 : decode m_Mo_word.2.1 34 = .ok (.aload_n 0, 1) := by decide +kernel
theorem d_Mo_word_35 : decode m_Mo_word.2.1 35 = .ok (.getfield 166, 3) := by decide +kernel
theorem d_Mo_word_38 : decode m_Mo_word.2.1 38 = .ok (.if_icmp .ge 31, 3) := by decide +kernel
theorem d_Mo_word_41 : decode m_Mo_word.2.1 41 = .ok (.aload_n 0, 1) := by decide +kernel
theorem d_Mo_word_42 : decode m_Mo_word.2.1 42 = .ok (.getfield 7, 3) := by decide +kernel
theorem d_Mo_word_45 : decode m_Mo_word.2.1 45 = .ok (.aload_n 0, 1) := by decide +kernel
theorem d_Mo_word_46 : decode m_Mo_word.2.1 46 = .ok (.getfield 176, 3) := by decide +kernel
theorem d_Mo_word_49 : decode m_Mo_word.2.1 49 = .ok (.iload_n 3, 1) := by decide +kernel
theorem d_Mo_word_50 : decode m_Mo_word.2.1 50 = .ok (.iadd, 1) := by decide +kernel
theorem d_Mo_word_51 : decode m_Mo_word.2.1 51 = .ok (.iaload, 1) := by decide +kernel
theorem d_Mo_word_52 : decode m_Mo_word.2.1 52 = .ok (.ldc 203, 2) := by decide +kernel
theorem d_Mo_word_54 : decode m_Mo_word.2.1 54 = .ok (.iload_n 2, 1) := by decide +kernel
theorem d_Mo_word_55 : decode m_Mo_word.2.1 55 = .ok (.iload_n 3, 1) := by decide +kernel
theorem d_Mo_word_56 : decode m_Mo_word.2.1 56 = .ok (.iadd, 1) := by decide +kernel
theorem d_Mo_word_57 : decode m_Mo_word.2.1 57 = .ok (.invokevirtual 210, 3) := by decide +kernel
theorem d_Mo_word_60 : decode m_Mo_word.2.1 60 = .ok (.if_icmp .ne 9, 3) := by decide +kernel
theorem d_Mo_word_63 : decode m_Mo_word.2.1 63 = .ok (.iinc 3 1, 3) := by decide +kernel
theorem d_Mo_word_66 : decode m_Mo_word.2.1 66 = .ok (.goto (-51), 3) := by decide +kernel
theorem d_Mo_word_69 : decode m_Mo_word.2.1 69 = .ok (.ldc 203, 2) := by decide +kernel
theorem d_Mo_word_71 : decode m_Mo_word.2.1 71 = .ok (.iload_n 2, 1) := by decide +kernel
theorem d_Mo_word_72 : decode m_Mo_word.2.1 72 = .ok (.iload_n 3, 1) := by decide +kernel
theorem d_Mo_word_73 : decode m_Mo_word.2.1 73 = .ok (.iadd, 1) := by decide +kernel
theorem d_Mo_word_74 : decode m_Mo_word.2.1 74 = .ok (.invokevirtual 210, 3) := by decide +kernel
theorem d_Mo_word_77 : decode m_Mo_word.2.1 77 = .ok (.bipush 32, 2) := by decide +kernel
theorem d_Mo_word_79 : decode m_Mo_word.2.1 79 = .ok (.if_icmp .ne 18, 3) := by decide +kernel
theorem d_Mo_word_82 : decode m_Mo_word.2.1 82 = .ok (.aload_n 0, 1) := by decide +kernel
theorem d_Mo_word_83 : decode m_Mo_word.2.1 83 = .ok (.getfield 176, 3) := by decide +kernel
theorem d_Mo_word_86 : decode m_Mo_word.2.1 86 = .ok (.iload_n 3, 1) := by decide +kernel
theorem d_Mo_word_87 : decode m_Mo_word.2.1 87 = .ok (.iadd, 1) := by decide +kernel
theorem d_Mo_word_88 : decode m_Mo_word.2.1 88 = .ok (.aload_n 0, 1) := by decide +kernel
theorem d_Mo_word_89 : decode m_Mo_word.2.1 89 = .ok (.getfield 166, 3) := by decide +kernel
theorem d_Mo_word_92 : decode m_Mo_word.2.1 92 = .ok (.if_icmp .ne 5, 3) := by decide +kernel
theorem d_Mo_word_95 : decode m_Mo_word.2.1 95 = .ok (.iload_n 1, 1) := by decide +kernel
theorem d_Mo_word_96 : decode m_Mo_word.2.1 96 = .ok (.ireturn, 1) := by decide +kernel
theorem d_Mo_word_97 : decode m_Mo_word.2.1 97 = .ok (.ldc 203, 2) := by decide +kernel
theorem d_Mo_word_99 : decode m_Mo_word.2.1 99 = .ok (.iload_n 2, 1) := by decide +kernel
theorem d_Mo_word_100 : decode m_Mo_word.2.1 100 = .ok (.invokevirtual 210, 3) := by decide +kernel
theorem d_Mo_word_103 : decode m_Mo_word.2.1 103 = .ok (.bipush 32, 2) := by decide +kernel
theorem d_Mo_word_105 : decode m_Mo_word.2.1 105 = .ok (.if_icmp .eq 9, 3) := by decide +kernel
theorem d_Mo_word_108 : decode m_Mo_word.2.1 108 = .ok (.iinc 2 1, 3) := by decide +kernel
theorem d_Mo_word_111 : decode m_Mo_word.2.1 111 = .ok (.goto (-14), 3) := by decide +kernel
theorem d_Mo_word_114 : decode m_Mo_word.2.1 114 = .ok (.iinc 2 1, 3) := by decide +kernel
theorem d_Mo_word_117 : decode m_Mo_word.2.1 117 = .ok (.iinc 1 1, 3) := by decide +kernel
theorem d_Mo_word_120 : decode m_Mo_word.2.1 120 = .ok (.goto (-116), 3) := by decide +kernel
theorem d_Mo_word_123 : decode m_Mo_word.2.1 123 = .ok (.iconst (-1), 1) := by decide +kernel
theorem d_Mo_word_124 : decode m_Mo_word.2.1 124 = .ok (.ireturn, 1) := by decide +kernel
theorem d_Mo_name_0 : decode m_Mo_name.2.1 0 = .ok (.aload_n 0, 1) := by decide +kernel
theorem d_Mo_name_1 : decode m_Mo_name.2.1 1 = .ok (.iconst 0, 1) := by decide +kernel
theorem d_Mo_name_2 : decode m_Mo_name.2.1 2 = .ok (.putfield 189, 3) := by decide +kernel
theorem d_Mo_name_5 : decode m_Mo_name.2.1 5 = .ok (.iconst 0, 1) := by decide +kernel
theorem d_Mo_name_6 : decode m_Mo_name.2.1 6 = .ok (.istore_n 1, 1) := by decide +kernel
theorem d_Mo_name_7 : decode m_Mo_name.2.1 7 = .ok (.iload_n 1, 1) := by decide +kernel
theorem d_Mo_name_8 : decode m_Mo_name.2.1 8 = .ok (.bipush 6, 2) := by decide +kernel
theorem d_Mo_name_10 : decode m_Mo_name.2.1 10 = .ok (.if_icmp .ge 53, 3) := by decide +kernel
theorem d_Mo_name_13 : decode m_Mo_name.2.1 13 = .ok (.aload_n 0, 1) := by decide +kernel
theorem d_Mo_name_14 : decode m_Mo_name.2.1 14 = .ok (.aload_n 0, 1) := by decide +kernel
theorem d_Mo_name_15 : decode m_Mo_name.2.1 15 = .ok (.getfield 189, 3) := by decide +kernel
theorem d_Mo_name_18 : decode m_Mo_name.2.1 18 = .ok (.iconst 5, 1) := by decide +kernel
theorem d_Mo_name_19 : decode m_Mo_name.2.1 19 = .ok (.ishl, 1) := by decide +kernel
theorem d_Mo_name_20 : decode m_Mo_name.2.1 20 = .ok (.aload_n 0, 1) := by decide +kernel
theorem d_Mo_name_21 : decode m_Mo_name.2.1 21 = .ok (.getfield 176, 3) := by decide +kernel
theorem d_Mo_name_24 : decode m_Mo_name.2.1 24 = .ok (.iload_n 1, 1) := by decide +kernel
theorem d_Mo_name_25 : decode m_Mo_name.2.1 25 = .ok (.iadd, 1) := by decide +kernel
theorem d_Mo_name_26 : decode m_Mo_name.2.1 26 = .ok (.aload_n 0, 1) := by decide +kernel
theorem d_Mo_name_27 : decode m_Mo_name.2.1 27 = .ok (.getfield 166, 3) := by decide +kernel
theorem d_Mo_name_30 : decode m_Mo_name.2.1 30 = .ok (.if_icmp .ge 22, 3) := by decide +kernel
theorem d_Mo_name_33 : decode m_Mo_name.2.1 33 = .ok (.aload_n 0, 1) := by decide +kernel
theorem d_Mo_name_34 : decode m_Mo_name.2.1 34 = .ok (.getfield 7, 3) := by decide +kernel
theorem d_Mo_name_37 : decode m_Mo_name.2.1 37 = .ok (.aload_n 0, 1) := by decide +kernel
theorem d_Mo_name_38 : decode m_Mo_name.2.1 38 = .ok (.getfield 176, 3) := by decide +kernel
theorem d_Mo_name_41 : decode m_Mo_name.2.1 41 = .ok (.iload_n 1, 1) := by decide +kernel
theorem d_Mo_name_42 : decode m_Mo_name.2.1 42 = .ok (.iadd, 1) := by decide +kernel
theorem d_Mo_name_43 : decode m_Mo_name.2.1 43 = .ok (.iaload, 1) := by decide +kernel
theorem d_Mo_name_44 : decode m_Mo_name.2.1 44 = .ok (.bipush 97, 2) := by decide +kernel
theorem d_Mo_name_46 : decode m_Mo_name.2.1 46 = .ok (.isub, 1) := by decide +kernel
theorem d_Mo_name_47 : decode m_Mo_name.2.1 47 = .ok (.iconst 1, 1) := by decide +kernel
theorem d_Mo_name_48 : decode m_Mo_name.2.1 48 = .ok (.iadd, 1) := by decide +kernel
theorem d_Mo_name_49 : decode m_Mo_name.2.1 49 = .ok (.goto 4, 3) := by decide +kernel
theorem d_Mo_name_52 : decode m_Mo_name.2.1 52 = .ok (.iconst 0, 1) := by decide +kernel
theorem d_Mo_name_53 : decode m_Mo_name.2.1 53 = .ok (.ior, 1) := by decide +kernel
theorem d_Mo_name_54 : decode m_Mo_name.2.1 54 = .ok (.putfield 189, 3) := by decide +kernel
theorem d_Mo_name_57 : decode m_Mo_name.2.1 57 = .ok (.iinc 1 1, 3) := by decide +kernel
theorem d_Mo_name_60 : decode m_Mo_name.2.1 60 = .ok (.goto (-53), 3) := by decide +kernel
theorem d_Mo_name_63 : decode m_Mo_name.2.1 63 = .ok (.return_, 1) := by decide +kernel
theorem d_Mo_isDigit_0 : decode m_Mo_isDigit.2.1 0 = .ok (.iload_n 0, 1) := by decide +kernel
theorem d_Mo_isDigit_1 : decode m_Mo_isDigit.2.1 1 = .ok (.bipush 48, 2) := by decide +kernel
theorem d_Mo_isDigit_3 : decode m_Mo_isDigit.2.1 3 = .ok (.if_icmp .lt 13, 3) := by decide +kernel
theorem d_Mo_isDigit_6 : decode m_Mo_isDigit.2.1 6 = .ok (.iload_n 0, 1) := by decide +kernel
theorem d_Mo_isDigit_7 : decode m_Mo_isDigit.2.1 7 = .ok (.bipush 57, 2) := by decide +kernel
theorem d_Mo_isDigit_9 : decode m_Mo_isDigit.2.1 9 = .ok (.if_icmp .gt 7, 3) := by decide +kernel
theorem d_Mo_isDigit_12 : decode m_Mo_isDigit.2.1 12 = .ok (.iconst 1, 1) := by decide +kernel
theorem d_Mo_isDigit_13 : decode m_Mo_isDigit.2.1 13 = .ok (.goto 4, 3) := by decide +kernel
theorem d_Mo_isDigit_16 : decode m_Mo_isDigit.2.1 16 = .ok (.iconst 0, 1) := by decide +kernel
theorem d_Mo_isDigit_17 : decode m_Mo_isDigit.2.1 17 = .ok (.ireturn, 1) := by decide +kernel
theorem d_Mo_sign_0 : decode m_Mo_sign.2.1 0 = .ok (.aload_n 0, 1) := by decide +kernel
theorem d_Mo_sign_1 : decode m_Mo_sign.2.1 1 = .ok (.dup, 1) := by decide +kernel
theorem d_Mo_sign_2 : decode m_Mo_sign.2.1 2 = .ok (.getfield 166, 3) := by decide +kernel
theorem d_Mo_sign_5 : decode m_Mo_sign.2.1 5 = .ok (.iconst 1, 1) := by decide +kernel
theorem d_Mo_sign_6 : decode m_Mo_sign.2.1 6 = .ok (.iadd, 1) := by decide +kernel
theorem d_Mo_sign_7 : decode m_Mo_sign.2.1 7 = .ok (.putfield 166, 3) := by decide +kernel
theorem d_Mo_sign_10 : decode m_Mo_sign.2.1 10 = .ok (.aload_n 0, 1) := by decide +kernel
theorem d_Mo_sign_11 : decode m_Mo_sign.2.1 11 = .ok (.iload_n 1, 1) := by decide +kernel
theorem d_Mo_sign_12 : decode m_Mo_sign.2.1 12 = .ok (.bipush 59, 2) := by decide +kernel
theorem d_Mo_sign_14 : decode m_Mo_sign.2.1 14 = .ok (.if_icmp .eq 57, 3) := by decide +kernel
theorem d_Mo_sign_17 : decode m_Mo_sign.2.1 17 = .ok (.iload_n 1, 1) := by decide +kernel
theorem d_Mo_sign_18 : decode m_Mo_sign.2.1 18 = .ok (.bipush 40, 2) := by decide +kernel
theorem d_Mo_sign_20 : decode m_Mo_sign.2.1 20 = .ok (.if_icmp .eq 51, 3) := by decide +kernel
theorem d_Mo_sign_23 : decode m_Mo_sign.2.1 23 = .ok (.iload_n 1, 1) := by decide +kernel
theorem d_Mo_sign_24 : decode m_Mo_sign.2.1 24 = .ok (.bipush 41, 2) := by decide +kernel
theorem d_Mo_sign_26 : decode m_Mo_sign.2.1 26 = .ok (.if_icmp .eq 45, 3) := by decide +kernel
theorem d_Mo_sign_29 : decode m_Mo_sign.2.1 29 = .ok (.iload_n 1, 1) := by decide +kernel
theorem d_Mo_sign_30 : decode m_Mo_sign.2.1 30 = .ok (.bipush 43, 2) := by decide +kernel
theorem d_Mo_sign_32 : decode m_Mo_sign.2.1 32 = .ok (.if_icmp .eq 39, 3) := by decide +kernel
theorem d_Mo_sign_35 : decode m_Mo_sign.2.1 35 = .ok (.iload_n 1, 1) := by decide +kernel
theorem d_Mo_sign_36 : decode m_Mo_sign.2.1 36 = .ok (.bipush 45, 2) := by decide +kernel
theorem d_Mo_sign_38 : decode m_Mo_sign.2.1 38 = .ok (.if_icmp .eq 33, 3) := by decide +kernel
theorem d_Mo_sign_41 : decode m_Mo_sign.2.1 41 = .ok (.iload_n 1, 1) := by decide +kernel
theorem d_Mo_sign_42 : decode m_Mo_sign.2.1 42 = .ok (.bipush 42, 2) := by decide +kernel
theorem d_Mo_sign_44 : decode m_Mo_sign.2.1 44 = .ok (.if_icmp .eq 27, 3) := by decide +kernel
theorem d_Mo_sign_47 : decode m_Mo_sign.2.1 47 = .ok (.iload_n 1, 1) := by decide +kernel
theorem d_Mo_sign_48 : decode m_Mo_sign.2.1 48 = .ok (.bipush 47, 2) := by decide +kernel
theorem d_Mo_sign_50 : decode m_Mo_sign.2.1 50 = .ok (.if_icmp .eq 21, 3) := by decide +kernel
theorem d_Mo_sign_53 : decode m_Mo_sign.2.1 53 = .ok (.iload_n 1, 1) := by decide +kernel
theorem d_Mo_sign_54 : decode m_Mo_sign.2.1 54 = .ok (.bipush 60, 2) := by decide +kernel
theorem d_Mo_sign_56 : decode m_Mo_sign.2.1 56 = .ok (.if_icmp .eq 15, 3) := by decide +kernel
theorem d_Mo_sign_59 : decode m_Mo_sign.2.1 59 = .ok (.iload_n 1, 1) := by decide +kernel
theorem d_Mo_sign_60 : decode m_Mo_sign.2.1 60 = .ok (.bipush 61, 2) := by decide +kernel
theorem d_Mo_sign_62 : decode m_Mo_sign.2.1 62 = .ok (.if_icmp .eq 9, 3) := by decide +kernel
theorem d_Mo_sign_65 : decode m_Mo_sign.2.1 65 = .ok (.iload_n 1, 1) := by decide +kernel
theorem d_Mo_sign_66 : decode m_Mo_sign.2.1 66 = .ok (.bipush 62, 2) := by decide +kernel
theorem d_Mo_sign_68 : decode m_Mo_sign.2.1 68 = .ok (.if_icmp .ne 7, 3) := by decide +kernel
theorem d_Mo_sign_71 : decode m_Mo_sign.2.1 71 = .ok (.iconst 3, 1) := by decide +kernel
theorem d_Mo_sign_72 : decode m_Mo_sign.2.1 72 = .ok (.goto 4, 3) := by decide +kernel
theorem d_Mo_sign_75 : decode m_Mo_sign.2.1 75 = .ok (.iconst 5, 1) := by decide +kernel
theorem d_Mo_sign_76 : decode m_Mo_sign.2.1 76 = .ok (.putfield 179, 3) := by decide +kernel
theorem d_Mo_sign_79 : decode m_Mo_sign.2.1 79 = .ok (.aload_n 0, 1) := by decide +kernel
theorem d_Mo_sign_80 : decode m_Mo_sign.2.1 80 = .ok (.iload_n 1, 1) := by decide +kernel
theorem d_Mo_sign_81 : decode m_Mo_sign.2.1 81 = .ok (.putfield 189, 3) := by decide +kernel
theorem d_Mo_sign_84 : decode m_Mo_sign.2.1 84 = .ok (.iload_n 1, 1) := by decide +kernel
theorem d_Mo_sign_85 : decode m_Mo_sign.2.1 85 = .ok (.bipush 60, 2) := by decide +kernel
theorem d_Mo_sign_87 : decode m_Mo_sign.2.1 87 = .ok (.if_icmp .ne 19, 3) := by decide +kernel
theorem d_Mo_sign_90 : decode m_Mo_sign.2.1 90 = .ok (.aload_n 0, 1) := by decide +kernel
theorem d_Mo_sign_91 : decode m_Mo_sign.2.1 91 = .ok (.invokevirtual 172, 3) := by decide +kernel
theorem d_Mo_sign_94 : decode m_Mo_sign.2.1 94 = .ok (.bipush 61, 2) := by decide +kernel
theorem d_Mo_sign_96 : decode m_Mo_sign.2.1 96 = .ok (.if_icmp .ne 10, 3) := by decide +kernel
theorem d_Mo_sign_99 : decode m_Mo_sign.2.1 99 = .ok (.aload_n 0, 1) := by decide +kernel
theorem d_Mo_sign_100 : decode m_Mo_sign.2.1 100 = .ok (.sipush 256, 3) := by decide +kernel
theorem d_Mo_sign_103 : decode m_Mo_sign.2.1 103 = .ok (.putfield 189, 3) := by decide +kernel
theorem d_Mo_sign_106 : decode m_Mo_sign.2.1 106 = .ok (.iload_n 1, 1) := by decide +kernel
theorem d_Mo_sign_107 : decode m_Mo_sign.2.1 107 = .ok (.bipush 60, 2) := by decide +kernel
theorem d_Mo_sign_109 : decode m_Mo_sign.2.1 109 = .ok (.if_icmp .ne 19, 3) := by decide +kernel
theorem d_Mo_sign_112 : decode m_Mo_sign.2.1 112 = .ok (.aload_n 0, 1) := by decide +kernel
theorem d_Mo_sign_113 : decode m_Mo_sign.2.1 113 = .ok (.invokevirtual 172, 3) := by decide +kernel
theorem d_Mo_sign_116 : decode m_Mo_sign.2.1 116 = .ok (.bipush 62, 2) := by decide +kernel
theorem d_Mo_sign_118 : decode m_Mo_sign.2.1 118 = .ok (.if_icmp .ne 10, 3) := by decide +kernel
theorem d_Mo_sign_121 : decode m_Mo_sign.2.1 121 = .ok (.aload_n 0, 1) := by decide +kernel
theorem d_Mo_sign_122 : decode m_Mo_sign.2.1 122 = .ok (.sipush 257, 3) := by decide +kernel
theorem d_Mo_sign_125 : decode m_Mo_sign.2.1 125 = .ok (.putfield 189, 3) := by decide +kernel
theorem d_Mo_sign_128 : decode m_Mo_sign.2.1 128 = .ok (.iload_n 1, 1) := by decide +kernel
theorem d_Mo_sign_129 : decode m_Mo_sign.2.1 129 = .ok (.bipush 62, 2) := by decide +kernel
theorem d_Mo_sign_131 : decode m_Mo_sign.2.1 131 = .ok (.if_icmp .ne 19, 3) := by decide +kernel
theorem d_Mo_sign_134 : decode m_Mo_sign.2.1 134 = .ok (.aload_n 0, 1) := by decide +kernel
theorem d_Mo_sign_135 : decode m_Mo_sign.2.1 135 = .ok (.invokevirtual 172, 3) := by decide +kernel
theorem d_Mo_sign_138 : decode m_Mo_sign.2.1 138 = .ok (.bipush 61, 2) := by decide +kernel
theorem d_Mo_sign_140 : decode m_Mo_sign.2.1 140 = .ok (.if_icmp .ne 10, 3) := by decide +kernel
theorem d_Mo_sign_143 : decode m_Mo_sign.2.1 143 = .ok (.aload_n 0, 1) := by decide +kernel
theorem d_Mo_sign_144 : decode m_Mo_sign.2.1 144 = .ok (.sipush 258, 3) := by decide +kernel
theorem d_Mo_sign_147 : decode m_Mo_sign.2.1 147 = .ok (.putfield 189, 3) := by decide +kernel
theorem d_Mo_sign_150 : decode m_Mo_sign.2.1 150 = .ok (.aload_n 0, 1) := by decide +kernel
theorem d_Mo_sign_151 : decode m_Mo_sign.2.1 151 = .ok (.getfield 189, 3) := by decide +kernel
theorem d_Mo_sign_154 : decode m_Mo_sign.2.1 154 = .ok (.sipush 256, 3) := by decide +kernel
theorem d_Mo_sign_157 : decode m_Mo_sign.2.1 157 = .ok (.if_icmp .lt 13, 3) := by decide +kernel
theorem d_Mo_sign_160 : decode m_Mo_sign.2.1 160 = .ok (.aload_n 0, 1) := by decide +kernel
theorem d_Mo_sign_161 : decode m_Mo_sign.2.1 161 = .ok (.dup, 1) := by decide +kernel
theorem d_Mo_sign_162 : decode m_Mo_sign.2.1 162 = .ok (.getfield 166, 3) := by decide +kernel
theorem d_Mo_sign_165 : decode m_Mo_sign.2.1 165 = .ok (.iconst 1, 1) := by decide +kernel
theorem d_Mo_sign_166 : decode m_Mo_sign.2.1 166 = .ok (.iadd, 1) := by decide +kernel
theorem d_Mo_sign_167 : decode m_Mo_sign.2.1 167 = .ok (.putfield 166, 3) := by decide +kernel
theorem d_Mo_sign_170 : decode m_Mo_sign.2.1 170 = .ok (.return_, 1) := by decide +kernel
theorem d_Mo_line_0 : decode m_Mo_line.2.1 0 = .ok (.aload_n 0, 1) := by decide +kernel
theorem d_Mo_line_1 : decode m_Mo_line.2.1 1 = .ok (.getfield 179, 3) := by decide +kernel
theorem d_Mo_line_4 : decode m_Mo_line.2.1 4 = .ok (.ifCond .ne 11, 3) := by decide +kernel
theorem d_Mo_line_7 : decode m_Mo_line.2.1 7 = .ok (.aload_n 0, 1) := by decide +kernel
theorem d_Mo_line_8 : decode m_Mo_line.2.1 8 = .ok (.getfield 189, 3) := by decide +kernel
theorem d_Mo_line_11 : decode m_Mo_line.2.1 11 = .ok (.iconst 3, 1) := by decide +kernel
theorem d_Mo_line_12 : decode m_Mo_line.2.1 12 = .ok (.if_icmp .le 9, 3) := by decide +kernel
theorem d_Mo_line_15 : decode m_Mo_line.2.1 15 = .ok (.aload_n 0, 1) := by decide +kernel
theorem d_Mo_line_16 : decode m_Mo_line.2.1 16 = .ok (.iconst 1, 1) := by decide +kernel
theorem d_Mo_line_17 : decode m_Mo_line.2.1 17 = .ok (.invokevirtual 223, 3) := by decide +kernel
theorem d_Mo_line_20 : decode m_Mo_line.2.1 20 = .ok (.return_, 1) := by decide +kernel
theorem d_Mo_line_21 : decode m_Mo_line.2.1 21 = .ok (.aload_n 0, 1) := by decide +kernel
theorem d_Mo_line_22 : decode m_Mo_line.2.1 22 = .ok (.getfield 189, 3) := by decide +kernel
theorem d_Mo_line_25 : decode m_Mo_line.2.1 25 = .ok (.istore_n 1, 1) := by decide +kernel
theorem d_Mo_line_26 : decode m_Mo_line.2.1 26 = .ok (.iload_n 1, 1) := by decide +kernel
theorem d_Mo_line_27 : decode m_Mo_line.2.1 27 = .ok (.ifCond .ne 13, 3) := by decide +kernel
theorem d_Mo_line_30 : decode m_Mo_line.2.1 30 = .ok (.aload_n 0, 1) := by decide +kernel
theorem d_Mo_line_31 : decode m_Mo_line.2.1 31 = .ok (.iconst 0, 1) := by decide +kernel
theorem d_Mo_line_32 : decode m_Mo_line.2.1 32 = .ok (.invokevirtual 230, 3) := by decide +kernel
theorem d_Mo_line_35 : decode m_Mo_line.2.1 35 = .ok (.bipush 6, 2) := by decide +kernel
theorem d_Mo_line_37 : decode m_Mo_line.2.1 37 = .ok (.if_icmp .eq 17, 3) := by decide +kernel
theorem d_Mo_line_40 : decode m_Mo_line.2.1 40 = .ok (.iload_n 1, 1) := by decide +kernel
theorem d_Mo_line_41 : decode m_Mo_line.2.1 41 = .ok (.iconst 1, 1) := by decide +kernel
theorem d_Mo_line_42 : decode m_Mo_line.2.1 42 = .ok (.if_icmp .ne 20, 3) := by decide +kernel
theorem d_Mo_line_45 : decode m_Mo_line.2.1 45 = .ok (.aload_n 0, 1) := by decide +kernel
theorem d_Mo_line_46 : decode m_Mo_line.2.1 46 = .ok (.iconst 1, 1) := by decide +kernel
theorem d_Mo_line_47 : decode m_Mo_line.2.1 47 = .ok (.invokevirtual 230, 3) := by decide +kernel
theorem d_Mo_line_50 : decode m_Mo_line.2.1 50 = .ok (.iconst 3, 1) := by decide +kernel
theorem d_Mo_line_51 : decode m_Mo_line.2.1 51 = .ok (.if_icmp .ne 11, 3) := by decide +kernel
theorem d_Mo_line_54 : decode m_Mo_line.2.1 54 = .ok (.aload_n 0, 1) := by decide +kernel
theorem d_Mo_line_55 : decode m_Mo_line.2.1 55 = .ok (.iconst 2, 1) := by decide +kernel
theorem d_Mo_line_56 : decode m_Mo_line.2.1 56 = .ok (.invokevirtual 223, 3) := by decide +kernel
theorem d_Mo_line_59 : decode m_Mo_line.2.1 59 = .ok (.goto 23, 3) := by decide +kernel
theorem d_Mo_line_62 : decode m_Mo_line.2.1 62 = .ok (.iload_n 1, 1) := by decide +kernel
theorem d_Mo_line_63 : decode m_Mo_line.2.1 63 = .ok (.iconst 2, 1) := by decide +kernel
theorem d_Mo_line_64 : decode m_Mo_line.2.1 64 = .ok (.if_icmp .ne 18, 3) := by decide +kernel
theorem d_Mo_line_67 : decode m_Mo_line.2.1 67 = .ok (.aload_n 0, 1) := by decide +kernel
theorem d_Mo_line_68 : decode m_Mo_line.2.1 68 = .ok (.getfield 234, 3) := by decide +kernel
theorem d_Mo_line_71 : decode m_Mo_line.2.1 71 = .ok (.iconst 1, 1) := by decide +kernel
theorem d_Mo_line_72 : decode m_Mo_line.2.1 72 = .ok (.iand, 1) := by decide +kernel
theorem d_Mo_line_73 : decode m_Mo_line.2.1 73 = .ok (.iconst 1, 1) := by decide +kernel
theorem d_Mo_line_74 : decode m_Mo_line.2.1 74 = .ok (.if_icmp .ne 8, 3) := by decide +kernel
theorem d_Mo_line_77 : decode m_Mo_line.2.1 77 = .ok (.aload_n 0, 1) := by decide +kernel
theorem d_Mo_line_78 : decode m_Mo_line.2.1 78 = .ok (.iconst 3, 1) := by decide +kernel
theorem d_Mo_line_79 : decode m_Mo_line.2.1 79 = .ok (.invokevirtual 223, 3) := by decide +kernel
theorem d_Mo_line_82 : decode m_Mo_line.2.1 82 = .ok (.aload_n 0, 1) := by decide +kernel
theorem d_Mo_line_83 : decode m_Mo_line.2.1 83 = .ok (.getfield 214, 3) := by decide +kernel
theorem d_Mo_line_86 : decode m_Mo_line.2.1 86 = .ok (.ifCond .eq 4, 3) := by decide +kernel
theorem d_Mo_line_89 : decode m_Mo_line.2.1 89 = .ok (.return_, 1) := by decide +kernel
theorem d_Mo_line_90 : decode m_Mo_line.2.1 90 = .ok (.aload_n 0, 1) := by decide +kernel
theorem d_Mo_line_91 : decode m_Mo_line.2.1 91 = .ok (.invokevirtual 220, 3) := by decide +kernel
theorem d_Mo_line_94 : decode m_Mo_line.2.1 94 = .ok (.iload_n 1, 1) := by decide +kernel
theorem d_Mo_line_95 : decode m_Mo_line.2.1 95 = .ok (.tableswitch 134 0 2 #[25, 40, 107], 25) := by decide +kernel
theorem d_Mo_line_120 : decode m_Mo_line.2.1 120 = .ok (.aload_n 0, 1) := by decide +kernel
theorem d_Mo_line_121 : decode m_Mo_line.2.1 121 = .ok (.bipush 6, 2) := by decide +kernel
theorem d_Mo_line_123 : decode m_Mo_line.2.1 123 = .ok (.aload_n 0, 1) := by decide +kernel
theorem d_Mo_line_124 : decode m_Mo_line.2.1 124 = .ok (.iconst 0, 1) := by decide +kernel
theorem d_Mo_line_125 : decode m_Mo_line.2.1 125 = .ok (.invokevirtual 230, 3) := by decide +kernel
theorem d_Mo_line_128 : decode m_Mo_line.2.1 128 = .ok (.iadd, 1) := by decide +kernel
theorem d_Mo_line_129 : decode m_Mo_line.2.1 129 = .ok (.invokevirtual 237, 3) := by decide +kernel
theorem d_Mo_line_132 : decode m_Mo_line.2.1 132 = .ok (.goto 101, 3) := by decide +kernel
theorem d_Mo_line_135 : decode m_Mo_line.2.1 135 = .ok (.iconst 3, 1) := by decide +kernel
theorem d_Mo_line_136 : decode m_Mo_line.2.1 136 = .ok (.aload_n 0, 1) := by decide +kernel
theorem d_Mo_line_137 : decode m_Mo_line.2.1 137 = .ok (.iconst 1, 1) := by decide +kernel
theorem d_Mo_line_138 : decode m_Mo_line.2.1 138 = .ok (.invokevirtual 230, 3) := by decide +kernel
theorem d_Mo_line_141 : decode m_Mo_line.2.1 141 = .ok (.iadd, 1) := by decide +kernel
theorem d_Mo_line_142 : decode m_Mo_line.2.1 142 = .ok (.istore_n 2, 1) := by decide +kernel
theorem d_Mo_line_143 : decode m_Mo_line.2.1 143 = .ok (.aload_n 0, 1) := by decide +kernel
theorem d_Mo_line_144 : decode m_Mo_line.2.1 144 = .ok (.getfield 32, 3) := by decide +kernel
theorem d_Mo_line_147 : decode m_Mo_line.2.1 147 = .ok (.iload_n 2, 1) := by decide +kernel
theorem d_Mo_line_148 : decode m_Mo_line.2.1 148 = .ok (.aload_n 0, 1) := by decide +kernel
theorem d_Mo_line_149 : decode m_Mo_line.2.1 149 = .ok (.aload_n 0, 1) := by decide +kernel
theorem d_Mo_line_150 : decode m_Mo_line.2.1 150 = .ok (.getfield 32, 3) := by decide +kernel
theorem d_Mo_line_153 : decode m_Mo_line.2.1 153 = .ok (.iconst 3, 1) := by decide +kernel
theorem d_Mo_line_154 : decode m_Mo_line.2.1 154 = .ok (.aload_n 0, 1) := by decide +kernel
theorem d_Mo_line_155 : decode m_Mo_line.2.1 155 = .ok (.iconst 1, 1) := by decide +kernel
theorem d_Mo_line_156 : decode m_Mo_line.2.1 156 = .ok (.invokevirtual 230, 3) := by decide +kernel
theorem d_Mo_line_159 : decode m_Mo_line.2.1 159 = .ok (.invokevirtual 240, 3) := by decide +kernel
theorem d_Mo_line_162 : decode m_Mo_line.2.1 162 = .ok (.iastore, 1) := by decide +kernel
theorem d_Mo_line_163 : decode m_Mo_line.2.1 163 = .ok (.aload_n 0, 1) := by decide +kernel
theorem d_Mo_line_164 : decode m_Mo_line.2.1 164 = .ok (.getfield 35, 3) := by decide +kernel
theorem d_Mo_line_167 : decode m_Mo_line.2.1 167 = .ok (.iload_n 2, 1) := by decide +kernel
theorem d_Mo_line_168 : decode m_Mo_line.2.1 168 = .ok (.aload_n 0, 1) := by decide +kernel
theorem d_Mo_line_169 : decode m_Mo_line.2.1 169 = .ok (.iconst 0, 1) := by decide +kernel
theorem d_Mo_line_170 : decode m_Mo_line.2.1 170 = .ok (.bipush 99, 2) := by decide +kernel
theorem d_Mo_line_172 : decode m_Mo_line.2.1 172 = .ok (.invokevirtual 244, 3) := by decide +kernel
theorem d_Mo_line_175 : decode m_Mo_line.2.1 175 = .ok (.iastore, 1) := by decide +kernel
theorem d_Mo_line_176 : decode m_Mo_line.2.1 176 = .ok (.aload_n 0, 1) := by decide +kernel
theorem d_Mo_line_177 : decode m_Mo_line.2.1 177 = .ok (.getfield 38, 3) := by decide +kernel
theorem d_Mo_line_180 : decode m_Mo_line.2.1 180 = .ok (.iload_n 2, 1) := by decide +kernel
theorem d_Mo_line_181 : decode m_Mo_line.2.1 181 = .ok (.aload_n 0, 1) := by decide +kernel
theorem d_Mo_line_182 : decode m_Mo_line.2.1 182 = .ok (.iconst 0, 1) := by decide +kernel
theorem d_Mo_line_183 : decode m_Mo_line.2.1 183 = .ok (.bipush 9, 2) := by decide +kernel
theorem d_Mo_line_185 : decode m_Mo_line.2.1 185 = .ok (.invokevirtual 244, 3) := by decide +kernel
theorem d_Mo_line_188 : decode m_Mo_line.2.1 188 = .ok (.iastore, 1) := by decide +kernel
theorem d_Mo_line_189 : decode m_Mo_line.2.1 189 = .ok (.aload_n 0, 1) := by decide +kernel
theorem d_Mo_line_190 : decode m_Mo_line.2.1 190 = .ok (.getfield 13, 3) := by decide +kernel
theorem d_Mo_line_193 : decode m_Mo_line.2.1 193 = .ok (.iconst 5, 1) := by decide +kernel
theorem d_Mo_line_194 : decode m_Mo_line.2.1 194 = .ok (.dup2, 1) := by decide +kernel
theorem d_Mo_line_195 : decode m_Mo_line.2.1 195 = .ok (.iaload, 1) := by decide +kernel
theorem d_Mo_line_196 : decode m_Mo_line.2.1 196 = .ok (.iconst 1, 1) := by decide +kernel
theorem d_Mo_line_197 : decode m_Mo_line.2.1 197 = .ok (.iadd, 1) := by decide +kernel
theorem d_Mo_line_198 : decode m_Mo_line.2.1 198 = .ok (.iastore, 1) := by decide +kernel
theorem d_Mo_line_199 : decode m_Mo_line.2.1 199 = .ok (.goto 34, 3) := by decide +kernel
theorem d_Mo_line_202 : decode m_Mo_line.2.1 202 = .ok (.aload_n 0, 1) := by decide +kernel
theorem d_Mo_line_203 : decode m_Mo_line.2.1 203 = .ok (.dup, 1) := by decide +kernel
theorem d_Mo_line_204 : decode m_Mo_line.2.1 204 = .ok (.getfield 234, 3) := by decide +kernel
theorem d_Mo_line_207 : decode m_Mo_line.2.1 207 = .ok (.iconst 1, 1) := by decide +kernel
theorem d_Mo_line_208 : decode m_Mo_line.2.1 208 = .ok (.ior, 1) := by decide +kernel
theorem d_Mo_line_209 : decode m_Mo_line.2.1 209 = .ok (.putfield 234, 3) := by decide +kernel
theorem d_Mo_line_212 : decode m_Mo_line.2.1 212 = .ok (.aload_n 0, 1) := by decide +kernel
theorem d_Mo_line_213 : decode m_Mo_line.2.1 213 = .ok (.getfield 13, 3) := by decide +kernel
theorem d_Mo_line_216 : decode m_Mo_line.2.1 216 = .ok (.bipush 6, 2) := by decide +kernel
theorem d_Mo_line_218 : decode m_Mo_line.2.1 218 = .ok (.aload_n 0, 1) := by decide +kernel
theorem d_Mo_line_219 : decode m_Mo_line.2.1 219 = .ok (.iconst 0, 1) := by decide +kernel
theorem d_Mo_line_220 : decode m_Mo_line.2.1 220 = .ok (.ldc 198, 2) := by decide +kernel
theorem d_Mo_line_222 : decode m_Mo_line.2.1 222 = .ok (.invokevirtual 244, 3) := by decide +kernel
theorem d_Mo_line_225 : decode m_Mo_line.2.1 225 = .ok (.iastore, 1) := by decide +kernel
theorem d_Mo_line_226 : decode m_Mo_line.2.1 226 = .ok (.goto 7, 3) := by decide +kernel
theorem d_Mo_line_229 : decode m_Mo_line.2.1 229 = .ok (.aload_n 0, 1) := by decide +kernel
theorem d_Mo_line_230 : decode m_Mo_line.2.1 230 = .ok (.invokevirtual 248, 3) := by decide +kernel
theorem d_Mo_line_233 : decode m_Mo_line.2.1 233 = .ok (.aload_n 0, 1) := by decide +kernel
theorem d_Mo_line_234 : decode m_Mo_line.2.1 234 = .ok (.getfield 214, 3) := by decide +kernel
theorem d_Mo_line_237 : decode m_Mo_line.2.1 237 = .ok (.ifCond .eq 4, 3) := by decide +kernel
theorem d_Mo_line_240 : decode m_Mo_line.2.1 240 = .ok (.return_, 1) := by decide +kernel
theorem d_Mo_line_241 : decode m_Mo_line.2.1 241 = .ok (.aload_n 0, 1) := by decide +kernel
theorem d_Mo_line_242 : decode m_Mo_line.2.1 242 = .ok (.bipush 59, 2) := by decide +kernel
theorem d_Mo_line_244 : decode m_Mo_line.2.1 244 = .ok (.invokevirtual 251, 3) := by decide +kernel
theorem d_Mo_line_247 : decode m_Mo_line.2.1 247 = .ok (.ifCond .ne 11, 3) := by decide +kernel
theorem d_Mo_line_250 : decode m_Mo_line.2.1 250 = .ok (.aload_n 0, 1) := by decide +kernel
theorem d_Mo_line_251 : decode m_Mo_line.2.1 251 = .ok (.iconst 1, 1) := by decide +kernel
theorem d_Mo_line_252 : decode m_Mo_line.2.1 252 = .ok (.invokevirtual 223, 3) := by decide +kernel
theorem d_Mo_line_255 : decode m_Mo_line.2.1 255 = .ok (.goto 7, 3) := by decide +kernel
theorem d_Mo_line_258 : decode m_Mo_line.2.1 258 = .ok (.aload_n 0, 1) := by decide +kernel
theorem d_Mo_line_259 : decode m_Mo_line.2.1 259 = .ok (.invokevirtual 220, 3) := by decide +kernel
theorem d_Mo_line_262 : decode m_Mo_line.2.1 262 = .ok (.aload_n 0, 1) := by decide +kernel
theorem d_Mo_line_263 : decode m_Mo_line.2.1 263 = .ok (.dup, 1) := by decide +kernel
theorem d_Mo_line_264 : decode m_Mo_line.2.1 264 = .ok (.getfield 254, 3) := by decide +kernel
theorem d_Mo_line_267 : decode m_Mo_line.2.1 267 = .ok (.iconst 1, 1) := by decide +kernel
theorem d_Mo_line_268 : decode m_Mo_line.2.1 268 = .ok (.iadd, 1) := by decide +kernel
theorem d_Mo_line_269 : decode m_Mo_line.2.1 269 = .ok (.putfield 254, 3) := by decide +kernel
theorem d_Mo_line_272 : decode m_Mo_line.2.1 272 = .ok (.return_, 1) := by decide +kernel
theorem d_Mo_wrong_0 : decode m_Mo_wrong.2.1 0 = .ok (.aload_n 0, 1) := by decide +kernel
theorem d_Mo_wrong_1 : decode m_Mo_wrong.2.1 1 = .ok (.getfield 214, 3) := by decide +kernel
theorem d_Mo_wrong_4 : decode m_Mo_wrong.2.1 4 = .ok (.ifCond .eq 4, 3) := by decide +kernel
theorem d_Mo_wrong_7 : decode m_Mo_wrong.2.1 7 = .ok (.return_, 1) := by decide +kernel
theorem d_Mo_wrong_8 : decode m_Mo_wrong.2.1 8 = .ok (.aload_n 0, 1) := by decide +kernel
theorem d_Mo_wrong_9 : decode m_Mo_wrong.2.1 9 = .ok (.iload_n 1, 1) := by decide +kernel
theorem d_Mo_wrong_10 : decode m_Mo_wrong.2.1 10 = .ok (.putfield 214, 3) := by decide +kernel
theorem d_Mo_wrong_13 : decode m_Mo_wrong.2.1 13 = .ok (.aload_n 0, 1) := by decide +kernel
theorem d_Mo_wrong_14 : decode m_Mo_wrong.2.1 14 = .ok (.aload_n 0, 1) := by decide +kernel
theorem d_Mo_wrong_15 : decode m_Mo_wrong.2.1 15 = .ok (.getfield 176, 3) := by decide +kernel
theorem d_Mo_wrong_18 : decode m_Mo_wrong.2.1 18 = .ok (.putfield 217, 3) := by decide +kernel
theorem d_Mo_wrong_21 : decode m_Mo_wrong.2.1 21 = .ok (.return_, 1) := by decide +kernel
theorem d_Mo_fresher_0 : decode m_Mo_fresher.2.1 0 = .ok (.aload_n 0, 1) := by decide +kernel
theorem d_Mo_fresher_1 : decode m_Mo_fresher.2.1 1 = .ok (.getfield 13, 3) := by decide +kernel
theorem d_Mo_fresher_4 : decode m_Mo_fresher.2.1 4 = .ok (.iconst 4, 1) := by decide +kernel
theorem d_Mo_fresher_5 : decode m_Mo_fresher.2.1 5 = .ok (.iload_n 1, 1) := by decide +kernel
theorem d_Mo_fresher_6 : decode m_Mo_fresher.2.1 6 = .ok (.iadd, 1) := by decide +kernel
theorem d_Mo_fresher_7 : decode m_Mo_fresher.2.1 7 = .ok (.iaload, 1) := by decide +kernel
theorem d_Mo_fresher_8 : decode m_Mo_fresher.2.1 8 = .ok (.ireturn, 1) := by decide +kernel
theorem d_Mo_houseLine_0 : decode m_Mo_houseLine.2.1 0 = .ok (.aload_n 0, 1) := by decide +kernel
theorem d_Mo_houseLine_1 : decode m_Mo_houseLine.2.1 1 = .ok (.getfield 16, 3) := by decide +kernel
theorem d_Mo_houseLine_4 : decode m_Mo_houseLine.2.1 4 = .ok (.iload_n 1, 1) := by decide +kernel
theorem d_Mo_houseLine_5 : decode m_Mo_houseLine.2.1 5 = .ok (.aload_n 0, 1) := by decide +kernel
theorem d_Mo_houseLine_6 : decode m_Mo_houseLine.2.1 6 = .ok (.aload_n 0, 1) := by decide +kernel
theorem d_Mo_houseLine_7 : decode m_Mo_houseLine.2.1 7 = .ok (.getfield 16, 3) := by decide +kernel
theorem d_Mo_houseLine_10 : decode m_Mo_houseLine.2.1 10 = .ok (.bipush 6, 2) := by decide +kernel
theorem d_Mo_houseLine_12 : decode m_Mo_houseLine.2.1 12 = .ok (.aload_n 0, 1) := by decide +kernel
theorem d_Mo_houseLine_13 : decode m_Mo_houseLine.2.1 13 = .ok (.iconst 0, 1) := by decide +kernel
theorem d_Mo_houseLine_14 : decode m_Mo_houseLine.2.1 14 = .ok (.invokevirtual 230, 3) := by decide +kernel
theorem d_Mo_houseLine_17 : decode m_Mo_houseLine.2.1 17 = .ok (.invokevirtual 240, 3) := by decide +kernel
theorem d_Mo_houseLine_20 : decode m_Mo_houseLine.2.1 20 = .ok (.iastore, 1) := by decide +kernel
theorem d_Mo_houseLine_21 : decode m_Mo_houseLine.2.1 21 = .ok (.aload_n 0, 1) := by decide +kernel
theorem d_Mo_houseLine_22 : decode m_Mo_houseLine.2.1 22 = .ok (.getfield 19, 3) := by decide +kernel
theorem d_Mo_houseLine_25 : decode m_Mo_houseLine.2.1 25 = .ok (.iload_n 1, 1) := by decide +kernel
theorem d_Mo_houseLine_26 : decode m_Mo_houseLine.2.1 26 = .ok (.aload_n 0, 1) := by decide +kernel
theorem d_Mo_houseLine_27 : decode m_Mo_houseLine.2.1 27 = .ok (.iconst 0, 1) := by decide +kernel
theorem d_Mo_houseLine_28 : decode m_Mo_houseLine.2.1 28 = .ok (.bipush 99, 2) := by decide +kernel
theorem d_Mo_houseLine_30 : decode m_Mo_houseLine.2.1 30 = .ok (.invokevirtual 244, 3) := by decide +kernel
theorem d_Mo_houseLine_33 : decode m_Mo_houseLine.2.1 33 = .ok (.iastore, 1) := by decide +kernel
theorem d_Mo_houseLine_34 : decode m_Mo_houseLine.2.1 34 = .ok (.aload_n 0, 1) := by decide +kernel
theorem d_Mo_houseLine_35 : decode m_Mo_houseLine.2.1 35 = .ok (.getfield 22, 3) := by decide +kernel
theorem d_Mo_houseLine_38 : decode m_Mo_houseLine.2.1 38 = .ok (.iload_n 1, 1) := by decide +kernel
theorem d_Mo_houseLine_39 : decode m_Mo_houseLine.2.1 39 = .ok (.aload_n 0, 1) := by decide +kernel
theorem d_Mo_houseLine_40 : decode m_Mo_houseLine.2.1 40 = .ok (.iconst 0, 1) := by decide +kernel
theorem d_Mo_houseLine_41 : decode m_Mo_houseLine.2.1 41 = .ok (.bipush 99, 2) := by decide +kernel
theorem d_Mo_houseLine_43 : decode m_Mo_houseLine.2.1 43 = .ok (.invokevirtual 244, 3) := by decide +kernel
theorem d_Mo_houseLine_46 : decode m_Mo_houseLine.2.1 46 = .ok (.iastore, 1) := by decide +kernel
theorem d_Mo_houseLine_47 : decode m_Mo_houseLine.2.1 47 = .ok (.aload_n 0, 1) := by decide +kernel
theorem d_Mo_houseLine_48 : decode m_Mo_houseLine.2.1 48 = .ok (.getfield 25, 3) := by decide +kernel
theorem d_Mo_houseLine_51 : decode m_Mo_houseLine.2.1 51 = .ok (.iload_n 1, 1) := by decide +kernel
theorem d_Mo_houseLine_52 : decode m_Mo_houseLine.2.1 52 = .ok (.sipush 240, 3) := by decide +kernel
theorem d_Mo_houseLine_55 : decode m_Mo_houseLine.2.1 55 = .ok (.iastore, 1) := by decide +kernel
theorem d_Mo_houseLine_56 : decode m_Mo_houseLine.2.1 56 = .ok (.aload_n 0, 1) := by decide +kernel
theorem d_Mo_houseLine_57 : decode m_Mo_houseLine.2.1 57 = .ok (.iconst 4, 1) := by decide +kernel
theorem d_Mo_houseLine_58 : decode m_Mo_houseLine.2.1 58 = .ok (.invokevirtual 257, 3) := by decide +kernel
theorem d_Mo_houseLine_61 : decode m_Mo_houseLine.2.1 61 = .ok (.ifCond .eq 21, 3) := by decide +kernel
theorem d_Mo_houseLine_64 : decode m_Mo_houseLine.2.1 64 = .ok (.aload_n 0, 1) := by decide +kernel
theorem d_Mo_houseLine_65 : decode m_Mo_houseLine.2.1 65 = .ok (.invokevirtual 220, 3) := by decide +kernel
theorem d_Mo_houseLine_68 : decode m_Mo_houseLine.2.1 68 = .ok (.aload_n 0, 1) := by decide +kernel
theorem d_Mo_houseLine_69 : decode m_Mo_houseLine.2.1 69 = .ok (.getfield 25, 3) := by decide +kernel
theorem d_Mo_houseLine_72 : decode m_Mo_houseLine.2.1 72 = .ok (.iload_n 1, 1) := by decide +kernel
theorem d_Mo_houseLine_73 : decode m_Mo_houseLine.2.1 73 = .ok (.aload_n 0, 1) := by decide +kernel
theorem d_Mo_houseLine_74 : decode m_Mo_houseLine.2.1 74 = .ok (.iconst 1, 1) := by decide +kernel
theorem d_Mo_houseLine_75 : decode m_Mo_houseLine.2.1 75 = .ok (.sipush 240, 3) := by decide +kernel
theorem d_Mo_houseLine_78 : decode m_Mo_houseLine.2.1 78 = .ok (.invokevirtual 244, 3) := by decide +kernel
theorem d_Mo_houseLine_81 : decode m_Mo_houseLine.2.1 81 = .ok (.iastore, 1) := by decide +kernel
theorem d_Mo_houseLine_82 : decode m_Mo_houseLine.2.1 82 = .ok (.aload_n 0, 1) := by decide +kernel
theorem d_Mo_houseLine_83 : decode m_Mo_houseLine.2.1 83 = .ok (.getfield 28, 3) := by decide +kernel
theorem d_Mo_houseLine_86 : decode m_Mo_houseLine.2.1 86 = .ok (.iload_n 1, 1) := by decide +kernel
theorem d_Mo_houseLine_87 : decode m_Mo_houseLine.2.1 87 = .ok (.aload_n 0, 1) := by decide +kernel
theorem d_Mo_houseLine_88 : decode m_Mo_houseLine.2.1 88 = .ok (.iconst 5, 1) := by decide +kernel
theorem d_Mo_houseLine_89 : decode m_Mo_houseLine.2.1 89 = .ok (.invokevirtual 257, 3) := by decide +kernel
theorem d_Mo_houseLine_92 : decode m_Mo_houseLine.2.1 92 = .ok (.bastore, 1) := by decide +kernel
theorem d_Mo_houseLine_93 : decode m_Mo_houseLine.2.1 93 = .ok (.aload_n 0, 1) := by decide +kernel
theorem d_Mo_houseLine_94 : decode m_Mo_houseLine.2.1 94 = .ok (.getfield 28, 3) := by decide +kernel
theorem d_Mo_houseLine_97 : decode m_Mo_houseLine.2.1 97 = .ok (.iload_n 1, 1) := by decide +kernel
theorem d_Mo_houseLine_98 : decode m_Mo_houseLine.2.1 98 = .ok (.baload, 1) := by decide +kernel
theorem d_Mo_houseLine_99 : decode m_Mo_houseLine.2.1 99 = .ok (.ifCond .eq 7, 3) := by decide +kernel
theorem d_Mo_houseLine_102 : decode m_Mo_houseLine.2.1 102 = .ok (.aload_n 0, 1) := by decide +kernel
theorem d_Mo_houseLine_103 : decode m_Mo_houseLine.2.1 103 = .ok (.invokevirtual 220, 3) := by decide +kernel
theorem d_Mo_houseLine_106 : decode m_Mo_houseLine.2.1 106 = .ok (.aload_n 0, 1) := by decide +kernel
theorem d_Mo_houseLine_107 : decode m_Mo_houseLine.2.1 107 = .ok (.getfield 13, 3) := by decide +kernel
theorem d_Mo_houseLine_110 : decode m_Mo_houseLine.2.1 110 = .ok (.iconst 4, 1) := by decide +kernel
theorem d_Mo_houseLine_111 : decode m_Mo_houseLine.2.1 111 = .ok (.dup2, 1) := by decide +kernel
theorem d_Mo_houseLine_112 : decode m_Mo_houseLine.2.1 112 = .ok (.iaload, 1) := by decide +kernel
theorem d_Mo_houseLine_113 : decode m_Mo_houseLine.2.1 113 = .ok (.iconst 1, 1) := by decide +kernel
theorem d_Mo_houseLine_114 : decode m_Mo_houseLine.2.1 114 = .ok (.iadd, 1) := by decide +kernel
theorem d_Mo_houseLine_115 : decode m_Mo_houseLine.2.1 115 = .ok (.iastore, 1) := by decide +kernel
theorem d_Mo_houseLine_116 : decode m_Mo_houseLine.2.1 116 = .ok (.return_, 1) := by decide +kernel
theorem d_Mo_fresh_0 : decode m_Mo_fresh.2.1 0 = .ok (.aload_n 0, 1) := by decide +kernel
theorem d_Mo_fresh_1 : decode m_Mo_fresh.2.1 1 = .ok (.getfield 214, 3) := by decide +kernel
theorem d_Mo_fresh_4 : decode m_Mo_fresh.2.1 4 = .ok (.ifCond .eq 5, 3) := by decide +kernel
theorem d_Mo_fresh_7 : decode m_Mo_fresh.2.1 7 = .ok (.iconst 0, 1) := by decide +kernel
theorem d_Mo_fresh_8 : decode m_Mo_fresh.2.1 8 = .ok (.ireturn, 1) := by decide +kernel
theorem d_Mo_fresh_9 : decode m_Mo_fresh.2.1 9 = .ok (.aload_n 0, 1) := by decide +kernel
theorem d_Mo_fresh_10 : decode m_Mo_fresh.2.1 10 = .ok (.getfield 179, 3) := by decide +kernel
theorem d_Mo_fresh_13 : decode m_Mo_fresh.2.1 13 = .ok (.iconst 1, 1) := by decide +kernel
theorem d_Mo_fresh_14 : decode m_Mo_fresh.2.1 14 = .ok (.if_icmp .eq 11, 3) := by decide +kernel
theorem d_Mo_fresh_17 : decode m_Mo_fresh.2.1 17 = .ok (.aload_n 0, 1) := by decide +kernel
theorem d_Mo_fresh_18 : decode m_Mo_fresh.2.1 18 = .ok (.iconst 1, 1) := by decide +kernel
theorem d_Mo_fresh_19 : decode m_Mo_fresh.2.1 19 = .ok (.invokevirtual 223, 3) := by decide +kernel
theorem d_Mo_fresh_22 : decode m_Mo_fresh.2.1 22 = .ok (.goto 22, 3) := by decide +kernel
theorem d_Mo_fresh_25 : decode m_Mo_fresh.2.1 25 = .ok (.aload_n 1, 1) := by decide +kernel
theorem d_Mo_fresh_26 : decode m_Mo_fresh.2.1 26 = .ok (.iload_n 2, 1) := by decide +kernel
theorem d_Mo_fresh_27 : decode m_Mo_fresh.2.1 27 = .ok (.iload_n 3, 1) := by decide +kernel
theorem d_Mo_fresh_28 : decode m_Mo_fresh.2.1 28 = .ok (.aload_n 0, 1) := by decide +kernel
theorem d_Mo_fresh_29 : decode m_Mo_fresh.2.1 29 = .ok (.getfield 189, 3) := by decide +kernel
theorem d_Mo_fresh_32 : decode m_Mo_fresh.2.1 32 = .ok (.invokestatic 226, 3) := by decide +kernel
theorem d_Mo_fresh_35 : decode m_Mo_fresh.2.1 35 = .ok (.iconst (-1), 1) := by decide +kernel
theorem d_Mo_fresh_36 : decode m_Mo_fresh.2.1 36 = .ok (.if_icmp .eq 8, 3) := by decide +kernel
theorem d_Mo_fresh_39 : decode m_Mo_fresh.2.1 39 = .ok (.aload_n 0, 1) := by decide +kernel
theorem d_Mo_fresh_40 : decode m_Mo_fresh.2.1 40 = .ok (.iconst 3, 1) := by decide +kernel
theorem d_Mo_fresh_41 : decode m_Mo_fresh.2.1 41 = .ok (.invokevirtual 223, 3) := by decide +kernel
theorem d_Mo_fresh_44 : decode m_Mo_fresh.2.1 44 = .ok (.aload_n 0, 1) := by decide +kernel
theorem d_Mo_fresh_45 : decode m_Mo_fresh.2.1 45 = .ok (.getfield 214, 3) := by decide +kernel
theorem d_Mo_fresh_48 : decode m_Mo_fresh.2.1 48 = .ok (.ifCond .eq 5, 3) := by decide +kernel
theorem d_Mo_fresh_51 : decode m_Mo_fresh.2.1 51 = .ok (.iconst 0, 1) := by decide +kernel
theorem d_Mo_fresh_52 : decode m_Mo_fresh.2.1 52 = .ok (.ireturn, 1) := by decide +kernel
theorem d_Mo_fresh_53 : decode m_Mo_fresh.2.1 53 = .ok (.aload_n 0, 1) := by decide +kernel
theorem d_Mo_fresh_54 : decode m_Mo_fresh.2.1 54 = .ok (.getfield 189, 3) := by decide +kernel
theorem d_Mo_fresh_57 : decode m_Mo_fresh.2.1 57 = .ok (.istore 4, 2) := by decide +kernel
theorem d_Mo_fresh_59 : decode m_Mo_fresh.2.1 59 = .ok (.aload_n 0, 1) := by decide +kernel
theorem d_Mo_fresh_60 : decode m_Mo_fresh.2.1 60 = .ok (.invokevirtual 220, 3) := by decide +kernel
theorem d_Mo_fresh_63 : decode m_Mo_fresh.2.1 63 = .ok (.iload 4, 2) := by decide +kernel
theorem d_Mo_fresh_65 : decode m_Mo_fresh.2.1 65 = .ok (.ireturn, 1) := by decide +kernel
theorem d_Mo_found_0 : decode m_Mo_found.2.1 0 = .ok (.iconst 0, 1) := by decide +kernel
theorem d_Mo_found_1 : decode m_Mo_found.2.1 1 = .ok (.istore 4, 2) := by decide +kernel
theorem d_Mo_found_3 : decode m_Mo_found.2.1 3 = .ok (.iload 4, 2) := by decide +kernel
theorem d_Mo_found_5 : decode m_Mo_found.2.1 5 = .ok (.iload_n 2, 1) := by decide +kernel
theorem d_Mo_found_6 : decode m_Mo_found.2.1 6 = .ok (.if_icmp .ge 22, 3) := by decide +kernel
theorem d_Mo_found_9 : decode m_Mo_found.2.1 9 = .ok (.aload_n 0, 1) := by decide +kernel
theorem d_Mo_found_10 : decode m_Mo_found.2.1 10 = .ok (.iload_n 1, 1) := by decide +kernel
theorem d_Mo_found_11 : decode m_Mo_found.2.1 11 = .ok (.iload 4, 2) := by decide +kernel
theorem d_Mo_found_13 : decode m_Mo_found.2.1 13 = .ok (.iadd, 1) := by decide +kernel
theorem d_Mo_found_14 : decode m_Mo_found.2.1 14 = .ok (.iaload, 1) := by decide +kernel
theorem d_Mo_found_15 : decode m_Mo_found.2.1 15 = .ok (.iload_n 3, 1) := by decide +kernel
theorem d_Mo_found_16 : decode m_Mo_found.2.1 16 = .ok (.if_icmp .ne 6, 3) := by decide +kernel
theorem d_Mo_found_19 : decode m_Mo_found.2.1 19 = .ok (.iload 4, 2) := by decide +kernel
theorem d_Mo_found_21 : decode m_Mo_found.2.1 21 = .ok (.ireturn, 1) := by decide +kernel
theorem d_Mo_found_22 : decode m_Mo_found.2.1 22 = .ok (.iinc 4 1, 3) := by decide +kernel
theorem d_Mo_found_25 : decode m_Mo_found.2.1 25 = .ok (.goto (-22), 3) := by decide +kernel
theorem d_Mo_found_28 : decode m_Mo_found.2.1 28 = .ok (.iconst (-1), 1) := by decide +kernel
theorem d_Mo_found_29 : decode m_Mo_found.2.1 29 = .ok (.ireturn, 1) := by decide +kernel
theorem d_Mo_numeral_0 : decode m_Mo_numeral.2.1 0 = .ok (.aload_n 0, 1) := by decide +kernel
theorem d_Mo_numeral_1 : decode m_Mo_numeral.2.1 1 = .ok (.getfield 214, 3) := by decide +kernel
theorem d_Mo_numeral_4 : decode m_Mo_numeral.2.1 4 = .ok (.ifCond .eq 5, 3) := by decide +kernel
theorem d_Mo_numeral_7 : decode m_Mo_numeral.2.1 7 = .ok (.iload_n 1, 1) := by decide +kernel
theorem d_Mo_numeral_8 : decode m_Mo_numeral.2.1 8 = .ok (.ireturn, 1) := by decide +kernel
theorem d_Mo_numeral_9 : decode m_Mo_numeral.2.1 9 = .ok (.aload_n 0, 1) := by decide +kernel
theorem d_Mo_numeral_10 : decode m_Mo_numeral.2.1 10 = .ok (.getfield 179, 3) := by decide +kernel
theorem d_Mo_numeral_13 : decode m_Mo_numeral.2.1 13 = .ok (.iconst 2, 1) := by decide +kernel
theorem d_Mo_numeral_14 : decode m_Mo_numeral.2.1 14 = .ok (.if_icmp .eq 11, 3) := by decide +kernel
theorem d_Mo_numeral_17 : decode m_Mo_numeral.2.1 17 = .ok (.aload_n 0, 1) := by decide +kernel
theorem d_Mo_numeral_18 : decode m_Mo_numeral.2.1 18 = .ok (.iconst 1, 1) := by decide +kernel
theorem d_Mo_numeral_19 : decode m_Mo_numeral.2.1 19 = .ok (.invokevirtual 223, 3) := by decide +kernel
theorem d_Mo_numeral_22 : decode m_Mo_numeral.2.1 22 = .ok (.goto 24, 3) := by decide +kernel
theorem d_Mo_numeral_25 : decode m_Mo_numeral.2.1 25 = .ok (.aload_n 0, 1) := by decide +kernel
theorem d_Mo_numeral_26 : decode m_Mo_numeral.2.1 26 = .ok (.getfield 189, 3) := by decide +kernel
theorem d_Mo_numeral_29 : decode m_Mo_numeral.2.1 29 = .ok (.iload_n 1, 1) := by decide +kernel
theorem d_Mo_numeral_30 : decode m_Mo_numeral.2.1 30 = .ok (.if_icmp .lt 11, 3) := by decide +kernel
theorem d_Mo_numeral_33 : decode m_Mo_numeral.2.1 33 = .ok (.aload_n 0, 1) := by decide +kernel
theorem d_Mo_numeral_34 : decode m_Mo_numeral.2.1 34 = .ok (.getfield 189, 3) := by decide +kernel
theorem d_Mo_numeral_37 : decode m_Mo_numeral.2.1 37 = .ok (.iload_n 2, 1) := by decide +kernel
theorem d_Mo_numeral_38 : decode m_Mo_numeral.2.1 38 = .ok (.if_icmp .le 8, 3) := by decide +kernel
theorem d_Mo_numeral_41 : decode m_Mo_numeral.2.1 41 = .ok (.aload_n 0, 1) := by decide +kernel
theorem d_Mo_numeral_42 : decode m_Mo_numeral.2.1 42 = .ok (.iconst 2, 1) := by decide +kernel
theorem d_Mo_numeral_43 : decode m_Mo_numeral.2.1 43 = .ok (.invokevirtual 223, 3) := by decide +kernel
theorem d_Mo_numeral_46 : decode m_Mo_numeral.2.1 46 = .ok (.aload_n 0, 1) := by decide +kernel
theorem d_Mo_numeral_47 : decode m_Mo_numeral.2.1 47 = .ok (.getfield 214, 3) := by decide +kernel
theorem d_Mo_numeral_50 : decode m_Mo_numeral.2.1 50 = .ok (.ifCond .eq 5, 3) := by decide +kernel
theorem d_Mo_numeral_53 : decode m_Mo_numeral.2.1 53 = .ok (.iload_n 1, 1) := by decide +kernel
theorem d_Mo_numeral_54 : decode m_Mo_numeral.2.1 54 = .ok (.ireturn, 1) := by decide +kernel
theorem d_Mo_numeral_55 : decode m_Mo_numeral.2.1 55 = .ok (.aload_n 0, 1) := by decide +kernel
theorem d_Mo_numeral_56 : decode m_Mo_numeral.2.1 56 = .ok (.getfield 189, 3) := by decide +kernel
theorem d_Mo_numeral_59 : decode m_Mo_numeral.2.1 59 = .ok (.istore_n 3, 1) := by decide +kernel
theorem d_Mo_numeral_60 : decode m_Mo_numeral.2.1 60 = .ok (.aload_n 0, 1) := by decide +kernel
theorem d_Mo_numeral_61 : decode m_Mo_numeral.2.1 61 = .ok (.invokevirtual 220, 3) := by decide +kernel
theorem d_Mo_numeral_64 : decode m_Mo_numeral.2.1 64 = .ok (.iload_n 3, 1) := by decide +kernel
theorem d_Mo_numeral_65 : decode m_Mo_numeral.2.1 65 = .ok (.ireturn, 1) := by decide +kernel
theorem d_Mo_isWord_0 : decode m_Mo_isWord.2.1 0 = .ok (.aload_n 0, 1) := by decide +kernel
theorem d_Mo_isWord_1 : decode m_Mo_isWord.2.1 1 = .ok (.getfield 214, 3) := by decide +kernel
theorem d_Mo_isWord_4 : decode m_Mo_isWord.2.1 4 = .ok (.ifCond .ne 22, 3) := by decide +kernel
theorem d_Mo_isWord_7 : decode m_Mo_isWord.2.1 7 = .ok (.aload_n 0, 1) := by decide +kernel
theorem d_Mo_isWord_8 : decode m_Mo_isWord.2.1 8 = .ok (.getfield 179, 3) := by decide +kernel
theorem d_Mo_isWord_11 : decode m_Mo_isWord.2.1 11 = .ok (.ifCond .ne 15, 3) := by decide +kernel
theorem d_Mo_isWord_14 : decode m_Mo_isWord.2.1 14 = .ok (.aload_n 0, 1) := by decide +kernel
theorem d_Mo_isWord_15 : decode m_Mo_isWord.2.1 15 = .ok (.getfield 189, 3) := by decide +kernel
theorem d_Mo_isWord_18 : decode m_Mo_isWord.2.1 18 = .ok (.iload_n 1, 1) := by decide +kernel
theorem d_Mo_isWord_19 : decode m_Mo_isWord.2.1 19 = .ok (.if_icmp .ne 7, 3) := by decide +kernel
theorem d_Mo_isWord_22 : decode m_Mo_isWord.2.1 22 = .ok (.iconst 1, 1) := by decide +kernel
theorem d_Mo_isWord_23 : decode m_Mo_isWord.2.1 23 = .ok (.goto 4, 3) := by decide +kernel
theorem d_Mo_isWord_26 : decode m_Mo_isWord.2.1 26 = .ok (.iconst 0, 1) := by decide +kernel
theorem d_Mo_isWord_27 : decode m_Mo_isWord.2.1 27 = .ok (.ireturn, 1) := by decide +kernel
theorem d_Mo_lawLine_0 : decode m_Mo_lawLine.2.1 0 = .ok (.aload_n 0, 1) := by decide +kernel
theorem d_Mo_lawLine_1 : decode m_Mo_lawLine.2.1 1 = .ok (.getfield 179, 3) := by decide +kernel
theorem d_Mo_lawLine_4 : decode m_Mo_lawLine.2.1 4 = .ok (.ifCond .ne 21, 3) := by decide +kernel
theorem d_Mo_lawLine_7 : decode m_Mo_lawLine.2.1 7 = .ok (.aload_n 0, 1) := by decide +kernel
theorem d_Mo_lawLine_8 : decode m_Mo_lawLine.2.1 8 = .ok (.getfield 189, 3) := by decide +kernel
theorem d_Mo_lawLine_11 : decode m_Mo_lawLine.2.1 11 = .ok (.bipush 6, 2) := by decide +kernel
theorem d_Mo_lawLine_13 : decode m_Mo_lawLine.2.1 13 = .ok (.if_icmp .lt 12, 3) := by decide +kernel
theorem d_Mo_lawLine_16 : decode m_Mo_lawLine.2.1 16 = .ok (.aload_n 0, 1) := by decide +kernel
theorem d_Mo_lawLine_17 : decode m_Mo_lawLine.2.1 17 = .ok (.getfield 189, 3) := by decide +kernel
theorem d_Mo_lawLine_20 : decode m_Mo_lawLine.2.1 20 = .ok (.bipush 9, 2) := by decide +kernel
theorem d_Mo_lawLine_22 : decode m_Mo_lawLine.2.1 22 = .ok (.if_icmp .le 8, 3) := by decide +kernel
theorem d_Mo_lawLine_25 : decode m_Mo_lawLine.2.1 25 = .ok (.aload_n 0, 1) := by decide +kernel
theorem d_Mo_lawLine_26 : decode m_Mo_lawLine.2.1 26 = .ok (.iconst 1, 1) := by decide +kernel
theorem d_Mo_lawLine_27 : decode m_Mo_lawLine.2.1 27 = .ok (.invokevirtual 223, 3) := by decide +kernel
theorem d_Mo_lawLine_30 : decode m_Mo_lawLine.2.1 30 = .ok (.aload_n 0, 1) := by decide +kernel
theorem d_Mo_lawLine_31 : decode m_Mo_lawLine.2.1 31 = .ok (.getfield 189, 3) := by decide +kernel
theorem d_Mo_lawLine_34 : decode m_Mo_lawLine.2.1 34 = .ok (.bipush 6, 2) := by decide +kernel
theorem d_Mo_lawLine_36 : decode m_Mo_lawLine.2.1 36 = .ok (.isub, 1) := by decide +kernel
theorem d_Mo_lawLine_37 : decode m_Mo_lawLine.2.1 37 = .ok (.istore_n 1, 1) := by decide +kernel
theorem d_Mo_lawLine_38 : decode m_Mo_lawLine.2.1 38 = .ok (.aload_n 0, 1) := by decide +kernel
theorem d_Mo_lawLine_39 : decode m_Mo_lawLine.2.1 39 = .ok (.getfield 214, 3) := by decide +kernel
theorem d_Mo_lawLine_42 : decode m_Mo_lawLine.2.1 42 = .ok (.ifCond .ne 22, 3) := by decide +kernel
theorem d_Mo_lawLine_45 : decode m_Mo_lawLine.2.1 45 = .ok (.aload_n 0, 1) := by decide +kernel
theorem d_Mo_lawLine_46 : decode m_Mo_lawLine.2.1 46 = .ok (.getfield 234, 3) := by decide +kernel
theorem d_Mo_lawLine_49 : decode m_Mo_lawLine.2.1 49 = .ok (.iconst 1, 1) := by decide +kernel
theorem d_Mo_lawLine_50 : decode m_Mo_lawLine.2.1 50 = .ok (.iload_n 1, 1) := by decide +kernel
theorem d_Mo_lawLine_51 : decode m_Mo_lawLine.2.1 51 = .ok (.iadd, 1) := by decide +kernel
theorem d_Mo_lawLine_52 : decode m_Mo_lawLine.2.1 52 = .ok (.ishr, 1) := by decide +kernel
theorem d_Mo_lawLine_53 : decode m_Mo_lawLine.2.1 53 = .ok (.iconst 1, 1) := by decide +kernel
theorem d_Mo_lawLine_54 : decode m_Mo_lawLine.2.1 54 = .ok (.iand, 1) := by decide +kernel
theorem d_Mo_lawLine_55 : decode m_Mo_lawLine.2.1 55 = .ok (.iconst 1, 1) := by decide +kernel
theorem d_Mo_lawLine_56 : decode m_Mo_lawLine.2.1 56 = .ok (.if_icmp .ne 8, 3) := by decide +kernel
theorem d_Mo_lawLine_59 : decode m_Mo_lawLine.2.1 59 = .ok (.aload_n 0, 1) := by decide +kernel
theorem d_Mo_lawLine_60 : decode m_Mo_lawLine.2.1 60 = .ok (.iconst 3, 1) := by decide +kernel
theorem d_Mo_lawLine_61 : decode m_Mo_lawLine.2.1 61 = .ok (.invokevirtual 223, 3) := by decide +kernel
theorem d_Mo_lawLine_64 : decode m_Mo_lawLine.2.1 64 = .ok (.aload_n 0, 1) := by decide +kernel
theorem d_Mo_lawLine_65 : decode m_Mo_lawLine.2.1 65 = .ok (.getfield 214, 3) := by decide +kernel
theorem d_Mo_lawLine_68 : decode m_Mo_lawLine.2.1 68 = .ok (.ifCond .eq 4, 3) := by decide +kernel
theorem d_Mo_lawLine_71 : decode m_Mo_lawLine.2.1 71 = .ok (.return_, 1) := by decide +kernel
theorem d_Mo_lawLine_72 : decode m_Mo_lawLine.2.1 72 = .ok (.aload_n 0, 1) := by decide +kernel
theorem d_Mo_lawLine_73 : decode m_Mo_lawLine.2.1 73 = .ok (.dup, 1) := by decide +kernel
theorem d_Mo_lawLine_74 : decode m_Mo_lawLine.2.1 74 = .ok (.getfield 234, 3) := by decide +kernel
theorem d_Mo_lawLine_77 : decode m_Mo_lawLine.2.1 77 = .ok (.iconst 2, 1) := by decide +kernel
theorem d_Mo_lawLine_78 : decode m_Mo_lawLine.2.1 78 = .ok (.iload_n 1, 1) := by decide +kernel
theorem d_Mo_lawLine_79 : decode m_Mo_lawLine.2.1 79 = .ok (.ishl, 1) := by decide +kernel
theorem d_Mo_lawLine_80 : decode m_Mo_lawLine.2.1 80 = .ok (.ior, 1) := by decide +kernel
theorem d_Mo_lawLine_81 : decode m_Mo_lawLine.2.1 81 = .ok (.putfield 234, 3) := by decide +kernel
theorem d_Mo_lawLine_84 : decode m_Mo_lawLine.2.1 84 = .ok (.aload_n 0, 1) := by decide +kernel
theorem d_Mo_lawLine_85 : decode m_Mo_lawLine.2.1 85 = .ok (.invokevirtual 220, 3) := by decide +kernel
theorem d_Mo_lawLine_88 : decode m_Mo_lawLine.2.1 88 = .ok (.aload_n 0, 1) := by decide +kernel
theorem d_Mo_lawLine_89 : decode m_Mo_lawLine.2.1 89 = .ok (.getfield 41, 3) := by decide +kernel
theorem d_Mo_lawLine_92 : decode m_Mo_lawLine.2.1 92 = .ok (.iconst 4, 1) := by decide +kernel
theorem d_Mo_lawLine_93 : decode m_Mo_lawLine.2.1 93 = .ok (.iload_n 1, 1) := by decide +kernel
theorem d_Mo_lawLine_94 : decode m_Mo_lawLine.2.1 94 = .ok (.iadd, 1) := by decide +kernel
theorem d_Mo_lawLine_95 : decode m_Mo_lawLine.2.1 95 = .ok (.aload_n 0, 1) := by decide +kernel
theorem d_Mo_lawLine_96 : decode m_Mo_lawLine.2.1 96 = .ok (.iconst 3, 1) := by decide +kernel
theorem d_Mo_lawLine_97 : decode m_Mo_lawLine.2.1 97 = .ok (.invokevirtual 230, 3) := by decide +kernel
theorem d_Mo_lawLine_100 : decode m_Mo_lawLine.2.1 100 = .ok (.iastore, 1) := by decide +kernel
theorem d_Mo_lawLine_101 : decode m_Mo_lawLine.2.1 101 = .ok (.aload_n 0, 1) := by decide +kernel
theorem d_Mo_lawLine_102 : decode m_Mo_lawLine.2.1 102 = .ok (.invokevirtual 260, 3) := by decide +kernel
theorem d_Mo_lawLine_105 : decode m_Mo_lawLine.2.1 105 = .ok (.aload_n 0, 1) := by decide +kernel
theorem d_Mo_lawLine_106 : decode m_Mo_lawLine.2.1 106 = .ok (.getfield 44, 3) := by decide +kernel
theorem d_Mo_lawLine_109 : decode m_Mo_lawLine.2.1 109 = .ok (.iconst 4, 1) := by decide +kernel
theorem d_Mo_lawLine_110 : decode m_Mo_lawLine.2.1 110 = .ok (.iload_n 1, 1) := by decide +kernel
theorem d_Mo_lawLine_111 : decode m_Mo_lawLine.2.1 111 = .ok (.iadd, 1) := by decide +kernel
theorem d_Mo_lawLine_112 : decode m_Mo_lawLine.2.1 112 = .ok (.aload_n 0, 1) := by decide +kernel
theorem d_Mo_lawLine_113 : decode m_Mo_lawLine.2.1 113 = .ok (.iconst 3, 1) := by decide +kernel
theorem d_Mo_lawLine_114 : decode m_Mo_lawLine.2.1 114 = .ok (.invokevirtual 230, 3) := by decide +kernel
theorem d_Mo_lawLine_117 : decode m_Mo_lawLine.2.1 117 = .ok (.iastore, 1) := by decide +kernel
theorem d_Mo_lawLine_118 : decode m_Mo_lawLine.2.1 118 = .ok (.return_, 1) := by decide +kernel
theorem d_Mo_expression_0 : decode m_Mo_expression.2.1 0 = .ok (.aload_n 0, 1) := by decide +kernel
theorem d_Mo_expression_1 : decode m_Mo_expression.2.1 1 = .ok (.invokevirtual 266, 3) := by decide +kernel
theorem d_Mo_expression_4 : decode m_Mo_expression.2.1 4 = .ok (.aload_n 0, 1) := by decide +kernel
theorem d_Mo_expression_5 : decode m_Mo_expression.2.1 5 = .ok (.bipush 10, 2) := by decide +kernel
theorem d_Mo_expression_7 : decode m_Mo_expression.2.1 7 = .ok (.invokevirtual 257, 3) := by decide +kernel
theorem d_Mo_expression_10 : decode m_Mo_expression.2.1 10 = .ok (.ifCond .eq 26, 3) := by decide +kernel
theorem d_Mo_expression_13 : decode m_Mo_expression.2.1 13 = .ok (.aload_n 0, 1) := by decide +kernel
theorem d_Mo_expression_14 : decode m_Mo_expression.2.1 14 = .ok (.invokevirtual 269, 3) := by decide +kernel
theorem d_Mo_expression_17 : decode m_Mo_expression.2.1 17 = .ok (.aload_n 0, 1) := by decide +kernel
theorem d_Mo_expression_18 : decode m_Mo_expression.2.1 18 = .ok (.invokevirtual 272, 3) := by decide +kernel
theorem d_Mo_expression_21 : decode m_Mo_expression.2.1 21 = .ok (.aload_n 0, 1) := by decide +kernel
theorem d_Mo_expression_22 : decode m_Mo_expression.2.1 22 = .ok (.invokevirtual 266, 3) := by decide +kernel
theorem d_Mo_expression_25 : decode m_Mo_expression.2.1 25 = .ok (.aload_n 0, 1) := by decide +kernel
theorem d_Mo_expression_26 : decode m_Mo_expression.2.1 26 = .ok (.iconst 2, 1) := by decide +kernel
theorem d_Mo_expression_27 : decode m_Mo_expression.2.1 27 = .ok (.sipush 262, 3) := by decide +kernel
theorem d_Mo_expression_30 : decode m_Mo_expression.2.1 30 = .ok (.invokevirtual 275, 3) := by decide +kernel
theorem d_Mo_expression_33 : decode m_Mo_expression.2.1 33 = .ok (.goto (-29), 3) := by decide +kernel
theorem d_Mo_expression_36 : decode m_Mo_expression.2.1 36 = .ok (.return_, 1) := by decide +kernel
theorem d_Mo_conjunction_0 : decode m_Mo_conjunction.2.1 0 = .ok (.aload_n 0, 1) := by decide +kernel
theorem d_Mo_conjunction_1 : decode m_Mo_conjunction.2.1 1 = .ok (.invokevirtual 279, 3) := by decide +kernel
theorem d_Mo_conjunction_4 : decode m_Mo_conjunction.2.1 4 = .ok (.aload_n 0, 1) := by decide +kernel
theorem d_Mo_conjunction_5 : decode m_Mo_conjunction.2.1 5 = .ok (.bipush 11, 2) := by decide +kernel
theorem d_Mo_conjunction_7 : decode m_Mo_conjunction.2.1 7 = .ok (.invokevirtual 257, 3) := by decide +kernel
theorem d_Mo_conjunction_10 : decode m_Mo_conjunction.2.1 10 = .ok (.ifCond .eq 26, 3) := by decide +kernel
theorem d_Mo_conjunction_13 : decode m_Mo_conjunction.2.1 13 = .ok (.aload_n 0, 1) := by decide +kernel
theorem d_Mo_conjunction_14 : decode m_Mo_conjunction.2.1 14 = .ok (.invokevirtual 269, 3) := by decide +kernel
theorem d_Mo_conjunction_17 : decode m_Mo_conjunction.2.1 17 = .ok (.aload_n 0, 1) := by decide +kernel
theorem d_Mo_conjunction_18 : decode m_Mo_conjunction.2.1 18 = .ok (.invokevirtual 272, 3) := by decide +kernel
theorem d_Mo_conjunction_21 : decode m_Mo_conjunction.2.1 21 = .ok (.aload_n 0, 1) := by decide +kernel
theorem d_Mo_conjunction_22 : decode m_Mo_conjunction.2.1 22 = .ok (.invokevirtual 279, 3) := by decide +kernel
theorem d_Mo_conjunction_25 : decode m_Mo_conjunction.2.1 25 = .ok (.aload_n 0, 1) := by decide +kernel
theorem d_Mo_conjunction_26 : decode m_Mo_conjunction.2.1 26 = .ok (.iconst 2, 1) := by decide +kernel
theorem d_Mo_conjunction_27 : decode m_Mo_conjunction.2.1 27 = .ok (.sipush 261, 3) := by decide +kernel
theorem d_Mo_conjunction_30 : decode m_Mo_conjunction.2.1 30 = .ok (.invokevirtual 275, 3) := by decide +kernel
theorem d_Mo_conjunction_33 : decode m_Mo_conjunction.2.1 33 = .ok (.goto (-29), 3) := by decide +kernel
theorem d_Mo_conjunction_36 : decode m_Mo_conjunction.2.1 36 = .ok (.return_, 1) := by decide +kernel
theorem d_Mo_negation_0 : decode m_Mo_negation.2.1 0 = .ok (.aload_n 0, 1) := by decide +kernel
theorem d_Mo_negation_1 : decode m_Mo_negation.2.1 1 = .ok (.bipush 12, 2) := by decide +kernel
theorem d_Mo_negation_3 : decode m_Mo_negation.2.1 3 = .ok (.invokevirtual 257, 3) := by decide +kernel
theorem d_Mo_negation_6 : decode m_Mo_negation.2.1 6 = .ok (.ifCond .eq 24, 3) := by decide +kernel
theorem d_Mo_negation_9 : decode m_Mo_negation.2.1 9 = .ok (.aload_n 0, 1) := by decide +kernel
theorem d_Mo_negation_10 : decode m_Mo_negation.2.1 10 = .ok (.invokevirtual 269, 3) := by decide +kernel
theorem d_Mo_negation_13 : decode m_Mo_negation.2.1 13 = .ok (.aload_n 0, 1) := by decide +kernel
theorem d_Mo_negation_14 : decode m_Mo_negation.2.1 14 = .ok (.invokevirtual 272, 3) := by decide +kernel
theorem d_Mo_negation_17 : decode m_Mo_negation.2.1 17 = .ok (.aload_n 0, 1) := by decide +kernel
theorem d_Mo_negation_18 : decode m_Mo_negation.2.1 18 = .ok (.invokevirtual 279, 3) := by decide +kernel
theorem d_Mo_negation_21 : decode m_Mo_negation.2.1 21 = .ok (.aload_n 0, 1) := by decide +kernel
theorem d_Mo_negation_22 : decode m_Mo_negation.2.1 22 = .ok (.iconst 2, 1) := by decide +kernel
theorem d_Mo_negation_23 : decode m_Mo_negation.2.1 23 = .ok (.sipush 260, 3) := by decide +kernel
theorem d_Mo_negation_26 : decode m_Mo_negation.2.1 26 = .ok (.invokevirtual 275, 3) := by decide +kernel
theorem d_Mo_negation_29 : decode m_Mo_negation.2.1 29 = .ok (.return_, 1) := by decide +kernel
theorem d_Mo_negation_30 : decode m_Mo_negation.2.1 30 = .ok (.aload_n 0, 1) := by decide +kernel
theorem d_Mo_negation_31 : decode m_Mo_negation.2.1 31 = .ok (.invokevirtual 282, 3) := by decide +kernel
theorem d_Mo_negation_34 : decode m_Mo_negation.2.1 34 = .ok (.aload_n 0, 1) := by decide +kernel
theorem d_Mo_negation_35 : decode m_Mo_negation.2.1 35 = .ok (.getfield 214, 3) := by decide +kernel
theorem d_Mo_negation_38 : decode m_Mo_negation.2.1 38 = .ok (.ifCond .ne 48, 3) := by decide +kernel
theorem d_Mo_negation_41 : decode m_Mo_negation.2.1 41 = .ok (.aload_n 0, 1) := by decide +kernel
theorem d_Mo_negation_42 : decode m_Mo_negation.2.1 42 = .ok (.getfield 179, 3) := by decide +kernel
theorem d_Mo_negation_45 : decode m_Mo_negation.2.1 45 = .ok (.iconst 3, 1) := by decide +kernel
theorem d_Mo_negation_46 : decode m_Mo_negation.2.1 46 = .ok (.if_icmp .ne 40, 3) := by decide +kernel
theorem d_Mo_negation_49 : decode m_Mo_negation.2.1 49 = .ok (.aload_n 0, 1) := by decide +kernel
theorem d_Mo_negation_50 : decode m_Mo_negation.2.1 50 = .ok (.getfield 189, 3) := by decide +kernel
theorem d_Mo_negation_53 : decode m_Mo_negation.2.1 53 = .ok (.bipush 60, 2) := by decide +kernel
theorem d_Mo_negation_55 : decode m_Mo_negation.2.1 55 = .ok (.if_icmp .eq 32, 3) := by decide +kernel
theorem d_Mo_negation_58 : decode m_Mo_negation.2.1 58 = .ok (.aload_n 0, 1) := by decide +kernel
theorem d_Mo_negation_59 : decode m_Mo_negation.2.1 59 = .ok (.getfield 189, 3) := by decide +kernel
theorem d_Mo_negation_62 : decode m_Mo_negation.2.1 62 = .ok (.bipush 62, 2) := by decide +kernel
theorem d_Mo_negation_64 : decode m_Mo_negation.2.1 64 = .ok (.if_icmp .eq 23, 3) := by decide +kernel
theorem d_Mo_negation_67 : decode m_Mo_negation.2.1 67 = .ok (.aload_n 0, 1) := by decide +kernel
theorem d_Mo_negation_68 : decode m_Mo_negation.2.1 68 = .ok (.getfield 189, 3) := by decide +kernel
theorem d_Mo_negation_71 : decode m_Mo_negation.2.1 71 = .ok (.bipush 61, 2) := by decide +kernel
theorem d_Mo_negation_73 : decode m_Mo_negation.2.1 73 = .ok (.if_icmp .eq 14, 3) := by decide +kernel
theorem d_Mo_negation_76 : decode m_Mo_negation.2.1 76 = .ok (.aload_n 0, 1) := by decide +kernel
theorem d_Mo_negation_77 : decode m_Mo_negation.2.1 77 = .ok (.getfield 189, 3) := by decide +kernel
theorem d_Mo_negation_80 : decode m_Mo_negation.2.1 80 = .ok (.sipush 256, 3) := by decide +kernel
theorem d_Mo_negation_83 : decode m_Mo_negation.2.1 83 = .ok (.if_icmp .ge 4, 3) := by decide +kernel
theorem d_Mo_negation_86 : decode m_Mo_negation.2.1 86 = .ok (.return_, 1) := by decide +kernel
theorem d_Mo_negation_87 : decode m_Mo_negation.2.1 87 = .ok (.aload_n 0, 1) := by decide +kernel
theorem d_Mo_negation_88 : decode m_Mo_negation.2.1 88 = .ok (.getfield 189, 3) := by decide +kernel
theorem d_Mo_negation_91 : decode m_Mo_negation.2.1 91 = .ok (.istore_n 1, 1) := by decide +kernel
theorem d_Mo_negation_92 : decode m_Mo_negation.2.1 92 = .ok (.aload_n 0, 1) := by decide +kernel
theorem d_Mo_negation_93 : decode m_Mo_negation.2.1 93 = .ok (.invokevirtual 269, 3) := by decide +kernel
theorem d_Mo_negation_96 : decode m_Mo_negation.2.1 96 = .ok (.aload_n 0, 1) := by decide +kernel
theorem d_Mo_negation_97 : decode m_Mo_negation.2.1 97 = .ok (.invokevirtual 272, 3) := by decide +kernel
theorem d_Mo_negation_100 : decode m_Mo_negation.2.1 100 = .ok (.aload_n 0, 1) := by decide +kernel
theorem d_Mo_negation_101 : decode m_Mo_negation.2.1 101 = .ok (.invokevirtual 282, 3) := by decide +kernel
theorem d_Mo_negation_104 : decode m_Mo_negation.2.1 104 = .ok (.aload_n 0, 1) := by decide +kernel
theorem d_Mo_negation_105 : decode m_Mo_negation.2.1 105 = .ok (.iconst 2, 1) := by decide +kernel
theorem d_Mo_negation_106 : decode m_Mo_negation.2.1 106 = .ok (.iload_n 1, 1) := by decide +kernel
theorem d_Mo_negation_107 : decode m_Mo_negation.2.1 107 = .ok (.invokevirtual 275, 3) := by decide +kernel
theorem d_Mo_negation_110 : decode m_Mo_negation.2.1 110 = .ok (.return_, 1) := by decide +kernel
theorem d_Mo_knot_0 : decode m_Mo_knot.2.1 0 = .ok (.aload_n 0, 1) := by decide +kernel
theorem d_Mo_knot_1 : decode m_Mo_knot.2.1 1 = .ok (.getfield 214, 3) := by decide +kernel
theorem d_Mo_knot_4 : decode m_Mo_knot.2.1 4 = .ok (.ifCond .eq 4, 3) := by decide +kernel
theorem d_Mo_knot_7 : decode m_Mo_knot.2.1 7 = .ok (.return_, 1) := by decide +kernel
theorem d_Mo_knot_8 : decode m_Mo_knot.2.1 8 = .ok (.aload_n 0, 1) := by decide +kernel
theorem d_Mo_knot_9 : decode m_Mo_knot.2.1 9 = .ok (.getfield 263, 3) := by decide +kernel
theorem d_Mo_knot_12 : decode m_Mo_knot.2.1 12 = .ok (.bipush 64, 2) := by decide +kernel
theorem d_Mo_knot_14 : decode m_Mo_knot.2.1 14 = .ok (.if_icmp .ne 11, 3) := by decide +kernel
theorem d_Mo_knot_17 : decode m_Mo_knot.2.1 17 = .ok (.aload_n 0, 1) := by decide +kernel
theorem d_Mo_knot_18 : decode m_Mo_knot.2.1 18 = .ok (.iconst 2, 1) := by decide +kernel
theorem d_Mo_knot_19 : decode m_Mo_knot.2.1 19 = .ok (.invokevirtual 223, 3) := by decide +kernel
theorem d_Mo_knot_22 : decode m_Mo_knot.2.1 22 = .ok (.goto 13, 3) := by decide +kernel
theorem d_Mo_knot_25 : decode m_Mo_knot.2.1 25 = .ok (.aload_n 0, 1) := by decide +kernel
theorem d_Mo_knot_26 : decode m_Mo_knot.2.1 26 = .ok (.dup, 1) := by decide +kernel
theorem d_Mo_knot_27 : decode m_Mo_knot.2.1 27 = .ok (.getfield 263, 3) := by decide +kernel
theorem d_Mo_knot_30 : decode m_Mo_knot.2.1 30 = .ok (.iconst 1, 1) := by decide +kernel
theorem d_Mo_knot_31 : decode m_Mo_knot.2.1 31 = .ok (.iadd, 1) := by decide +kernel
theorem d_Mo_knot_32 : decode m_Mo_knot.2.1 32 = .ok (.putfield 263, 3) := by decide +kernel
theorem d_Mo_knot_35 : decode m_Mo_knot.2.1 35 = .ok (.return_, 1) := by decide +kernel
theorem d_Mo_goOn_0 : decode m_Mo_goOn.2.1 0 = .ok (.aload_n 0, 1) := by decide +kernel
theorem d_Mo_goOn_1 : decode m_Mo_goOn.2.1 1 = .ok (.getfield 214, 3) := by decide +kernel
theorem d_Mo_goOn_4 : decode m_Mo_goOn.2.1 4 = .ok (.ifCond .ne 7, 3) := by decide +kernel
theorem d_Mo_goOn_7 : decode m_Mo_goOn.2.1 7 = .ok (.aload_n 0, 1) := by decide +kernel
theorem d_Mo_goOn_8 : decode m_Mo_goOn.2.1 8 = .ok (.invokevirtual 220, 3) := by decide +kernel
theorem d_Mo_goOn_11 : decode m_Mo_goOn.2.1 11 = .ok (.return_, 1) := by decide +kernel
theorem d_Mo_puts_0 : decode m_Mo_puts.2.1 0 = .ok (.aload_n 0, 1) := by decide +kernel
theorem d_Mo_puts_1 : decode m_Mo_puts.2.1 1 = .ok (.getfield 214, 3) := by decide +kernel
theorem d_Mo_puts_4 : decode m_Mo_puts.2.1 4 = .ok (.ifCond .eq 4, 3) := by decide +kernel
theorem d_Mo_puts_7 : decode m_Mo_puts.2.1 7 = .ok (.return_, 1) := by decide +kernel
theorem d_Mo_puts_8 : decode m_Mo_puts.2.1 8 = .ok (.aload_n 0, 1) := by decide +kernel
theorem d_Mo_puts_9 : decode m_Mo_puts.2.1 9 = .ok (.getfield 47, 3) := by decide +kernel
theorem d_Mo_puts_12 : decode m_Mo_puts.2.1 12 = .ok (.bipush 64, 2) := by decide +kernel
theorem d_Mo_puts_14 : decode m_Mo_puts.2.1 14 = .ok (.aload_n 0, 1) := by decide +kernel
theorem d_Mo_puts_15 : decode m_Mo_puts.2.1 15 = .ok (.iconst 3, 1) := by decide +kernel
theorem d_Mo_puts_16 : decode m_Mo_puts.2.1 16 = .ok (.invokevirtual 230, 3) := by decide +kernel
theorem d_Mo_puts_19 : decode m_Mo_puts.2.1 19 = .ok (.iadd, 1) := by decide +kernel
theorem d_Mo_puts_20 : decode m_Mo_puts.2.1 20 = .ok (.iload_n 1, 1) := by decide +kernel
theorem d_Mo_puts_21 : decode m_Mo_puts.2.1 21 = .ok (.iastore, 1) := by decide +kernel
theorem d_Mo_puts_22 : decode m_Mo_puts.2.1 22 = .ok (.aload_n 0, 1) := by decide +kernel
theorem d_Mo_puts_23 : decode m_Mo_puts.2.1 23 = .ok (.getfield 50, 3) := by decide +kernel
theorem d_Mo_puts_26 : decode m_Mo_puts.2.1 26 = .ok (.bipush 64, 2) := by decide +kernel
theorem d_Mo_puts_28 : decode m_Mo_puts.2.1 28 = .ok (.aload_n 0, 1) := by decide +kernel
theorem d_Mo_puts_29 : decode m_Mo_puts.2.1 29 = .ok (.iconst 3, 1) := by decide +kernel
theorem d_Mo_puts_30 : decode m_Mo_puts.2.1 30 = .ok (.invokevirtual 230, 3) := by decide +kernel
theorem d_Mo_puts_33 : decode m_Mo_puts.2.1 33 = .ok (.iadd, 1) := by decide +kernel
theorem d_Mo_puts_34 : decode m_Mo_puts.2.1 34 = .ok (.iload_n 2, 1) := by decide +kernel
theorem d_Mo_puts_35 : decode m_Mo_puts.2.1 35 = .ok (.iastore, 1) := by decide +kernel
theorem d_Mo_puts_36 : decode m_Mo_puts.2.1 36 = .ok (.aload_n 0, 1) := by decide +kernel
theorem d_Mo_puts_37 : decode m_Mo_puts.2.1 37 = .ok (.getfield 13, 3) := by decide +kernel
theorem d_Mo_puts_40 : decode m_Mo_puts.2.1 40 = .ok (.bipush 7, 2) := by decide +kernel
theorem d_Mo_puts_42 : decode m_Mo_puts.2.1 42 = .ok (.dup2, 1) := by decide +kernel
theorem d_Mo_puts_43 : decode m_Mo_puts.2.1 43 = .ok (.iaload, 1) := by decide +kernel
theorem d_Mo_puts_44 : decode m_Mo_puts.2.1 44 = .ok (.iconst 1, 1) := by decide +kernel
theorem d_Mo_puts_45 : decode m_Mo_puts.2.1 45 = .ok (.iadd, 1) := by decide +kernel
theorem d_Mo_puts_46 : decode m_Mo_puts.2.1 46 = .ok (.iastore, 1) := by decide +kernel
theorem d_Mo_puts_47 : decode m_Mo_puts.2.1 47 = .ok (.return_, 1) := by decide +kernel
theorem d_Mo_sum_0 : decode m_Mo_sum.2.1 0 = .ok (.aload_n 0, 1) := by decide +kernel
theorem d_Mo_sum_1 : decode m_Mo_sum.2.1 1 = .ok (.invokevirtual 285, 3) := by decide +kernel
theorem d_Mo_sum_4 : decode m_Mo_sum.2.1 4 = .ok (.aload_n 0, 1) := by decide +kernel
theorem d_Mo_sum_5 : decode m_Mo_sum.2.1 5 = .ok (.bipush 43, 2) := by decide +kernel
theorem d_Mo_sum_7 : decode m_Mo_sum.2.1 7 = .ok (.invokevirtual 251, 3) := by decide +kernel
theorem d_Mo_sum_10 : decode m_Mo_sum.2.1 10 = .ok (.ifCond .ne 12, 3) := by decide +kernel
theorem d_Mo_sum_13 : decode m_Mo_sum.2.1 13 = .ok (.aload_n 0, 1) := by decide +kernel
theorem d_Mo_sum_14 : decode m_Mo_sum.2.1 14 = .ok (.bipush 45, 2) := by decide +kernel
theorem d_Mo_sum_16 : decode m_Mo_sum.2.1 16 = .ok (.invokevirtual 251, 3) := by decide +kernel
theorem d_Mo_sum_19 : decode m_Mo_sum.2.1 19 = .ok (.ifCond .eq 29, 3) := by decide +kernel
theorem d_Mo_sum_22 : decode m_Mo_sum.2.1 22 = .ok (.aload_n 0, 1) := by decide +kernel
theorem d_Mo_sum_23 : decode m_Mo_sum.2.1 23 = .ok (.getfield 189, 3) := by decide +kernel
theorem d_Mo_sum_26 : decode m_Mo_sum.2.1 26 = .ok (.istore_n 1, 1) := by decide +kernel
theorem d_Mo_sum_27 : decode m_Mo_sum.2.1 27 = .ok (.aload_n 0, 1) := by decide +kernel
theorem d_Mo_sum_28 : decode m_Mo_sum.2.1 28 = .ok (.invokevirtual 269, 3) := by decide +kernel
theorem d_Mo_sum_31 : decode m_Mo_sum.2.1 31 = .ok (.aload_n 0, 1) := by decide +kernel
theorem d_Mo_sum_32 : decode m_Mo_sum.2.1 32 = .ok (.invokevirtual 272, 3) := by decide +kernel
theorem d_Mo_sum_35 : decode m_Mo_sum.2.1 35 = .ok (.aload_n 0, 1) := by decide +kernel
theorem d_Mo_sum_36 : decode m_Mo_sum.2.1 36 = .ok (.invokevirtual 285, 3) := by decide +kernel
theorem d_Mo_sum_39 : decode m_Mo_sum.2.1 39 = .ok (.aload_n 0, 1) := by decide +kernel
theorem d_Mo_sum_40 : decode m_Mo_sum.2.1 40 = .ok (.iconst 2, 1) := by decide +kernel
theorem d_Mo_sum_41 : decode m_Mo_sum.2.1 41 = .ok (.iload_n 1, 1) := by decide +kernel
theorem d_Mo_sum_42 : decode m_Mo_sum.2.1 42 = .ok (.invokevirtual 275, 3) := by decide +kernel
theorem d_Mo_sum_45 : decode m_Mo_sum.2.1 45 = .ok (.goto (-41), 3) := by decide +kernel
theorem d_Mo_sum_48 : decode m_Mo_sum.2.1 48 = .ok (.return_, 1) := by decide +kernel
theorem d_Mo_product_0 : decode m_Mo_product.2.1 0 = .ok (.aload_n 0, 1) := by decide +kernel
theorem d_Mo_product_1 : decode m_Mo_product.2.1 1 = .ok (.invokevirtual 288, 3) := by decide +kernel
theorem d_Mo_product_4 : decode m_Mo_product.2.1 4 = .ok (.aload_n 0, 1) := by decide +kernel
theorem d_Mo_product_5 : decode m_Mo_product.2.1 5 = .ok (.bipush 42, 2) := by decide +kernel
theorem d_Mo_product_7 : decode m_Mo_product.2.1 7 = .ok (.invokevirtual 251, 3) := by decide +kernel
theorem d_Mo_product_10 : decode m_Mo_product.2.1 10 = .ok (.ifCond .ne 12, 3) := by decide +kernel
theorem d_Mo_product_13 : decode m_Mo_product.2.1 13 = .ok (.aload_n 0, 1) := by decide +kernel
theorem d_Mo_product_14 : decode m_Mo_product.2.1 14 = .ok (.bipush 47, 2) := by decide +kernel
theorem d_Mo_product_16 : decode m_Mo_product.2.1 16 = .ok (.invokevirtual 251, 3) := by decide +kernel
theorem d_Mo_product_19 : decode m_Mo_product.2.1 19 = .ok (.ifCond .eq 29, 3) := by decide +kernel
theorem d_Mo_product_22 : decode m_Mo_product.2.1 22 = .ok (.aload_n 0, 1) := by decide +kernel
theorem d_Mo_product_23 : decode m_Mo_product.2.1 23 = .ok (.getfield 189, 3) := by decide +kernel
theorem d_Mo_product_26 : decode m_Mo_product.2.1 26 = .ok (.istore_n 1, 1) := by decide +kernel
theorem d_Mo_product_27 : decode m_Mo_product.2.1 27 = .ok (.aload_n 0, 1) := by decide +kernel
theorem d_Mo_product_28 : decode m_Mo_product.2.1 28 = .ok (.invokevirtual 269, 3) := by decide +kernel
theorem d_Mo_product_31 : decode m_Mo_product.2.1 31 = .ok (.aload_n 0, 1) := by decide +kernel
theorem d_Mo_product_32 : decode m_Mo_product.2.1 32 = .ok (.invokevirtual 272, 3) := by decide +kernel
theorem d_Mo_product_35 : decode m_Mo_product.2.1 35 = .ok (.aload_n 0, 1) := by decide +kernel
theorem d_Mo_product_36 : decode m_Mo_product.2.1 36 = .ok (.invokevirtual 288, 3) := by decide +kernel
theorem d_Mo_product_39 : decode m_Mo_product.2.1 39 = .ok (.aload_n 0, 1) := by decide +kernel
theorem d_Mo_product_40 : decode m_Mo_product.2.1 40 = .ok (.iconst 2, 1) := by decide +kernel
theorem d_Mo_product_41 : decode m_Mo_product.2.1 41 = .ok (.iload_n 1, 1) := by decide +kernel
theorem d_Mo_product_42 : decode m_Mo_product.2.1 42 = .ok (.invokevirtual 275, 3) := by decide +kernel
theorem d_Mo_product_45 : decode m_Mo_product.2.1 45 = .ok (.goto (-41), 3) := by decide +kernel
theorem d_Mo_product_48 : decode m_Mo_product.2.1 48 = .ok (.return_, 1) := by decide +kernel
theorem d_Mo_primary_0 : decode m_Mo_primary.2.1 0 = .ok (.aload_n 0, 1) := by decide +kernel
theorem d_Mo_primary_1 : decode m_Mo_primary.2.1 1 = .ok (.getfield 214, 3) := by decide +kernel
theorem d_Mo_primary_4 : decode m_Mo_primary.2.1 4 = .ok (.ifCond .eq 4, 3) := by decide +kernel
theorem d_Mo_primary_7 : decode m_Mo_primary.2.1 7 = .ok (.return_, 1) := by decide +kernel
theorem d_Mo_primary_8 : decode m_Mo_primary.2.1 8 = .ok (.aload_n 0, 1) := by decide +kernel
theorem d_Mo_primary_9 : decode m_Mo_primary.2.1 9 = .ok (.bipush 40, 2) := by decide +kernel
theorem d_Mo_primary_11 : decode m_Mo_primary.2.1 11 = .ok (.invokevirtual 251, 3) := by decide +kernel
theorem d_Mo_primary_14 : decode m_Mo_primary.2.1 14 = .ok (.ifCond .eq 87, 3) := by decide +kernel
theorem d_Mo_primary_17 : decode m_Mo_primary.2.1 17 = .ok (.aload_n 0, 1) := by decide +kernel
theorem d_Mo_primary_18 : decode m_Mo_primary.2.1 18 = .ok (.getfield 291, 3) := by decide +kernel
theorem d_Mo_primary_21 : decode m_Mo_primary.2.1 21 = .ok (.bipush 8, 2) := by decide +kernel
theorem d_Mo_primary_23 : decode m_Mo_primary.2.1 23 = .ok (.if_icmp .ne 8, 3) := by decide +kernel
theorem d_Mo_primary_26 : decode m_Mo_primary.2.1 26 = .ok (.aload_n 0, 1) := by decide +kernel
theorem d_Mo_primary_27 : decode m_Mo_primary.2.1 27 = .ok (.iconst 2, 1) := by decide +kernel
theorem d_Mo_primary_28 : decode m_Mo_primary.2.1 28 = .ok (.invokevirtual 223, 3) := by decide +kernel
theorem d_Mo_primary_31 : decode m_Mo_primary.2.1 31 = .ok (.aload_n 0, 1) := by decide +kernel
theorem d_Mo_primary_32 : decode m_Mo_primary.2.1 32 = .ok (.getfield 214, 3) := by decide +kernel
theorem d_Mo_primary_35 : decode m_Mo_primary.2.1 35 = .ok (.ifCond .eq 4, 3) := by decide +kernel
theorem d_Mo_primary_38 : decode m_Mo_primary.2.1 38 = .ok (.return_, 1) := by decide +kernel
theorem d_Mo_primary_39 : decode m_Mo_primary.2.1 39 = .ok (.aload_n 0, 1) := by decide +kernel
theorem d_Mo_primary_40 : decode m_Mo_primary.2.1 40 = .ok (.dup, 1) := by decide +kernel
theorem d_Mo_primary_41 : decode m_Mo_primary.2.1 41 = .ok (.getfield 291, 3) := by decide +kernel
theorem d_Mo_primary_44 : decode m_Mo_primary.2.1 44 = .ok (.iconst 1, 1) := by decide +kernel
theorem d_Mo_primary_45 : decode m_Mo_primary.2.1 45 = .ok (.iadd, 1) := by decide +kernel
theorem d_Mo_primary_46 : decode m_Mo_primary.2.1 46 = .ok (.putfield 291, 3) := by decide +kernel
theorem d_Mo_primary_49 : decode m_Mo_primary.2.1 49 = .ok (.aload_n 0, 1) := by decide +kernel
theorem d_Mo_primary_50 : decode m_Mo_primary.2.1 50 = .ok (.invokevirtual 220, 3) := by decide +kernel
theorem d_Mo_primary_53 : decode m_Mo_primary.2.1 53 = .ok (.aload_n 0, 1) := by decide +kernel
theorem d_Mo_primary_54 : decode m_Mo_primary.2.1 54 = .ok (.invokevirtual 260, 3) := by decide +kernel
theorem d_Mo_primary_57 : decode m_Mo_primary.2.1 57 = .ok (.aload_n 0, 1) := by decide +kernel
theorem d_Mo_primary_58 : decode m_Mo_primary.2.1 58 = .ok (.getfield 214, 3) := by decide +kernel
theorem d_Mo_primary_61 : decode m_Mo_primary.2.1 61 = .ok (.ifCond .ne 17, 3) := by decide +kernel
theorem d_Mo_primary_64 : decode m_Mo_primary.2.1 64 = .ok (.aload_n 0, 1) := by decide +kernel
theorem d_Mo_primary_65 : decode m_Mo_primary.2.1 65 = .ok (.bipush 41, 2) := by decide +kernel
theorem d_Mo_primary_67 : decode m_Mo_primary.2.1 67 = .ok (.invokevirtual 251, 3) := by decide +kernel
theorem d_Mo_primary_70 : decode m_Mo_primary.2.1 70 = .ok (.ifCond .ne 8, 3) := by decide +kernel
theorem d_Mo_primary_73 : decode m_Mo_primary.2.1 73 = .ok (.aload_n 0, 1) := by decide +kernel
theorem d_Mo_primary_74 : decode m_Mo_primary.2.1 74 = .ok (.iconst 1, 1) := by decide +kernel
theorem d_Mo_primary_75 : decode m_Mo_primary.2.1 75 = .ok (.invokevirtual 223, 3) := by decide +kernel
theorem d_Mo_primary_78 : decode m_Mo_primary.2.1 78 = .ok (.aload_n 0, 1) := by decide +kernel
theorem d_Mo_primary_79 : decode m_Mo_primary.2.1 79 = .ok (.getfield 214, 3) := by decide +kernel
theorem d_Mo_primary_82 : decode m_Mo_primary.2.1 82 = .ok (.ifCond .eq 4, 3) := by decide +kernel
theorem d_Mo_primary_85 : decode m_Mo_primary.2.1 85 = .ok (.return_, 1) := by decide +kernel
theorem d_Mo_primary_86 : decode m_Mo_primary.2.1 86 = .ok (.aload_n 0, 1) := by decide +kernel
theorem d_Mo_primary_87 : decode m_Mo_primary.2.1 87 = .ok (.dup, 1) := by decide +kernel
theorem d_Mo_primary_88 : decode m_Mo_primary.2.1 88 = .ok (.getfield 291, 3) := by decide +kernel
theorem d_Mo_primary_91 : decode m_Mo_primary.2.1 91 = .ok (.iconst 1, 1) := by decide +kernel
theorem d_Mo_primary_92 : decode m_Mo_primary.2.1 92 = .ok (.isub, 1) := by decide +kernel
theorem d_Mo_primary_93 : decode m_Mo_primary.2.1 93 = .ok (.putfield 291, 3) := by decide +kernel
theorem d_Mo_primary_96 : decode m_Mo_primary.2.1 96 = .ok (.aload_n 0, 1) := by decide +kernel
theorem d_Mo_primary_97 : decode m_Mo_primary.2.1 97 = .ok (.invokevirtual 220, 3) := by decide +kernel
theorem d_Mo_primary_100 : decode m_Mo_primary.2.1 100 = .ok (.return_, 1) := by decide +kernel
theorem d_Mo_primary_101 : decode m_Mo_primary.2.1 101 = .ok (.aload_n 0, 1) := by decide +kernel
theorem d_Mo_primary_102 : decode m_Mo_primary.2.1 102 = .ok (.getfield 179, 3) := by decide +kernel
theorem d_Mo_primary_105 : decode m_Mo_primary.2.1 105 = .ok (.iconst 2, 1) := by decide +kernel
theorem d_Mo_primary_106 : decode m_Mo_primary.2.1 106 = .ok (.if_icmp .ne 7, 3) := by decide +kernel
theorem d_Mo_primary_109 : decode m_Mo_primary.2.1 109 = .ok (.iconst 1, 1) := by decide +kernel
theorem d_Mo_primary_110 : decode m_Mo_primary.2.1 110 = .ok (.goto 4, 3) := by decide +kernel
theorem d_Mo_primary_113 : decode m_Mo_primary.2.1 113 = .ok (.iconst 0, 1) := by decide +kernel
theorem d_Mo_primary_114 : decode m_Mo_primary.2.1 114 = .ok (.istore_n 1, 1) := by decide +kernel
theorem d_Mo_primary_115 : decode m_Mo_primary.2.1 115 = .ok (.iload_n 1, 1) := by decide +kernel
theorem d_Mo_primary_116 : decode m_Mo_primary.2.1 116 = .ok (.ifCond .eq 21, 3) := by decide +kernel
theorem d_Mo_primary_119 : decode m_Mo_primary.2.1 119 = .ok (.aload_n 0, 1) := by decide +kernel
theorem d_Mo_primary_120 : decode m_Mo_primary.2.1 120 = .ok (.getfield 189, 3) := by decide +kernel
theorem d_Mo_primary_123 : decode m_Mo_primary.2.1 123 = .ok (.sipush 9999, 3) := by decide +kernel
theorem d_Mo_primary_126 : decode m_Mo_primary.2.1 126 = .ok (.if_icmp .le 11, 3) := by decide +kernel
theorem d_Mo_primary_129 : decode m_Mo_primary.2.1 129 = .ok (.aload_n 0, 1) := by decide +kernel
theorem d_Mo_primary_130 : decode m_Mo_primary.2.1 130 = .ok (.iconst 2, 1) := by decide +kernel
theorem d_Mo_primary_131 : decode m_Mo_primary.2.1 131 = .ok (.invokevirtual 223, 3) := by decide +kernel
theorem d_Mo_primary_134 : decode m_Mo_primary.2.1 134 = .ok (.goto 28, 3) := by decide +kernel
theorem d_Mo_primary_137 : decode m_Mo_primary.2.1 137 = .ok (.iload_n 1, 1) := by decide +kernel
theorem d_Mo_primary_138 : decode m_Mo_primary.2.1 138 = .ok (.ifCond .ne 24, 3) := by decide +kernel
theorem d_Mo_primary_141 : decode m_Mo_primary.2.1 141 = .ok (.aload_n 0, 1) := by decide +kernel
theorem d_Mo_primary_142 : decode m_Mo_primary.2.1 142 = .ok (.getfield 179, 3) := by decide +kernel
theorem d_Mo_primary_145 : decode m_Mo_primary.2.1 145 = .ok (.ifCond .ne 12, 3) := by decide +kernel
theorem d_Mo_primary_148 : decode m_Mo_primary.2.1 148 = .ok (.aload_n 0, 1) := by decide +kernel
theorem d_Mo_primary_149 : decode m_Mo_primary.2.1 149 = .ok (.getfield 189, 3) := by decide +kernel
theorem d_Mo_primary_152 : decode m_Mo_primary.2.1 152 = .ok (.bipush 13, 2) := by decide +kernel
theorem d_Mo_primary_154 : decode m_Mo_primary.2.1 154 = .ok (.if_icmp .ge 8, 3) := by decide +kernel
theorem d_Mo_primary_157 : decode m_Mo_primary.2.1 157 = .ok (.aload_n 0, 1) := by decide +kernel
theorem d_Mo_primary_158 : decode m_Mo_primary.2.1 158 = .ok (.iconst 1, 1) := by decide +kernel
theorem d_Mo_primary_159 : decode m_Mo_primary.2.1 159 = .ok (.invokevirtual 223, 3) := by decide +kernel
theorem d_Mo_primary_162 : decode m_Mo_primary.2.1 162 = .ok (.aload_n 0, 1) := by decide +kernel
theorem d_Mo_primary_163 : decode m_Mo_primary.2.1 163 = .ok (.invokevirtual 269, 3) := by decide +kernel
theorem d_Mo_primary_166 : decode m_Mo_primary.2.1 166 = .ok (.aload_n 0, 1) := by decide +kernel
theorem d_Mo_primary_167 : decode m_Mo_primary.2.1 167 = .ok (.iload_n 1, 1) := by decide +kernel
theorem d_Mo_primary_168 : decode m_Mo_primary.2.1 168 = .ok (.ifCond .eq 7, 3) := by decide +kernel
theorem d_Mo_primary_171 : decode m_Mo_primary.2.1 171 = .ok (.iconst 0, 1) := by decide +kernel
theorem d_Mo_primary_172 : decode m_Mo_primary.2.1 172 = .ok (.goto 4, 3) := by decide +kernel
theorem d_Mo_primary_175 : decode m_Mo_primary.2.1 175 = .ok (.iconst 1, 1) := by decide +kernel
theorem d_Mo_primary_176 : decode m_Mo_primary.2.1 176 = .ok (.iload_n 1, 1) := by decide +kernel
theorem d_Mo_primary_177 : decode m_Mo_primary.2.1 177 = .ok (.ifCond .eq 10, 3) := by decide +kernel
theorem d_Mo_primary_180 : decode m_Mo_primary.2.1 180 = .ok (.aload_n 0, 1) := by decide +kernel
theorem d_Mo_primary_181 : decode m_Mo_primary.2.1 181 = .ok (.getfield 189, 3) := by decide +kernel
theorem d_Mo_primary_184 : decode m_Mo_primary.2.1 184 = .ok (.goto 10, 3) := by decide +kernel
theorem d_Mo_primary_187 : decode m_Mo_primary.2.1 187 = .ok (.aload_n 0, 1) := by decide +kernel
theorem d_Mo_primary_188 : decode m_Mo_primary.2.1 188 = .ok (.getfield 189, 3) := by decide +kernel
theorem d_Mo_primary_191 : decode m_Mo_primary.2.1 191 = .ok (.bipush 13, 2) := by decide +kernel
theorem d_Mo_primary_193 : decode m_Mo_primary.2.1 193 = .ok (.isub, 1) := by decide +kernel
theorem d_Mo_primary_194 : decode m_Mo_primary.2.1 194 = .ok (.invokevirtual 275, 3) := by decide +kernel
theorem d_Mo_primary_197 : decode m_Mo_primary.2.1 197 = .ok (.aload_n 0, 1) := by decide +kernel
theorem d_Mo_primary_198 : decode m_Mo_primary.2.1 198 = .ok (.invokevirtual 272, 3) := by decide +kernel
theorem d_Mo_primary_201 : decode m_Mo_primary.2.1 201 = .ok (.return_, 1) := by decide +kernel
theorem d_Mo_isSign_0 : decode m_Mo_isSign.2.1 0 = .ok (.aload_n 0, 1) := by decide +kernel
theorem d_Mo_isSign_1 : decode m_Mo_isSign.2.1 1 = .ok (.getfield 214, 3) := by decide +kernel
theorem d_Mo_isSign_4 : decode m_Mo_isSign.2.1 4 = .ok (.ifCond .ne 23, 3) := by decide +kernel
theorem d_Mo_isSign_7 : decode m_Mo_isSign.2.1 7 = .ok (.aload_n 0, 1) := by decide +kernel
theorem d_Mo_isSign_8 : decode m_Mo_isSign.2.1 8 = .ok (.getfield 179, 3) := by decide +kernel
theorem d_Mo_isSign_11 : decode m_Mo_isSign.2.1 11 = .ok (.iconst 3, 1) := by decide +kernel
theorem d_Mo_isSign_12 : decode m_Mo_isSign.2.1 12 = .ok (.if_icmp .ne 15, 3) := by decide +kernel
theorem d_Mo_isSign_15 : decode m_Mo_isSign.2.1 15 = .ok (.aload_n 0, 1) := by decide +kernel
theorem d_Mo_isSign_16 : decode m_Mo_isSign.2.1 16 = .ok (.getfield 189, 3) := by decide +kernel
theorem d_Mo_isSign_19 : decode m_Mo_isSign.2.1 19 = .ok (.iload_n 1, 1) := by decide +kernel
theorem d_Mo_isSign_20 : decode m_Mo_isSign.2.1 20 = .ok (.if_icmp .ne 7, 3) := by decide +kernel
theorem d_Mo_isSign_23 : decode m_Mo_isSign.2.1 23 = .ok (.iconst 1, 1) := by decide +kernel
theorem d_Mo_isSign_24 : decode m_Mo_isSign.2.1 24 = .ok (.goto 4, 3) := by decide +kernel
theorem d_Mo_isSign_27 : decode m_Mo_isSign.2.1 27 = .ok (.iconst 0, 1) := by decide +kernel
theorem d_Mo_isSign_28 : decode m_Mo_isSign.2.1 28 = .ok (.ireturn, 1) := by decide +kernel
theorem d_Mo_half_0 : decode m_Mo_half.2.1 0 = .ok (.aload_n 0, 1) := by decide +kernel
theorem d_Mo_half_1 : decode m_Mo_half.2.1 1 = .ok (.arraylength, 1) := by decide +kernel
theorem d_Mo_half_2 : decode m_Mo_half.2.1 2 = .ok (.iconst 2, 1) := by decide +kernel
theorem d_Mo_half_3 : decode m_Mo_half.2.1 3 = .ok (.idiv, 1) := by decide +kernel
theorem d_Mo_half_4 : decode m_Mo_half.2.1 4 = .ok (.istore_n 1, 1) := by decide +kernel
theorem d_Mo_half_5 : decode m_Mo_half.2.1 5 = .ok (.iconst 0, 1) := by decide +kernel
theorem d_Mo_half_6 : decode m_Mo_half.2.1 6 = .ok (.istore_n 2, 1) := by decide +kernel
theorem d_Mo_half_7 : decode m_Mo_half.2.1 7 = .ok (.iload_n 2, 1) := by decide +kernel
theorem d_Mo_half_8 : decode m_Mo_half.2.1 8 = .ok (.iload_n 1, 1) := by decide +kernel
theorem d_Mo_half_9 : decode m_Mo_half.2.1 9 = .ok (.if_icmp .ge 17, 3) := by decide +kernel
theorem d_Mo_half_12 : decode m_Mo_half.2.1 12 = .ok (.aload_n 0, 1) := by decide +kernel
theorem d_Mo_half_13 : decode m_Mo_half.2.1 13 = .ok (.iload_n 2, 1) := by decide +kernel
theorem d_Mo_half_14 : decode m_Mo_half.2.1 14 = .ok (.aload_n 0, 1) := by decide +kernel
theorem d_Mo_half_15 : decode m_Mo_half.2.1 15 = .ok (.iload_n 1, 1) := by decide +kernel
theorem d_Mo_half_16 : decode m_Mo_half.2.1 16 = .ok (.iload_n 2, 1) := by decide +kernel
theorem d_Mo_half_17 : decode m_Mo_half.2.1 17 = .ok (.iadd, 1) := by decide +kernel
theorem d_Mo_half_18 : decode m_Mo_half.2.1 18 = .ok (.iaload, 1) := by decide +kernel
theorem d_Mo_half_19 : decode m_Mo_half.2.1 19 = .ok (.iastore, 1) := by decide +kernel
theorem d_Mo_half_20 : decode m_Mo_half.2.1 20 = .ok (.iinc 2 1, 3) := by decide +kernel
theorem d_Mo_half_23 : decode m_Mo_half.2.1 23 = .ok (.goto (-16), 3) := by decide +kernel
theorem d_Mo_half_26 : decode m_Mo_half.2.1 26 = .ok (.return_, 1) := by decide +kernel
theorem d_Mo_fault_0 : decode m_Mo_fault.2.1 0 = .ok (.aload_n 0, 1) := by decide +kernel
theorem d_Mo_fault_1 : decode m_Mo_fault.2.1 1 = .ok (.iconst 0, 1) := by decide +kernel
theorem d_Mo_fault_2 : decode m_Mo_fault.2.1 2 = .ok (.putfield 160, 3) := by decide +kernel
theorem d_Mo_fault_5 : decode m_Mo_fault.2.1 5 = .ok (.iload_n 1, 1) := by decide +kernel
theorem d_Mo_fault_6 : decode m_Mo_fault.2.1 6 = .ok (.ifCond .ne 10, 3) := by decide +kernel
theorem d_Mo_fault_9 : decode m_Mo_fault.2.1 9 = .ok (.aload_n 0, 1) := by decide +kernel
theorem d_Mo_fault_10 : decode m_Mo_fault.2.1 10 = .ok (.getfield 297, 3) := by decide +kernel
theorem d_Mo_fault_13 : decode m_Mo_fault.2.1 13 = .ok (.goto 16, 3) := by decide +kernel
theorem d_Mo_fault_16 : decode m_Mo_fault.2.1 16 = .ok (.iload_n 1, 1) := by decide +kernel
theorem d_Mo_fault_17 : decode m_Mo_fault.2.1 17 = .ok (.iconst 1, 1) := by decide +kernel
theorem d_Mo_fault_18 : decode m_Mo_fault.2.1 18 = .ok (.if_icmp .ne 10, 3) := by decide +kernel
theorem d_Mo_fault_21 : decode m_Mo_fault.2.1 21 = .ok (.aload_n 0, 1) := by decide +kernel
theorem d_Mo_fault_22 : decode m_Mo_fault.2.1 22 = .ok (.getfield 53, 3) := by decide +kernel
theorem d_Mo_fault_25 : decode m_Mo_fault.2.1 25 = .ok (.goto 4, 3) := by decide +kernel
theorem d_Mo_fault_28 : decode m_Mo_fault.2.1 28 = .ok (.iconst (-1), 1) := by decide +kernel
theorem d_Mo_fault_29 : decode m_Mo_fault.2.1 29 = .ok (.ireturn, 1) := by decide +kernel
theorem d_Mo_named_0 : decode m_Mo_named.2.1 0 = .ok (.aload_n 0, 1) := by decide +kernel
theorem d_Mo_named_1 : decode m_Mo_named.2.1 1 = .ok (.iconst 0, 1) := by decide +kernel
theorem d_Mo_named_2 : decode m_Mo_named.2.1 2 = .ok (.putfield 160, 3) := by decide +kernel
theorem d_Mo_named_5 : decode m_Mo_named.2.1 5 = .ok (.iload_n 1, 1) := by decide +kernel
theorem d_Mo_named_6 : decode m_Mo_named.2.1 6 = .ok (.ifCond .ne 21, 3) := by decide +kernel
theorem d_Mo_named_9 : decode m_Mo_named.2.1 9 = .ok (.aload_n 0, 1) := by decide +kernel
theorem d_Mo_named_10 : decode m_Mo_named.2.1 10 = .ok (.getfield 16, 3) := by decide +kernel
theorem d_Mo_named_13 : decode m_Mo_named.2.1 13 = .ok (.iconst 0, 1) := by decide +kernel
theorem d_Mo_named_14 : decode m_Mo_named.2.1 14 = .ok (.aload_n 0, 1) := by decide +kernel
theorem d_Mo_named_15 : decode m_Mo_named.2.1 15 = .ok (.getfield 13, 3) := by decide +kernel
theorem d_Mo_named_18 : decode m_Mo_named.2.1 18 = .ok (.iconst 0, 1) := by decide +kernel
theorem d_Mo_named_19 : decode m_Mo_named.2.1 19 = .ok (.iaload, 1) := by decide +kernel
theorem d_Mo_named_20 : decode m_Mo_named.2.1 20 = .ok (.iload_n 2, 1) := by decide +kernel
theorem d_Mo_named_21 : decode m_Mo_named.2.1 21 = .ok (.invokestatic 226, 3) := by decide +kernel
theorem d_Mo_named_24 : decode m_Mo_named.2.1 24 = .ok (.goto 27, 3) := by decide +kernel
theorem d_Mo_named_27 : decode m_Mo_named.2.1 27 = .ok (.iload_n 1, 1) := by decide +kernel
theorem d_Mo_named_28 : decode m_Mo_named.2.1 28 = .ok (.iconst 1, 1) := by decide +kernel
theorem d_Mo_named_29 : decode m_Mo_named.2.1 29 = .ok (.if_icmp .ne 21, 3) := by decide +kernel
theorem d_Mo_named_32 : decode m_Mo_named.2.1 32 = .ok (.aload_n 0, 1) := by decide +kernel
theorem d_Mo_named_33 : decode m_Mo_named.2.1 33 = .ok (.getfield 32, 3) := by decide +kernel
theorem d_Mo_named_36 : decode m_Mo_named.2.1 36 = .ok (.iconst 0, 1) := by decide +kernel
theorem d_Mo_named_37 : decode m_Mo_named.2.1 37 = .ok (.aload_n 0, 1) := by decide +kernel
theorem d_Mo_named_38 : decode m_Mo_named.2.1 38 = .ok (.getfield 13, 3) := by decide +kernel
theorem d_Mo_named_41 : decode m_Mo_named.2.1 41 = .ok (.iconst 1, 1) := by decide +kernel
theorem d_Mo_named_42 : decode m_Mo_named.2.1 42 = .ok (.iaload, 1) := by decide +kernel
theorem d_Mo_named_43 : decode m_Mo_named.2.1 43 = .ok (.iload_n 2, 1) := by decide +kernel
theorem d_Mo_named_44 : decode m_Mo_named.2.1 44 = .ok (.invokestatic 226, 3) := by decide +kernel
theorem d_Mo_named_47 : decode m_Mo_named.2.1 47 = .ok (.goto 4, 3) := by decide +kernel
theorem d_Mo_named_50 : decode m_Mo_named.2.1 50 = .ok (.iconst (-1), 1) := by decide +kernel
theorem d_Mo_named_51 : decode m_Mo_named.2.1 51 = .ok (.ireturn, 1) := by decide +kernel
theorem d_Mo_look_0 : decode m_Mo_look.2.1 0 = .ok (.aload_n 0, 1) := by decide +kernel
theorem d_Mo_look_1 : decode m_Mo_look.2.1 1 = .ok (.aload_n 0, 1) := by decide +kernel
theorem d_Mo_look_2 : decode m_Mo_look.2.1 2 = .ok (.iload_n 1, 1) := by decide +kernel
theorem d_Mo_look_3 : decode m_Mo_look.2.1 3 = .ok (.invokevirtual 314, 3) := by decide +kernel
theorem d_Mo_look_6 : decode m_Mo_look.2.1 6 = .ok (.ifCond .ne 7, 3) := by decide +kernel
theorem d_Mo_look_9 : decode m_Mo_look.2.1 9 = .ok (.iconst 1, 1) := by decide +kernel
theorem d_Mo_look_10 : decode m_Mo_look.2.1 10 = .ok (.goto 17, 3) := by decide +kernel
theorem d_Mo_look_13 : decode m_Mo_look.2.1 13 = .ok (.iload_n 2, 1) := by decide +kernel
theorem d_Mo_look_14 : decode m_Mo_look.2.1 14 = .ok (.ifCond .lt 8, 3) := by decide +kernel
theorem d_Mo_look_17 : decode m_Mo_look.2.1 17 = .ok (.iload_n 2, 1) := by decide +kernel
theorem d_Mo_look_18 : decode m_Mo_look.2.1 18 = .ok (.iconst 5, 1) := by decide +kernel
theorem d_Mo_look_19 : decode m_Mo_look.2.1 19 = .ok (.if_icmp .le 7, 3) := by decide +kernel
theorem d_Mo_look_22 : decode m_Mo_look.2.1 22 = .ok (.iconst 2, 1) := by decide +kernel
theorem d_Mo_look_23 : decode m_Mo_look.2.1 23 = .ok (.goto 4, 3) := by decide +kernel
theorem d_Mo_look_26 : decode m_Mo_look.2.1 26 = .ok (.iconst 0, 1) := by decide +kernel
theorem d_Mo_look_27 : decode m_Mo_look.2.1 27 = .ok (.putfield 160, 3) := by decide +kernel
theorem d_Mo_look_30 : decode m_Mo_look.2.1 30 = .ok (.aload_n 0, 1) := by decide +kernel
theorem d_Mo_look_31 : decode m_Mo_look.2.1 31 = .ok (.getfield 160, 3) := by decide +kernel
theorem d_Mo_look_34 : decode m_Mo_look.2.1 34 = .ok (.ifCond .eq 5, 3) := by decide +kernel
theorem d_Mo_look_37 : decode m_Mo_look.2.1 37 = .ok (.iconst 0, 1) := by decide +kernel
theorem d_Mo_look_38 : decode m_Mo_look.2.1 38 = .ok (.ireturn, 1) := by decide +kernel
theorem d_Mo_look_39 : decode m_Mo_look.2.1 39 = .ok (.iload_n 2, 1) := by decide +kernel
theorem d_Mo_look_40 : decode m_Mo_look.2.1 40 = .ok (.tableswitch 83 0 4 #[36, 43, 50, 57, 72], 36) := by decide +kernel
theorem d_Mo_look_76 : decode m_Mo_look.2.1 76 = .ok (.aload_n 0, 1) := by decide +kernel
theorem d_Mo_look_77 : decode m_Mo_look.2.1 77 = .ok (.getfield 19, 3) := by decide +kernel
theorem d_Mo_look_80 : decode m_Mo_look.2.1 80 = .ok (.iload_n 1, 1) := by decide +kernel
theorem d_Mo_look_81 : decode m_Mo_look.2.1 81 = .ok (.iaload, 1) := by decide +kernel
theorem d_Mo_look_82 : decode m_Mo_look.2.1 82 = .ok (.ireturn, 1) := by decide +kernel
theorem d_Mo_look_83 : decode m_Mo_look.2.1 83 = .ok (.aload_n 0, 1) := by decide +kernel
theorem d_Mo_look_84 : decode m_Mo_look.2.1 84 = .ok (.getfield 22, 3) := by decide +kernel
theorem d_Mo_look_87 : decode m_Mo_look.2.1 87 = .ok (.iload_n 1, 1) := by decide +kernel
theorem d_Mo_look_88 : decode m_Mo_look.2.1 88 = .ok (.iaload, 1) := by decide +kernel
theorem d_Mo_look_89 : decode m_Mo_look.2.1 89 = .ok (.ireturn, 1) := by decide +kernel
theorem d_Mo_look_90 : decode m_Mo_look.2.1 90 = .ok (.aload_n 0, 1) := by decide +kernel
theorem d_Mo_look_91 : decode m_Mo_look.2.1 91 = .ok (.getfield 25, 3) := by decide +kernel
theorem d_Mo_look_94 : decode m_Mo_look.2.1 94 = .ok (.iload_n 1, 1) := by decide +kernel
theorem d_Mo_look_95 : decode m_Mo_look.2.1 95 = .ok (.iaload, 1) := by decide +kernel
theorem d_Mo_look_96 : decode m_Mo_look.2.1 96 = .ok (.ireturn, 1) := by decide +kernel
theorem d_Mo_look_97 : decode m_Mo_look.2.1 97 = .ok (.aload_n 0, 1) := by decide +kernel
theorem d_Mo_look_98 : decode m_Mo_look.2.1 98 = .ok (.getfield 28, 3) := by decide +kernel
theorem d_Mo_look_101 : decode m_Mo_look.2.1 101 = .ok (.iload_n 1, 1) := by decide +kernel
theorem d_Mo_look_102 : decode m_Mo_look.2.1 102 = .ok (.baload, 1) := by decide +kernel
theorem d_Mo_look_103 : decode m_Mo_look.2.1 103 = .ok (.ifCond .eq 7, 3) := by decide +kernel
theorem d_Mo_look_106 : decode m_Mo_look.2.1 106 = .ok (.iconst 1, 1) := by decide +kernel
theorem d_Mo_look_107 : decode m_Mo_look.2.1 107 = .ok (.goto 4, 3) := by decide +kernel
theorem d_Mo_look_110 : decode m_Mo_look.2.1 110 = .ok (.iconst 0, 1) := by decide +kernel
theorem d_Mo_look_111 : decode m_Mo_look.2.1 111 = .ok (.ireturn, 1) := by decide +kernel
theorem d_Mo_look_112 : decode m_Mo_look.2.1 112 = .ok (.aload_n 0, 1) := by decide +kernel
theorem d_Mo_look_113 : decode m_Mo_look.2.1 113 = .ok (.getfield 63, 3) := by decide +kernel
theorem d_Mo_look_116 : decode m_Mo_look.2.1 116 = .ok (.iconst 0, 1) := by decide +kernel
theorem d_Mo_look_117 : decode m_Mo_look.2.1 117 = .ok (.iaload, 1) := by decide +kernel
theorem d_Mo_look_118 : decode m_Mo_look.2.1 118 = .ok (.iload_n 1, 1) := by decide +kernel
theorem d_Mo_look_119 : decode m_Mo_look.2.1 119 = .ok (.ishr, 1) := by decide +kernel
theorem d_Mo_look_120 : decode m_Mo_look.2.1 120 = .ok (.iconst 1, 1) := by decide +kernel
theorem d_Mo_look_121 : decode m_Mo_look.2.1 121 = .ok (.iand, 1) := by decide +kernel
theorem d_Mo_look_122 : decode m_Mo_look.2.1 122 = .ok (.ireturn, 1) := by decide +kernel
theorem d_Mo_look_123 : decode m_Mo_look.2.1 123 = .ok (.aload_n 0, 1) := by decide +kernel
theorem d_Mo_look_124 : decode m_Mo_look.2.1 124 = .ok (.getfield 66, 3) := by decide +kernel
theorem d_Mo_look_127 : decode m_Mo_look.2.1 127 = .ok (.iconst 0, 1) := by decide +kernel
theorem d_Mo_look_128 : decode m_Mo_look.2.1 128 = .ok (.iaload, 1) := by decide +kernel
theorem d_Mo_look_129 : decode m_Mo_look.2.1 129 = .ok (.iload_n 1, 1) := by decide +kernel
theorem d_Mo_look_130 : decode m_Mo_look.2.1 130 = .ok (.ishr, 1) := by decide +kernel
theorem d_Mo_look_131 : decode m_Mo_look.2.1 131 = .ok (.iconst 1, 1) := by decide +kernel
theorem d_Mo_look_132 : decode m_Mo_look.2.1 132 = .ok (.iand, 1) := by decide +kernel
theorem d_Mo_look_133 : decode m_Mo_look.2.1 133 = .ok (.ireturn, 1) := by decide +kernel
theorem d_Mo_isHouse_0 : decode m_Mo_isHouse.2.1 0 = .ok (.iload_n 1, 1) := by decide +kernel
theorem d_Mo_isHouse_1 : decode m_Mo_isHouse.2.1 1 = .ok (.ifCond .lt 17, 3) := by decide +kernel
theorem d_Mo_isHouse_4 : decode m_Mo_isHouse.2.1 4 = .ok (.iload_n 1, 1) := by decide +kernel
theorem d_Mo_isHouse_5 : decode m_Mo_isHouse.2.1 5 = .ok (.aload_n 0, 1) := by decide +kernel
theorem d_Mo_isHouse_6 : decode m_Mo_isHouse.2.1 6 = .ok (.getfield 13, 3) := by decide +kernel
theorem d_Mo_isHouse_9 : decode m_Mo_isHouse.2.1 9 = .ok (.iconst 0, 1) := by decide +kernel
theorem d_Mo_isHouse_10 : decode m_Mo_isHouse.2.1 10 = .ok (.iaload, 1) := by decide +kernel
theorem d_Mo_isHouse_11 : decode m_Mo_isHouse.2.1 11 = .ok (.if_icmp .ge 7, 3) := by decide +kernel
theorem d_Mo_isHouse_14 : decode m_Mo_isHouse.2.1 14 = .ok (.iconst 1, 1) := by decide +kernel
theorem d_Mo_isHouse_15 : decode m_Mo_isHouse.2.1 15 = .ok (.goto 4, 3) := by decide +kernel
theorem d_Mo_isHouse_18 : decode m_Mo_isHouse.2.1 18 = .ok (.iconst 0, 1) := by decide +kernel
theorem d_Mo_isHouse_19 : decode m_Mo_isHouse.2.1 19 = .ok (.ireturn, 1) := by decide +kernel
theorem d_Mo_dark_0 : decode m_Mo_dark.2.1 0 = .ok (.aload_n 0, 1) := by decide +kernel
theorem d_Mo_dark_1 : decode m_Mo_dark.2.1 1 = .ok (.iconst 0, 1) := by decide +kernel
theorem d_Mo_dark_2 : decode m_Mo_dark.2.1 2 = .ok (.putfield 160, 3) := by decide +kernel
theorem d_Mo_dark_5 : decode m_Mo_dark.2.1 5 = .ok (.aload_n 0, 1) := by decide +kernel
theorem d_Mo_dark_6 : decode m_Mo_dark.2.1 6 = .ok (.iload_n 1, 1) := by decide +kernel
theorem d_Mo_dark_7 : decode m_Mo_dark.2.1 7 = .ok (.invokevirtual 317, 3) := by decide +kernel
theorem d_Mo_dark_10 : decode m_Mo_dark.2.1 10 = .ok (.ifCond .eq 7, 3) := by decide +kernel
theorem d_Mo_dark_13 : decode m_Mo_dark.2.1 13 = .ok (.iload_n 2, 1) := by decide +kernel
theorem d_Mo_dark_14 : decode m_Mo_dark.2.1 14 = .ok (.ifCond .ge 5, 3) := by decide +kernel
theorem d_Mo_dark_17 : decode m_Mo_dark.2.1 17 = .ok (.iconst (-1), 1) := by decide +kernel
theorem d_Mo_dark_18 : decode m_Mo_dark.2.1 18 = .ok (.ireturn, 1) := by decide +kernel
theorem d_Mo_dark_19 : decode m_Mo_dark.2.1 19 = .ok (.iload_n 2, 1) := by decide +kernel
theorem d_Mo_dark_20 : decode m_Mo_dark.2.1 20 = .ok (.iconst 3, 1) := by decide +kernel
theorem d_Mo_dark_21 : decode m_Mo_dark.2.1 21 = .ok (.if_icmp .ge 37, 3) := by decide +kernel
theorem d_Mo_dark_24 : decode m_Mo_dark.2.1 24 = .ok (.iload_n 2, 1) := by decide +kernel
theorem d_Mo_dark_25 : decode m_Mo_dark.2.1 25 = .ok (.ifCond .ne 12, 3) := by decide +kernel
theorem d_Mo_dark_28 : decode m_Mo_dark.2.1 28 = .ok (.aload_n 0, 1) := by decide +kernel
theorem d_Mo_dark_29 : decode m_Mo_dark.2.1 29 = .ok (.getfield 35, 3) := by decide +kernel
theorem d_Mo_dark_32 : decode m_Mo_dark.2.1 32 = .ok (.iload_n 1, 1) := by decide +kernel
theorem d_Mo_dark_33 : decode m_Mo_dark.2.1 33 = .ok (.iaload, 1) := by decide +kernel
theorem d_Mo_dark_34 : decode m_Mo_dark.2.1 34 = .ok (.goto 23, 3) := by decide +kernel
theorem d_Mo_dark_37 : decode m_Mo_dark.2.1 37 = .ok (.iload_n 2, 1) := by decide +kernel
theorem d_Mo_dark_38 : decode m_Mo_dark.2.1 38 = .ok (.iconst 1, 1) := by decide +kernel
theorem d_Mo_dark_39 : decode m_Mo_dark.2.1 39 = .ok (.if_icmp .ne 12, 3) := by decide +kernel
theorem d_Mo_dark_42 : decode m_Mo_dark.2.1 42 = .ok (.aload_n 0, 1) := by decide +kernel
theorem d_Mo_dark_43 : decode m_Mo_dark.2.1 43 = .ok (.getfield 38, 3) := by decide +kernel
theorem d_Mo_dark_46 : decode m_Mo_dark.2.1 46 = .ok (.iload_n 1, 1) := by decide +kernel
theorem d_Mo_dark_47 : decode m_Mo_dark.2.1 47 = .ok (.iaload, 1) := by decide +kernel
theorem d_Mo_dark_48 : decode m_Mo_dark.2.1 48 = .ok (.goto 9, 3) := by decide +kernel
theorem d_Mo_dark_51 : decode m_Mo_dark.2.1 51 = .ok (.aload_n 0, 1) := by decide +kernel
theorem d_Mo_dark_52 : decode m_Mo_dark.2.1 52 = .ok (.getfield 60, 3) := by decide +kernel
theorem d_Mo_dark_55 : decode m_Mo_dark.2.1 55 = .ok (.iload_n 1, 1) := by decide +kernel
theorem d_Mo_dark_56 : decode m_Mo_dark.2.1 56 = .ok (.iaload, 1) := by decide +kernel
theorem d_Mo_dark_57 : decode m_Mo_dark.2.1 57 = .ok (.ireturn, 1) := by decide +kernel
theorem d_Mo_dark_58 : decode m_Mo_dark.2.1 58 = .ok (.iload_n 2, 1) := by decide +kernel
theorem d_Mo_dark_59 : decode m_Mo_dark.2.1 59 = .ok (.iconst 3, 1) := by decide +kernel
theorem d_Mo_dark_60 : decode m_Mo_dark.2.1 60 = .ok (.isub, 1) := by decide +kernel
theorem d_Mo_dark_61 : decode m_Mo_dark.2.1 61 = .ok (.aload_n 0, 1) := by decide +kernel
theorem d_Mo_dark_62 : decode m_Mo_dark.2.1 62 = .ok (.getfield 60, 3) := by decide +kernel
theorem d_Mo_dark_65 : decode m_Mo_dark.2.1 65 = .ok (.iload_n 1, 1) := by decide +kernel
theorem d_Mo_dark_66 : decode m_Mo_dark.2.1 66 = .ok (.iaload, 1) := by decide +kernel
theorem d_Mo_dark_67 : decode m_Mo_dark.2.1 67 = .ok (.if_icmp .ge 19, 3) := by decide +kernel
theorem d_Mo_dark_70 : decode m_Mo_dark.2.1 70 = .ok (.aload_n 0, 1) := by decide +kernel
theorem d_Mo_dark_71 : decode m_Mo_dark.2.1 71 = .ok (.getfield 57, 3) := by decide +kernel
theorem d_Mo_dark_74 : decode m_Mo_dark.2.1 74 = .ok (.bipush 9, 2) := by decide +kernel
theorem d_Mo_dark_76 : decode m_Mo_dark.2.1 76 = .ok (.iload_n 1, 1) := by decide +kernel
theorem d_Mo_dark_77 : decode m_Mo_dark.2.1 77 = .ok (.imul, 1) := by decide +kernel
theorem d_Mo_dark_78 : decode m_Mo_dark.2.1 78 = .ok (.iload_n 2, 1) := by decide +kernel
theorem d_Mo_dark_79 : decode m_Mo_dark.2.1 79 = .ok (.iadd, 1) := by decide +kernel
theorem d_Mo_dark_80 : decode m_Mo_dark.2.1 80 = .ok (.iconst 3, 1) := by decide +kernel
theorem d_Mo_dark_81 : decode m_Mo_dark.2.1 81 = .ok (.isub, 1) := by decide +kernel
theorem d_Mo_dark_82 : decode m_Mo_dark.2.1 82 = .ok (.iaload, 1) := by decide +kernel
theorem d_Mo_dark_83 : decode m_Mo_dark.2.1 83 = .ok (.goto 4, 3) := by decide +kernel
theorem d_Mo_dark_86 : decode m_Mo_dark.2.1 86 = .ok (.iconst (-1), 1) := by decide +kernel
theorem d_Mo_dark_87 : decode m_Mo_dark.2.1 87 = .ok (.ireturn, 1) := by decide +kernel
theorem d_Mo_isDark_0 : decode m_Mo_isDark.2.1 0 = .ok (.iload_n 1, 1) := by decide +kernel
theorem d_Mo_isDark_1 : decode m_Mo_isDark.2.1 1 = .ok (.ifCond .lt 17, 3) := by decide +kernel
theorem d_Mo_isDark_4 : decode m_Mo_isDark.2.1 4 = .ok (.iload_n 1, 1) := by decide +kernel
theorem d_Mo_isDark_5 : decode m_Mo_isDark.2.1 5 = .ok (.aload_n 0, 1) := by decide +kernel
theorem d_Mo_isDark_6 : decode m_Mo_isDark.2.1 6 = .ok (.getfield 13, 3) := by decide +kernel
theorem d_Mo_isDark_9 : decode m_Mo_isDark.2.1 9 = .ok (.iconst 1, 1) := by decide +kernel
theorem d_Mo_isDark_10 : decode m_Mo_isDark.2.1 10 = .ok (.iaload, 1) := by decide +kernel
theorem d_Mo_isDark_11 : decode m_Mo_isDark.2.1 11 = .ok (.if_icmp .ge 7, 3) := by decide +kernel
theorem d_Mo_isDark_14 : decode m_Mo_isDark.2.1 14 = .ok (.iconst 1, 1) := by decide +kernel
theorem d_Mo_isDark_15 : decode m_Mo_isDark.2.1 15 = .ok (.goto 4, 3) := by decide +kernel
theorem d_Mo_isDark_18 : decode m_Mo_isDark.2.1 18 = .ok (.iconst 0, 1) := by decide +kernel
theorem d_Mo_isDark_19 : decode m_Mo_isDark.2.1 19 = .ok (.ireturn, 1) := by decide +kernel
theorem d_Mo_walk_0 : decode m_Mo_walk.2.1 0 = .ok (.aload_n 0, 1) := by decide +kernel
theorem d_Mo_walk_1 : decode m_Mo_walk.2.1 1 = .ok (.iconst 0, 1) := by decide +kernel
theorem d_Mo_walk_2 : decode m_Mo_walk.2.1 2 = .ok (.putfield 160, 3) := by decide +kernel
theorem d_Mo_walk_5 : decode m_Mo_walk.2.1 5 = .ok (.aload_n 0, 1) := by decide +kernel
theorem d_Mo_walk_6 : decode m_Mo_walk.2.1 6 = .ok (.iload_n 1, 1) := by decide +kernel
theorem d_Mo_walk_7 : decode m_Mo_walk.2.1 7 = .ok (.invokevirtual 317, 3) := by decide +kernel
theorem d_Mo_walk_10 : decode m_Mo_walk.2.1 10 = .ok (.ifCond .eq 44, 3) := by decide +kernel
theorem d_Mo_walk_13 : decode m_Mo_walk.2.1 13 = .ok (.iload_n 2, 1) := by decide +kernel
theorem d_Mo_walk_14 : decode m_Mo_walk.2.1 14 = .ok (.iconst (-1), 1) := by decide +kernel
theorem d_Mo_walk_15 : decode m_Mo_walk.2.1 15 = .ok (.if_icmp .eq 11, 3) := by decide +kernel
theorem d_Mo_walk_18 : decode m_Mo_walk.2.1 18 = .ok (.aload_n 0, 1) := by decide +kernel
theorem d_Mo_walk_19 : decode m_Mo_walk.2.1 19 = .ok (.iload_n 2, 1) := by decide +kernel
theorem d_Mo_walk_20 : decode m_Mo_walk.2.1 20 = .ok (.invokevirtual 314, 3) := by decide +kernel
theorem d_Mo_walk_23 : decode m_Mo_walk.2.1 23 = .ok (.ifCond .eq 31, 3) := by decide +kernel
theorem d_Mo_walk_26 : decode m_Mo_walk.2.1 26 = .ok (.aload_n 0, 1) := by decide +kernel
theorem d_Mo_walk_27 : decode m_Mo_walk.2.1 27 = .ok (.iload_n 3, 1) := by decide +kernel
theorem d_Mo_walk_28 : decode m_Mo_walk.2.1 28 = .ok (.invokevirtual 314, 3) := by decide +kernel
theorem d_Mo_walk_31 : decode m_Mo_walk.2.1 31 = .ok (.ifCond .eq 23, 3) := by decide +kernel
theorem d_Mo_walk_34 : decode m_Mo_walk.2.1 34 = .ok (.iload 4, 2) := by decide +kernel
theorem d_Mo_walk_36 : decode m_Mo_walk.2.1 36 = .ok (.invokestatic 363, 3) := by decide +kernel
theorem d_Mo_walk_39 : decode m_Mo_walk.2.1 39 = .ok (.ifCond .eq 15, 3) := by decide +kernel
theorem d_Mo_walk_42 : decode m_Mo_walk.2.1 42 = .ok (.iload 5, 2) := by decide +kernel
theorem d_Mo_walk_44 : decode m_Mo_walk.2.1 44 = .ok (.ifCond .lt 10, 3) := by decide +kernel
theorem d_Mo_walk_47 : decode m_Mo_walk.2.1 47 = .ok (.iload 5, 2) := by decide +kernel
theorem d_Mo_walk_49 : decode m_Mo_walk.2.1 49 = .ok (.bipush 9, 2) := by decide +kernel
theorem d_Mo_walk_51 : decode m_Mo_walk.2.1 51 = .ok (.if_icmp .le 5, 3) := by decide +kernel
theorem d_Mo_walk_54 : decode m_Mo_walk.2.1 54 = .ok (.iconst (-1), 1) := by decide +kernel
theorem d_Mo_walk_55 : decode m_Mo_walk.2.1 55 = .ok (.ireturn, 1) := by decide +kernel
theorem d_Mo_walk_56 : decode m_Mo_walk.2.1 56 = .ok (.aload_n 0, 1) := by decide +kernel
theorem d_Mo_walk_57 : decode m_Mo_walk.2.1 57 = .ok (.invokevirtual 366, 3) := by decide +kernel
theorem d_Mo_walk_60 : decode m_Mo_walk.2.1 60 = .ok (.aload_n 0, 1) := by decide +kernel
theorem d_Mo_walk_61 : decode m_Mo_walk.2.1 61 = .ok (.iload_n 2, 1) := by decide +kernel
theorem d_Mo_walk_62 : decode m_Mo_walk.2.1 62 = .ok (.iconst (-1), 1) := by decide +kernel
theorem d_Mo_walk_63 : decode m_Mo_walk.2.1 63 = .ok (.if_icmp .ne 12, 3) := by decide +kernel
theorem d_Mo_walk_66 : decode m_Mo_walk.2.1 66 = .ok (.aload_n 0, 1) := by decide +kernel
theorem d_Mo_walk_67 : decode m_Mo_walk.2.1 67 = .ok (.getfield 35, 3) := by decide +kernel
theorem d_Mo_walk_70 : decode m_Mo_walk.2.1 70 = .ok (.iload_n 1, 1) := by decide +kernel
theorem d_Mo_walk_71 : decode m_Mo_walk.2.1 71 = .ok (.iaload, 1) := by decide +kernel
theorem d_Mo_walk_72 : decode m_Mo_walk.2.1 72 = .ok (.goto 9, 3) := by decide +kernel
theorem d_Mo_walk_75 : decode m_Mo_walk.2.1 75 = .ok (.aload_n 0, 1) := by decide +kernel
theorem d_Mo_walk_76 : decode m_Mo_walk.2.1 76 = .ok (.getfield 19, 3) := by decide +kernel
theorem d_Mo_walk_79 : decode m_Mo_walk.2.1 79 = .ok (.iload_n 2, 1) := by decide +kernel
theorem d_Mo_walk_80 : decode m_Mo_walk.2.1 80 = .ok (.iaload, 1) := by decide +kernel
theorem d_Mo_walk_81 : decode m_Mo_walk.2.1 81 = .ok (.iload_n 3, 1) := by decide +kernel
theorem d_Mo_walk_82 : decode m_Mo_walk.2.1 82 = .ok (.iload 4, 2) := by decide +kernel
theorem d_Mo_walk_84 : decode m_Mo_walk.2.1 84 = .ok (.iload 5, 2) := by decide +kernel
theorem d_Mo_walk_86 : decode m_Mo_walk.2.1 86 = .ok (.aload_n 0, 1) := by decide +kernel
theorem d_Mo_walk_87 : decode m_Mo_walk.2.1 87 = .ok (.getfield 38, 3) := by decide +kernel
theorem d_Mo_walk_90 : decode m_Mo_walk.2.1 90 = .ok (.iload_n 1, 1) := by decide +kernel
theorem d_Mo_walk_91 : decode m_Mo_walk.2.1 91 = .ok (.iaload, 1) := by decide +kernel
theorem d_Mo_walk_92 : decode m_Mo_walk.2.1 92 = .ok (.invokevirtual 369, 3) := by decide +kernel
theorem d_Mo_walk_95 : decode m_Mo_walk.2.1 95 = .ok (.ireturn, 1) := by decide +kernel
theorem d_Mo_isMinute_0 : decode m_Mo_isMinute.2.1 0 = .ok (.iload_n 0, 1) := by decide +kernel
theorem d_Mo_isMinute_1 : decode m_Mo_isMinute.2.1 1 = .ok (.iconst 1, 1) := by decide +kernel
theorem d_Mo_isMinute_2 : decode m_Mo_isMinute.2.1 2 = .ok (.if_icmp .lt 14, 3) := by decide +kernel
theorem d_Mo_isMinute_5 : decode m_Mo_isMinute.2.1 5 = .ok (.iload_n 0, 1) := by decide +kernel
theorem d_Mo_isMinute_6 : decode m_Mo_isMinute.2.1 6 = .ok (.sipush 240, 3) := by decide +kernel
theorem d_Mo_isMinute_9 : decode m_Mo_isMinute.2.1 9 = .ok (.if_icmp .gt 7, 3) := by decide +kernel
theorem d_Mo_isMinute_12 : decode m_Mo_isMinute.2.1 12 = .ok (.iconst 1, 1) := by decide +kernel
theorem d_Mo_isMinute_13 : decode m_Mo_isMinute.2.1 13 = .ok (.goto 4, 3) := by decide +kernel
theorem d_Mo_isMinute_16 : decode m_Mo_isMinute.2.1 16 = .ok (.iconst 0, 1) := by decide +kernel
theorem d_Mo_isMinute_17 : decode m_Mo_isMinute.2.1 17 = .ok (.ireturn, 1) := by decide +kernel
theorem d_Mo_plain_0 : decode m_Mo_plain.2.1 0 = .ok (.aload_n 0, 1) := by decide +kernel
theorem d_Mo_plain_1 : decode m_Mo_plain.2.1 1 = .ok (.iconst (-1), 1) := by decide +kernel
theorem d_Mo_plain_2 : decode m_Mo_plain.2.1 2 = .ok (.putfield 88, 3) := by decide +kernel
theorem d_Mo_plain_5 : decode m_Mo_plain.2.1 5 = .ok (.aload_n 0, 1) := by decide +kernel
theorem d_Mo_plain_6 : decode m_Mo_plain.2.1 6 = .ok (.iconst (-1), 1) := by decide +kernel
theorem d_Mo_plain_7 : decode m_Mo_plain.2.1 7 = .ok (.putfield 91, 3) := by decide +kernel
theorem d_Mo_plain_10 : decode m_Mo_plain.2.1 10 = .ok (.aload_n 0, 1) := by decide +kernel
theorem d_Mo_plain_11 : decode m_Mo_plain.2.1 11 = .ok (.iconst (-1), 1) := by decide +kernel
theorem d_Mo_plain_12 : decode m_Mo_plain.2.1 12 = .ok (.putfield 94, 3) := by decide +kernel
theorem d_Mo_plain_15 : decode m_Mo_plain.2.1 15 = .ok (.return_, 1) := by decide +kernel
theorem d_Mo_walkOf_0 : decode m_Mo_walkOf.2.1 0 = .ok (.aload_n 0, 1) := by decide +kernel
theorem d_Mo_walkOf_1 : decode m_Mo_walkOf.2.1 1 = .ok (.iload_n 2, 1) := by decide +kernel
theorem d_Mo_walkOf_2 : decode m_Mo_walkOf.2.1 2 = .ok (.iload_n 3, 1) := by decide +kernel
theorem d_Mo_walkOf_3 : decode m_Mo_walkOf.2.1 3 = .ok (.iload 4, 2) := by decide +kernel
theorem d_Mo_walkOf_5 : decode m_Mo_walkOf.2.1 5 = .ok (.iload 5, 2) := by decide +kernel
theorem d_Mo_walkOf_7 : decode m_Mo_walkOf.2.1 7 = .ok (.invokevirtual 353, 3) := by decide +kernel
theorem d_Mo_walkOf_10 : decode m_Mo_walkOf.2.1 10 = .ok (.aload_n 0, 1) := by decide +kernel
theorem d_Mo_walkOf_11 : decode m_Mo_walkOf.2.1 11 = .ok (.getfield 88, 3) := by decide +kernel
theorem d_Mo_walkOf_14 : decode m_Mo_walkOf.2.1 14 = .ok (.iconst 2, 1) := by decide +kernel
theorem d_Mo_walkOf_15 : decode m_Mo_walkOf.2.1 15 = .ok (.if_icmp .ne 7, 3) := by decide +kernel
theorem d_Mo_walkOf_18 : decode m_Mo_walkOf.2.1 18 = .ok (.iconst 0, 1) := by decide +kernel
theorem d_Mo_walkOf_19 : decode m_Mo_walkOf.2.1 19 = .ok (.goto 14, 3) := by decide +kernel
theorem d_Mo_walkOf_22 : decode m_Mo_walkOf.2.1 22 = .ok (.aload_n 0, 1) := by decide +kernel
theorem d_Mo_walkOf_23 : decode m_Mo_walkOf.2.1 23 = .ok (.getfield 19, 3) := by decide +kernel
theorem d_Mo_walkOf_26 : decode m_Mo_walkOf.2.1 26 = .ok (.iload_n 2, 1) := by decide +kernel
theorem d_Mo_walkOf_27 : decode m_Mo_walkOf.2.1 27 = .ok (.iaload, 1) := by decide +kernel
theorem d_Mo_walkOf_28 : decode m_Mo_walkOf.2.1 28 = .ok (.iload_n 1, 1) := by decide +kernel
theorem d_Mo_walkOf_29 : decode m_Mo_walkOf.2.1 29 = .ok (.isub, 1) := by decide +kernel
theorem d_Mo_walkOf_30 : decode m_Mo_walkOf.2.1 30 = .ok (.invokestatic 357, 3) := by decide +kernel
theorem d_Mo_walkOf_33 : decode m_Mo_walkOf.2.1 33 = .ok (.istore 6, 2) := by decide +kernel
theorem d_Mo_walkOf_35 : decode m_Mo_walkOf.2.1 35 = .ok (.aload_n 0, 1) := by decide +kernel
theorem d_Mo_walkOf_36 : decode m_Mo_walkOf.2.1 36 = .ok (.getfield 81, 3) := by decide +kernel
theorem d_Mo_walkOf_39 : decode m_Mo_walkOf.2.1 39 = .ok (.iconst 0, 1) := by decide +kernel
theorem d_Mo_walkOf_40 : decode m_Mo_walkOf.2.1 40 = .ok (.iload 6, 2) := by decide +kernel
theorem d_Mo_walkOf_42 : decode m_Mo_walkOf.2.1 42 = .ok (.i2l, 1) := by decide +kernel
theorem d_Mo_walkOf_43 : decode m_Mo_walkOf.2.1 43 = .ok (.lastore, 1) := by decide +kernel
theorem d_Mo_walkOf_44 : decode m_Mo_walkOf.2.1 44 = .ok (.aload_n 0, 1) := by decide +kernel
theorem d_Mo_walkOf_45 : decode m_Mo_walkOf.2.1 45 = .ok (.getfield 81, 3) := by decide +kernel
theorem d_Mo_walkOf_48 : decode m_Mo_walkOf.2.1 48 = .ok (.iconst 3, 1) := by decide +kernel
theorem d_Mo_walkOf_49 : decode m_Mo_walkOf.2.1 49 = .ok (.aload_n 0, 1) := by decide +kernel
theorem d_Mo_walkOf_50 : decode m_Mo_walkOf.2.1 50 = .ok (.getfield 88, 3) := by decide +kernel
theorem d_Mo_walkOf_53 : decode m_Mo_walkOf.2.1 53 = .ok (.iconst 2, 1) := by decide +kernel
theorem d_Mo_walkOf_54 : decode m_Mo_walkOf.2.1 54 = .ok (.if_icmp .eq 17, 3) := by decide +kernel
theorem d_Mo_walkOf_57 : decode m_Mo_walkOf.2.1 57 = .ok (.aload_n 0, 1) := by decide +kernel
theorem d_Mo_walkOf_58 : decode m_Mo_walkOf.2.1 58 = .ok (.getfield 19, 3) := by decide +kernel
theorem d_Mo_walkOf_61 : decode m_Mo_walkOf.2.1 61 = .ok (.iload_n 2, 1) := by decide +kernel
theorem d_Mo_walkOf_62 : decode m_Mo_walkOf.2.1 62 = .ok (.iaload, 1) := by decide +kernel
theorem d_Mo_walkOf_63 : decode m_Mo_walkOf.2.1 63 = .ok (.iload_n 1, 1) := by decide +kernel
theorem d_Mo_walkOf_64 : decode m_Mo_walkOf.2.1 64 = .ok (.if_icmp .le 7, 3) := by decide +kernel
theorem d_Mo_walkOf_67 : decode m_Mo_walkOf.2.1 67 = .ok (.iconst 1, 1) := by decide +kernel
theorem d_Mo_walkOf_68 : decode m_Mo_walkOf.2.1 68 = .ok (.goto 4, 3) := by decide +kernel
theorem d_Mo_walkOf_71 : decode m_Mo_walkOf.2.1 71 = .ok (.iconst 0, 1) := by decide +kernel
theorem d_Mo_walkOf_72 : decode m_Mo_walkOf.2.1 72 = .ok (.invokestatic 323, 3) := by decide +kernel
theorem d_Mo_walkOf_75 : decode m_Mo_walkOf.2.1 75 = .ok (.lastore, 1) := by decide +kernel
theorem d_Mo_walkOf_76 : decode m_Mo_walkOf.2.1 76 = .ok (.aload_n 0, 1) := by decide +kernel
theorem d_Mo_walkOf_77 : decode m_Mo_walkOf.2.1 77 = .ok (.iconst 0, 1) := by decide +kernel
theorem d_Mo_walkOf_78 : decode m_Mo_walkOf.2.1 78 = .ok (.sipush 240, 3) := by decide +kernel
theorem d_Mo_walkOf_81 : decode m_Mo_walkOf.2.1 81 = .ok (.iload 6, 2) := by decide +kernel
theorem d_Mo_walkOf_83 : decode m_Mo_walkOf.2.1 83 = .ok (.invokevirtual 359, 3) := by decide +kernel
theorem d_Mo_walkOf_86 : decode m_Mo_walkOf.2.1 86 = .ok (.ireturn, 1) := by decide +kernel
theorem d_Mo_calls_0 : decode m_Mo_calls.2.1 0 = .ok (.aload_n 0, 1) := by decide +kernel
theorem d_Mo_calls_1 : decode m_Mo_calls.2.1 1 = .ok (.getfield 81, 3) := by decide +kernel
theorem d_Mo_calls_4 : decode m_Mo_calls.2.1 4 = .ok (.iconst 0, 1) := by decide +kernel
theorem d_Mo_calls_5 : decode m_Mo_calls.2.1 5 = .ok (.lconst 0, 1) := by decide +kernel
theorem d_Mo_calls_6 : decode m_Mo_calls.2.1 6 = .ok (.lastore, 1) := by decide +kernel
theorem d_Mo_calls_7 : decode m_Mo_calls.2.1 7 = .ok (.aload_n 0, 1) := by decide +kernel
theorem d_Mo_calls_8 : decode m_Mo_calls.2.1 8 = .ok (.getfield 81, 3) := by decide +kernel
theorem d_Mo_calls_11 : decode m_Mo_calls.2.1 11 = .ok (.iconst 1, 1) := by decide +kernel
theorem d_Mo_calls_12 : decode m_Mo_calls.2.1 12 = .ok (.iload_n 3, 1) := by decide +kernel
theorem d_Mo_calls_13 : decode m_Mo_calls.2.1 13 = .ok (.i2l, 1) := by decide +kernel
theorem d_Mo_calls_14 : decode m_Mo_calls.2.1 14 = .ok (.lastore, 1) := by decide +kernel
theorem d_Mo_calls_15 : decode m_Mo_calls.2.1 15 = .ok (.aload_n 0, 1) := by decide +kernel
theorem d_Mo_calls_16 : decode m_Mo_calls.2.1 16 = .ok (.getfield 81, 3) := by decide +kernel
theorem d_Mo_calls_19 : decode m_Mo_calls.2.1 19 = .ok (.iconst 2, 1) := by decide +kernel
theorem d_Mo_calls_20 : decode m_Mo_calls.2.1 20 = .ok (.iload_n 2, 1) := by decide +kernel
theorem d_Mo_calls_21 : decode m_Mo_calls.2.1 21 = .ok (.i2l, 1) := by decide +kernel
theorem d_Mo_calls_22 : decode m_Mo_calls.2.1 22 = .ok (.lastore, 1) := by decide +kernel
theorem d_Mo_calls_23 : decode m_Mo_calls.2.1 23 = .ok (.aload_n 0, 1) := by decide +kernel
theorem d_Mo_calls_24 : decode m_Mo_calls.2.1 24 = .ok (.getfield 81, 3) := by decide +kernel
theorem d_Mo_calls_27 : decode m_Mo_calls.2.1 27 = .ok (.iconst 3, 1) := by decide +kernel
theorem d_Mo_calls_28 : decode m_Mo_calls.2.1 28 = .ok (.lconst 0, 1) := by decide +kernel
theorem d_Mo_calls_29 : decode m_Mo_calls.2.1 29 = .ok (.lastore, 1) := by decide +kernel
theorem d_Mo_calls_30 : decode m_Mo_calls.2.1 30 = .ok (.aload_n 0, 1) := by decide +kernel
theorem d_Mo_calls_31 : decode m_Mo_calls.2.1 31 = .ok (.getfield 81, 3) := by decide +kernel
theorem d_Mo_calls_34 : decode m_Mo_calls.2.1 34 = .ok (.iconst 4, 1) := by decide +kernel
theorem d_Mo_calls_35 : decode m_Mo_calls.2.1 35 = .ok (.iload 4, 2) := by decide +kernel
theorem d_Mo_calls_37 : decode m_Mo_calls.2.1 37 = .ok (.i2l, 1) := by decide +kernel
theorem d_Mo_calls_38 : decode m_Mo_calls.2.1 38 = .ok (.lastore, 1) := by decide +kernel
theorem d_Mo_calls_39 : decode m_Mo_calls.2.1 39 = .ok (.aload_n 0, 1) := by decide +kernel
theorem d_Mo_calls_40 : decode m_Mo_calls.2.1 40 = .ok (.getfield 81, 3) := by decide +kernel
theorem d_Mo_calls_43 : decode m_Mo_calls.2.1 43 = .ok (.iconst 5, 1) := by decide +kernel
theorem d_Mo_calls_44 : decode m_Mo_calls.2.1 44 = .ok (.aload_n 0, 1) := by decide +kernel
theorem d_Mo_calls_45 : decode m_Mo_calls.2.1 45 = .ok (.getfield 22, 3) := by decide +kernel
theorem d_Mo_calls_48 : decode m_Mo_calls.2.1 48 = .ok (.iload_n 1, 1) := by decide +kernel
theorem d_Mo_calls_49 : decode m_Mo_calls.2.1 49 = .ok (.iaload, 1) := by decide +kernel
theorem d_Mo_calls_50 : decode m_Mo_calls.2.1 50 = .ok (.i2l, 1) := by decide +kernel
theorem d_Mo_calls_51 : decode m_Mo_calls.2.1 51 = .ok (.lastore, 1) := by decide +kernel
theorem d_Mo_calls_52 : decode m_Mo_calls.2.1 52 = .ok (.aload_n 0, 1) := by decide +kernel
theorem d_Mo_calls_53 : decode m_Mo_calls.2.1 53 = .ok (.getfield 81, 3) := by decide +kernel
theorem d_Mo_calls_56 : decode m_Mo_calls.2.1 56 = .ok (.bipush 6, 2) := by decide +kernel
theorem d_Mo_calls_58 : decode m_Mo_calls.2.1 58 = .ok (.lconst 0, 1) := by decide +kernel
theorem d_Mo_calls_59 : decode m_Mo_calls.2.1 59 = .ok (.lastore, 1) := by decide +kernel
theorem d_Mo_calls_60 : decode m_Mo_calls.2.1 60 = .ok (.return_, 1) := by decide +kernel
theorem d_Mo_is_0 : decode m_Mo_is.2.1 0 = .ok (.iload_n 0, 1) := by decide +kernel
theorem d_Mo_is_1 : decode m_Mo_is.2.1 1 = .ok (.ifCond .eq 7, 3) := by decide +kernel
theorem d_Mo_is_4 : decode m_Mo_is.2.1 4 = .ok (.lconst 1, 1) := by decide +kernel
theorem d_Mo_is_5 : decode m_Mo_is.2.1 5 = .ok (.goto 4, 3) := by decide +kernel
theorem d_Mo_is_8 : decode m_Mo_is.2.1 8 = .ok (.lconst 0, 1) := by decide +kernel
theorem d_Mo_is_9 : decode m_Mo_is.2.1 9 = .ok (.lreturn, 1) := by decide +kernel
theorem d_Mo_asks_0 : decode m_Mo_asks.2.1 0 = .ok (.aload_n 0, 1) := by decide +kernel
theorem d_Mo_asks_1 : decode m_Mo_asks.2.1 1 = .ok (.iload_n 1, 1) := by decide +kernel
theorem d_Mo_asks_2 : decode m_Mo_asks.2.1 2 = .ok (.invokevirtual 340, 3) := by decide +kernel
theorem d_Mo_asks_5 : decode m_Mo_asks.2.1 5 = .ok (.ifCond .eq 11, 3) := by decide +kernel
theorem d_Mo_asks_8 : decode m_Mo_asks.2.1 8 = .ok (.aload_n 0, 1) := by decide +kernel
theorem d_Mo_asks_9 : decode m_Mo_asks.2.1 9 = .ok (.iload_n 1, 1) := by decide +kernel
theorem d_Mo_asks_10 : decode m_Mo_asks.2.1 10 = .ok (.invokevirtual 343, 3) := by decide +kernel
theorem d_Mo_asks_13 : decode m_Mo_asks.2.1 13 = .ok (.ifCond .ne 5, 3) := by decide +kernel
theorem d_Mo_asks_16 : decode m_Mo_asks.2.1 16 = .ok (.iload_n 3, 1) := by decide +kernel
theorem d_Mo_asks_17 : decode m_Mo_asks.2.1 17 = .ok (.ireturn, 1) := by decide +kernel
theorem d_Mo_asks_18 : decode m_Mo_asks.2.1 18 = .ok (.lconst 0, 1) := by decide +kernel
theorem d_Mo_asks_19 : decode m_Mo_asks.2.1 19 = .ok (.iload_n 2, 1) := by decide +kernel
theorem d_Mo_asks_20 : decode m_Mo_asks.2.1 20 = .ok (.i2l, 1) := by decide +kernel
theorem d_Mo_asks_21 : decode m_Mo_asks.2.1 21 = .ok (.aload_n 0, 1) := by decide +kernel
theorem d_Mo_asks_22 : decode m_Mo_asks.2.1 22 = .ok (.getfield 85, 3) := by decide +kernel
theorem d_Mo_asks_25 : decode m_Mo_asks.2.1 25 = .ok (.iconst 0, 1) := by decide +kernel
theorem d_Mo_asks_26 : decode m_Mo_asks.2.1 26 = .ok (.laload, 1) := by decide +kernel
theorem d_Mo_asks_27 : decode m_Mo_asks.2.1 27 = .ok (.invokestatic 346, 3) := by decide +kernel
theorem d_Mo_asks_30 : decode m_Mo_asks.2.1 30 = .ok (.invokestatic 350, 3) := by decide +kernel
theorem d_Mo_asks_33 : decode m_Mo_asks.2.1 33 = .ok (.l2i, 1) := by decide +kernel
theorem d_Mo_asks_34 : decode m_Mo_asks.2.1 34 = .ok (.ireturn, 1) := by decide +kernel
theorem d_Mo_hasLaw_0 : decode m_Mo_hasLaw.2.1 0 = .ok (.aload_n 0, 1) := by decide +kernel
theorem d_Mo_hasLaw_1 : decode m_Mo_hasLaw.2.1 1 = .ok (.getfield 44, 3) := by decide +kernel
theorem d_Mo_hasLaw_4 : decode m_Mo_hasLaw.2.1 4 = .ok (.iload_n 1, 1) := by decide +kernel
theorem d_Mo_hasLaw_5 : decode m_Mo_hasLaw.2.1 5 = .ok (.iaload, 1) := by decide +kernel
theorem d_Mo_hasLaw_6 : decode m_Mo_hasLaw.2.1 6 = .ok (.aload_n 0, 1) := by decide +kernel
theorem d_Mo_hasLaw_7 : decode m_Mo_hasLaw.2.1 7 = .ok (.getfield 41, 3) := by decide +kernel
theorem d_Mo_hasLaw_10 : decode m_Mo_hasLaw.2.1 10 = .ok (.iload_n 1, 1) := by decide +kernel
theorem d_Mo_hasLaw_11 : decode m_Mo_hasLaw.2.1 11 = .ok (.iaload, 1) := by decide +kernel
theorem d_Mo_hasLaw_12 : decode m_Mo_hasLaw.2.1 12 = .ok (.if_icmp .le 7, 3) := by decide +kernel
theorem d_Mo_hasLaw_15 : decode m_Mo_hasLaw.2.1 15 = .ok (.iconst 1, 1) := by decide +kernel
theorem d_Mo_hasLaw_16 : decode m_Mo_hasLaw.2.1 16 = .ok (.goto 4, 3) := by decide +kernel
theorem d_Mo_hasLaw_19 : decode m_Mo_hasLaw.2.1 19 = .ok (.iconst 0, 1) := by decide +kernel
theorem d_Mo_hasLaw_20 : decode m_Mo_hasLaw.2.1 20 = .ok (.ireturn, 1) := by decide +kernel
theorem d_Mo_goes_0 : decode m_Mo_goes.2.1 0 = .ok (.aload_n 0, 1) := by decide +kernel
theorem d_Mo_goes_1 : decode m_Mo_goes.2.1 1 = .ok (.iconst 0, 1) := by decide +kernel
theorem d_Mo_goes_2 : decode m_Mo_goes.2.1 2 = .ok (.putfield 320, 3) := by decide +kernel
theorem d_Mo_goes_5 : decode m_Mo_goes.2.1 5 = .ok (.aload_n 0, 1) := by decide +kernel
theorem d_Mo_goes_6 : decode m_Mo_goes.2.1 6 = .ok (.getfield 41, 3) := by decide +kernel
theorem d_Mo_goes_9 : decode m_Mo_goes.2.1 9 = .ok (.iload_n 1, 1) := by decide +kernel
theorem d_Mo_goes_10 : decode m_Mo_goes.2.1 10 = .ok (.iaload, 1) := by decide +kernel
theorem d_Mo_goes_11 : decode m_Mo_goes.2.1 11 = .ok (.istore_n 2, 1) := by decide +kernel
theorem d_Mo_goes_12 : decode m_Mo_goes.2.1 12 = .ok (.iload_n 2, 1) := by decide +kernel
theorem d_Mo_goes_13 : decode m_Mo_goes.2.1 13 = .ok (.aload_n 0, 1) := by decide +kernel
theorem d_Mo_goes_14 : decode m_Mo_goes.2.1 14 = .ok (.getfield 44, 3) := by decide +kernel
theorem d_Mo_goes_17 : decode m_Mo_goes.2.1 17 = .ok (.iload_n 1, 1) := by decide +kernel
theorem d_Mo_goes_18 : decode m_Mo_goes.2.1 18 = .ok (.iaload, 1) := by decide +kernel
theorem d_Mo_goes_19 : decode m_Mo_goes.2.1 19 = .ok (.if_icmp .ge 83, 3) := by decide +kernel
theorem d_Mo_goes_22 : decode m_Mo_goes.2.1 22 = .ok (.aload_n 0, 1) := by decide +kernel
theorem d_Mo_goes_23 : decode m_Mo_goes.2.1 23 = .ok (.getfield 47, 3) := by decide +kernel
theorem d_Mo_goes_26 : decode m_Mo_goes.2.1 26 = .ok (.iload_n 2, 1) := by decide +kernel
theorem d_Mo_goes_27 : decode m_Mo_goes.2.1 27 = .ok (.iaload, 1) := by decide +kernel
theorem d_Mo_goes_28 : decode m_Mo_goes.2.1 28 = .ok (.iconst 2, 1) := by decide +kernel
theorem d_Mo_goes_29 : decode m_Mo_goes.2.1 29 = .ok (.if_icmp .ne 18, 3) := by decide +kernel
theorem d_Mo_goes_32 : decode m_Mo_goes.2.1 32 = .ok (.aload_n 0, 1) := by decide +kernel
theorem d_Mo_goes_33 : decode m_Mo_goes.2.1 33 = .ok (.aload_n 0, 1) := by decide +kernel
theorem d_Mo_goes_34 : decode m_Mo_goes.2.1 34 = .ok (.getfield 50, 3) := by decide +kernel
theorem d_Mo_goes_37 : decode m_Mo_goes.2.1 37 = .ok (.iload_n 2, 1) := by decide +kernel
theorem d_Mo_goes_38 : decode m_Mo_goes.2.1 38 = .ok (.iaload, 1) := by decide +kernel
theorem d_Mo_goes_39 : decode m_Mo_goes.2.1 39 = .ok (.invokevirtual 337, 3) := by decide +kernel
theorem d_Mo_goes_42 : decode m_Mo_goes.2.1 42 = .ok (.ifCond .ne 54, 3) := by decide +kernel
theorem d_Mo_goes_45 : decode m_Mo_goes.2.1 45 = .ok (.iconst 0, 1) := by decide +kernel
theorem d_Mo_goes_46 : decode m_Mo_goes.2.1 46 = .ok (.ireturn, 1) := by decide +kernel
theorem d_Mo_goes_47 : decode m_Mo_goes.2.1 47 = .ok (.aload_n 0, 1) := by decide +kernel
theorem d_Mo_goes_48 : decode m_Mo_goes.2.1 48 = .ok (.getfield 85, 3) := by decide +kernel
theorem d_Mo_goes_51 : decode m_Mo_goes.2.1 51 = .ok (.aload_n 0, 1) := by decide +kernel
theorem d_Mo_goes_52 : decode m_Mo_goes.2.1 52 = .ok (.getfield 320, 3) := by decide +kernel
theorem d_Mo_goes_55 : decode m_Mo_goes.2.1 55 = .ok (.aload_n 0, 1) := by decide +kernel
theorem d_Mo_goes_56 : decode m_Mo_goes.2.1 56 = .ok (.getfield 47, 3) := by decide +kernel
theorem d_Mo_goes_59 : decode m_Mo_goes.2.1 59 = .ok (.iload_n 2, 1) := by decide +kernel
theorem d_Mo_goes_60 : decode m_Mo_goes.2.1 60 = .ok (.iaload, 1) := by decide +kernel
theorem d_Mo_goes_61 : decode m_Mo_goes.2.1 61 = .ok (.ifCond .ne 13, 3) := by decide +kernel
theorem d_Mo_goes_64 : decode m_Mo_goes.2.1 64 = .ok (.aload_n 0, 1) := by decide +kernel
theorem d_Mo_goes_65 : decode m_Mo_goes.2.1 65 = .ok (.getfield 50, 3) := by decide +kernel
theorem d_Mo_goes_68 : decode m_Mo_goes.2.1 68 = .ok (.iload_n 2, 1) := by decide +kernel
theorem d_Mo_goes_69 : decode m_Mo_goes.2.1 69 = .ok (.iaload, 1) := by decide +kernel
theorem d_Mo_goes_70 : decode m_Mo_goes.2.1 70 = .ok (.i2l, 1) := by decide +kernel
theorem d_Mo_goes_71 : decode m_Mo_goes.2.1 71 = .ok (.goto 14, 3) := by decide +kernel
theorem d_Mo_goes_74 : decode m_Mo_goes.2.1 74 = .ok (.aload_n 0, 1) := by decide +kernel
theorem d_Mo_goes_75 : decode m_Mo_goes.2.1 75 = .ok (.getfield 81, 3) := by decide +kernel
theorem d_Mo_goes_78 : decode m_Mo_goes.2.1 78 = .ok (.aload_n 0, 1) := by decide +kernel
theorem d_Mo_goes_79 : decode m_Mo_goes.2.1 79 = .ok (.getfield 50, 3) := by decide +kernel
theorem d_Mo_goes_82 : decode m_Mo_goes.2.1 82 = .ok (.iload_n 2, 1) := by decide +kernel
theorem d_Mo_goes_83 : decode m_Mo_goes.2.1 83 = .ok (.iaload, 1) := by decide +kernel
theorem d_Mo_goes_84 : decode m_Mo_goes.2.1 84 = .ok (.laload, 1) := by decide +kernel
theorem d_Mo_goes_85 : decode m_Mo_goes.2.1 85 = .ok (.lastore, 1) := by decide +kernel
theorem d_Mo_goes_86 : decode m_Mo_goes.2.1 86 = .ok (.aload_n 0, 1) := by decide +kernel
theorem d_Mo_goes_87 : decode m_Mo_goes.2.1 87 = .ok (.dup, 1) := by decide +kernel
theorem d_Mo_goes_88 : decode m_Mo_goes.2.1 88 = .ok (.getfield 320, 3) := by decide +kernel
theorem d_Mo_goes_91 : decode m_Mo_goes.2.1 91 = .ok (.iconst 1, 1) := by decide +kernel
theorem d_Mo_goes_92 : decode m_Mo_goes.2.1 92 = .ok (.iadd, 1) := by decide +kernel
theorem d_Mo_goes_93 : decode m_Mo_goes.2.1 93 = .ok (.putfield 320, 3) := by decide +kernel
theorem d_Mo_goes_96 : decode m_Mo_goes.2.1 96 = .ok (.iinc 2 1, 3) := by decide +kernel
theorem d_Mo_goes_99 : decode m_Mo_goes.2.1 99 = .ok (.goto (-87), 3) := by decide +kernel
theorem d_Mo_goes_102 : decode m_Mo_goes.2.1 102 = .ok (.iconst 1, 1) := by decide +kernel
theorem d_Mo_goes_103 : decode m_Mo_goes.2.1 103 = .ok (.ireturn, 1) := by decide +kernel
theorem d_Mo_works_0 : decode m_Mo_works.2.1 0 = .ok (.aload_n 0, 1) := by decide +kernel
theorem d_Mo_works_1 : decode m_Mo_works.2.1 1 = .ok (.getfield 85, 3) := by decide +kernel
theorem d_Mo_works_4 : decode m_Mo_works.2.1 4 = .ok (.aload_n 0, 1) := by decide +kernel
theorem d_Mo_works_5 : decode m_Mo_works.2.1 5 = .ok (.getfield 320, 3) := by decide +kernel
theorem d_Mo_works_8 : decode m_Mo_works.2.1 8 = .ok (.iconst 1, 1) := by decide +kernel
theorem d_Mo_works_9 : decode m_Mo_works.2.1 9 = .ok (.isub, 1) := by decide +kernel
theorem d_Mo_works_10 : decode m_Mo_works.2.1 10 = .ok (.laload, 1) := by decide +kernel
theorem d_Mo_works_11 : decode m_Mo_works.2.1 11 = .ok (.lstore_n 2, 1) := by decide +kernel
theorem d_Mo_works_12 : decode m_Mo_works.2.1 12 = .ok (.iload_n 1, 1) := by decide +kernel
theorem d_Mo_works_13 : decode m_Mo_works.2.1 13 = .ok (.sipush 260, 3) := by decide +kernel
theorem d_Mo_works_16 : decode m_Mo_works.2.1 16 = .ok (.if_icmp .ne 30, 3) := by decide +kernel
theorem d_Mo_works_19 : decode m_Mo_works.2.1 19 = .ok (.aload_n 0, 1) := by decide +kernel
theorem d_Mo_works_20 : decode m_Mo_works.2.1 20 = .ok (.getfield 85, 3) := by decide +kernel
theorem d_Mo_works_23 : decode m_Mo_works.2.1 23 = .ok (.aload_n 0, 1) := by decide +kernel
theorem d_Mo_works_24 : decode m_Mo_works.2.1 24 = .ok (.getfield 320, 3) := by decide +kernel
theorem d_Mo_works_27 : decode m_Mo_works.2.1 27 = .ok (.iconst 1, 1) := by decide +kernel
theorem d_Mo_works_28 : decode m_Mo_works.2.1 28 = .ok (.isub, 1) := by decide +kernel
theorem d_Mo_works_29 : decode m_Mo_works.2.1 29 = .ok (.lload_n 2, 1) := by decide +kernel
theorem d_Mo_works_30 : decode m_Mo_works.2.1 30 = .ok (.lconst 0, 1) := by decide +kernel
theorem d_Mo_works_31 : decode m_Mo_works.2.1 31 = .ok (.lcmp, 1) := by decide +kernel
theorem d_Mo_works_32 : decode m_Mo_works.2.1 32 = .ok (.ifCond .ne 7, 3) := by decide +kernel
theorem d_Mo_works_35 : decode m_Mo_works.2.1 35 = .ok (.iconst 1, 1) := by decide +kernel
theorem d_Mo_works_36 : decode m_Mo_works.2.1 36 = .ok (.goto 4, 3) := by decide +kernel
theorem d_Mo_works_39 : decode m_Mo_works.2.1 39 = .ok (.iconst 0, 1) := by decide +kernel
theorem d_Mo_works_40 : decode m_Mo_works.2.1 40 = .ok (.invokestatic 323, 3) := by decide +kernel
theorem d_Mo_works_43 : decode m_Mo_works.2.1 43 = .ok (.lastore, 1) := by decide +kernel
theorem d_Mo_works_44 : decode m_Mo_works.2.1 44 = .ok (.iconst 1, 1) := by decide +kernel
theorem d_Mo_works_45 : decode m_Mo_works.2.1 45 = .ok (.ireturn, 1) := by decide +kernel
theorem d_Mo_works_46 : decode m_Mo_works.2.1 46 = .ok (.aload_n 0, 1) := by decide +kernel
theorem d_Mo_works_47 : decode m_Mo_works.2.1 47 = .ok (.getfield 85, 3) := by decide +kernel
theorem d_Mo_works_50 : decode m_Mo_works.2.1 50 = .ok (.aload_n 0, 1) := by decide +kernel
theorem d_Mo_works_51 : decode m_Mo_works.2.1 51 = .ok (.getfield 320, 3) := by decide +kernel
theorem d_Mo_works_54 : decode m_Mo_works.2.1 54 = .ok (.iconst 2, 1) := by decide +kernel
theorem d_Mo_works_55 : decode m_Mo_works.2.1 55 = .ok (.isub, 1) := by decide +kernel
theorem d_Mo_works_56 : decode m_Mo_works.2.1 56 = .ok (.laload, 1) := by decide +kernel
theorem d_Mo_works_57 : decode m_Mo_works.2.1 57 = .ok (.lstore 4, 2) := by decide +kernel
theorem d_Mo_works_59 : decode m_Mo_works.2.1 59 = .ok (.aload_n 0, 1) := by decide +kernel
theorem d_Mo_works_60 : decode m_Mo_works.2.1 60 = .ok (.dup, 1) := by decide +kernel
theorem d_Mo_works_61 : decode m_Mo_works.2.1 61 = .ok (.getfield 320, 3) := by decide +kernel
theorem d_Mo_works_64 : decode m_Mo_works.2.1 64 = .ok (.iconst 1, 1) := by decide +kernel
theorem d_Mo_works_65 : decode m_Mo_works.2.1 65 = .ok (.isub, 1) := by decide +kernel
theorem d_Mo_works_66 : decode m_Mo_works.2.1 66 = .ok (.putfield 320, 3) := by decide +kernel
theorem d_Mo_works_69 : decode m_Mo_works.2.1 69 = .ok (.iload_n 1, 1) := by decide +kernel
theorem d_Mo_works_70 : decode m_Mo_works.2.1 70 = .ok (.lookupswitch 314 #[(42, 116), (43, 98), (45, 107), (47, 151), (60, 168), (61, 208), (62, 188), (256, 228), (257, 268), (258, 248), (261, 288)], 98) := by decide +kernel
theorem d_Mo_works_168 : decode m_Mo_works.2.1 168 = .ok (.lload 4, 2) := by decide +kernel
theorem d_Mo_works_170 : decode m_Mo_works.2.1 170 = .ok (.lload_n 2, 1) := by decide +kernel
theorem d_Mo_works_171 : decode m_Mo_works.2.1 171 = .ok (.ladd, 1) := by decide +kernel
theorem d_Mo_works_172 : decode m_Mo_works.2.1 172 = .ok (.lstore 6, 2) := by decide +kernel
theorem d_Mo_works_174 : decode m_Mo_works.2.1 174 = .ok (.goto 233, 3) := by decide +kernel
theorem d_Mo_works_177 : decode m_Mo_works.2.1 177 = .ok (.lload 4, 2) := by decide +kernel
theorem d_Mo_works_179 : decode m_Mo_works.2.1 179 = .ok (.lload_n 2, 1) := by decide +kernel
theorem d_Mo_works_180 : decode m_Mo_works.2.1 180 = .ok (.lsub, 1) := by decide +kernel
theorem d_Mo_works_181 : decode m_Mo_works.2.1 181 = .ok (.lstore 6, 2) := by decide +kernel
theorem d_Mo_works_183 : decode m_Mo_works.2.1 183 = .ok (.goto 224, 3) := by decide +kernel
theorem d_Mo_works_186 : decode m_Mo_works.2.1 186 = .ok (.lload 4, 2) := by decide +kernel
theorem d_Mo_works_188 : decode m_Mo_works.2.1 188 = .ok (.lconst 0, 1) := by decide +kernel
theorem d_Mo_works_189 : decode m_Mo_works.2.1 189 = .ok (.lcmp, 1) := by decide +kernel
theorem d_Mo_works_190 : decode m_Mo_works.2.1 190 = .ok (.ifCond .eq 22, 3) := by decide +kernel
theorem d_Mo_works_193 : decode m_Mo_works.2.1 193 = .ok (.lload_n 2, 1) := by decide +kernel
theorem d_Mo_works_194 : decode m_Mo_works.2.1 194 = .ok (.invokestatic 327, 3) := by decide +kernel
theorem d_Mo_works_197 : decode m_Mo_works.2.1 197 = .ok (.ldc2_w 333, 3) := by decide +kernel
theorem d_Mo_works_200 : decode m_Mo_works.2.1 200 = .ok (.lload 4, 2) := by decide +kernel
theorem d_Mo_works_202 : decode m_Mo_works.2.1 202 = .ok (.invokestatic 327, 3) := by decide +kernel
theorem d_Mo_works_205 : decode m_Mo_works.2.1 205 = .ok (.ldiv, 1) := by decide +kernel
theorem d_Mo_works_206 : decode m_Mo_works.2.1 206 = .ok (.lcmp, 1) := by decide +kernel
theorem d_Mo_works_207 : decode m_Mo_works.2.1 207 = .ok (.ifCond .le 5, 3) := by decide +kernel
theorem d_Mo_works_210 : decode m_Mo_works.2.1 210 = .ok (.iconst 0, 1) := by decide +kernel
theorem d_Mo_works_211 : decode m_Mo_works.2.1 211 = .ok (.ireturn, 1) := by decide +kernel
theorem d_Mo_works_212 : decode m_Mo_works.2.1 212 = .ok (.lload 4, 2) := by decide +kernel
theorem d_Mo_works_214 : decode m_Mo_works.2.1 214 = .ok (.lload_n 2, 1) := by decide +kernel
theorem d_Mo_works_215 : decode m_Mo_works.2.1 215 = .ok (.lmul, 1) := by decide +kernel
theorem d_Mo_works_216 : decode m_Mo_works.2.1 216 = .ok (.lstore 6, 2) := by decide +kernel
theorem d_Mo_works_218 : decode m_Mo_works.2.1 218 = .ok (.goto 189, 3) := by decide +kernel
theorem d_Mo_works_221 : decode m_Mo_works.2.1 221 = .ok (.lload_n 2, 1) := by decide +kernel
theorem d_Mo_works_222 : decode m_Mo_works.2.1 222 = .ok (.lconst 0, 1) := by decide +kernel
theorem d_Mo_works_223 : decode m_Mo_works.2.1 223 = .ok (.lcmp, 1) := by decide +kernel
theorem d_Mo_works_224 : decode m_Mo_works.2.1 224 = .ok (.ifCond .ne 5, 3) := by decide +kernel
theorem d_Mo_works_227 : decode m_Mo_works.2.1 227 = .ok (.iconst 0, 1) := by decide +kernel
theorem d_Mo_works_228 : decode m_Mo_works.2.1 228 = .ok (.ireturn, 1) := by decide +kernel
theorem d_Mo_works_229 : decode m_Mo_works.2.1 229 = .ok (.lload 4, 2) := by decide +kernel
theorem d_Mo_works_231 : decode m_Mo_works.2.1 231 = .ok (.lload_n 2, 1) := by decide +kernel
theorem d_Mo_works_232 : decode m_Mo_works.2.1 232 = .ok (.ldiv, 1) := by decide +kernel
theorem d_Mo_works_233 : decode m_Mo_works.2.1 233 = .ok (.lstore 6, 2) := by decide +kernel
theorem d_Mo_works_235 : decode m_Mo_works.2.1 235 = .ok (.goto 172, 3) := by decide +kernel
theorem d_Mo_works_238 : decode m_Mo_works.2.1 238 = .ok (.lload 4, 2) := by decide +kernel
theorem d_Mo_works_240 : decode m_Mo_works.2.1 240 = .ok (.lload_n 2, 1) := by decide +kernel
theorem d_Mo_works_241 : decode m_Mo_works.2.1 241 = .ok (.lcmp, 1) := by decide +kernel
theorem d_Mo_works_242 : decode m_Mo_works.2.1 242 = .ok (.ifCond .ge 7, 3) := by decide +kernel
theorem d_Mo_works_245 : decode m_Mo_works.2.1 245 = .ok (.iconst 1, 1) := by decide +kernel
theorem d_Mo_works_246 : decode m_Mo_works.2.1 246 = .ok (.goto 4, 3) := by decide +kernel
theorem d_Mo_works_249 : decode m_Mo_works.2.1 249 = .ok (.iconst 0, 1) := by decide +kernel
theorem d_Mo_works_250 : decode m_Mo_works.2.1 250 = .ok (.invokestatic 323, 3) := by decide +kernel
theorem d_Mo_works_253 : decode m_Mo_works.2.1 253 = .ok (.lstore 6, 2) := by decide +kernel
theorem d_Mo_works_255 : decode m_Mo_works.2.1 255 = .ok (.goto 152, 3) := by decide +kernel
theorem d_Mo_works_258 : decode m_Mo_works.2.1 258 = .ok (.lload 4, 2) := by decide +kernel
theorem d_Mo_works_260 : decode m_Mo_works.2.1 260 = .ok (.lload_n 2, 1) := by decide +kernel
theorem d_Mo_works_261 : decode m_Mo_works.2.1 261 = .ok (.lcmp, 1) := by decide +kernel
theorem d_Mo_works_262 : decode m_Mo_works.2.1 262 = .ok (.ifCond .le 7, 3) := by decide +kernel
theorem d_Mo_works_265 : decode m_Mo_works.2.1 265 = .ok (.iconst 1, 1) := by decide +kernel
theorem d_Mo_works_266 : decode m_Mo_works.2.1 266 = .ok (.goto 4, 3) := by decide +kernel
theorem d_Mo_works_269 : decode m_Mo_works.2.1 269 = .ok (.iconst 0, 1) := by decide +kernel
theorem d_Mo_works_270 : decode m_Mo_works.2.1 270 = .ok (.invokestatic 323, 3) := by decide +kernel
theorem d_Mo_works_273 : decode m_Mo_works.2.1 273 = .ok (.lstore 6, 2) := by decide +kernel
theorem d_Mo_works_275 : decode m_Mo_works.2.1 275 = .ok (.goto 132, 3) := by decide +kernel
theorem d_Mo_works_278 : decode m_Mo_works.2.1 278 = .ok (.lload 4, 2) := by decide +kernel
theorem d_Mo_works_280 : decode m_Mo_works.2.1 280 = .ok (.lload_n 2, 1) := by decide +kernel
theorem d_Mo_works_281 : decode m_Mo_works.2.1 281 = .ok (.lcmp, 1) := by decide +kernel
theorem d_Mo_works_282 : decode m_Mo_works.2.1 282 = .ok (.ifCond .ne 7, 3) := by decide +kernel
theorem d_Mo_works_285 : decode m_Mo_works.2.1 285 = .ok (.iconst 1, 1) := by decide +kernel
theorem d_Mo_works_286 : decode m_Mo_works.2.1 286 = .ok (.goto 4, 3) := by decide +kernel
theorem d_Mo_works_289 : decode m_Mo_works.2.1 289 = .ok (.iconst 0, 1) := by decide +kernel
theorem d_Mo_works_290 : decode m_Mo_works.2.1 290 = .ok (.invokestatic 323, 3) := by decide +kernel
theorem d_Mo_works_293 : decode m_Mo_works.2.1 293 = .ok (.lstore 6, 2) := by decide +kernel
theorem d_Mo_works_295 : decode m_Mo_works.2.1 295 = .ok (.goto 112, 3) := by decide +kernel
theorem d_Mo_works_298 : decode m_Mo_works.2.1 298 = .ok (.lload 4, 2) := by decide +kernel
theorem d_Mo_works_300 : decode m_Mo_works.2.1 300 = .ok (.lload_n 2, 1) := by decide +kernel
theorem d_Mo_works_301 : decode m_Mo_works.2.1 301 = .ok (.lcmp, 1) := by decide +kernel
theorem d_Mo_works_302 : decode m_Mo_works.2.1 302 = .ok (.ifCond .gt 7, 3) := by decide +kernel
theorem d_Mo_works_305 : decode m_Mo_works.2.1 305 = .ok (.iconst 1, 1) := by decide +kernel
theorem d_Mo_works_306 : decode m_Mo_works.2.1 306 = .ok (.goto 4, 3) := by decide +kernel
theorem d_Mo_works_309 : decode m_Mo_works.2.1 309 = .ok (.iconst 0, 1) := by decide +kernel
theorem d_Mo_works_310 : decode m_Mo_works.2.1 310 = .ok (.invokestatic 323, 3) := by decide +kernel
theorem d_Mo_works_313 : decode m_Mo_works.2.1 313 = .ok (.lstore 6, 2) := by decide +kernel
theorem d_Mo_works_315 : decode m_Mo_works.2.1 315 = .ok (.goto 92, 3) := by decide +kernel
theorem d_Mo_works_318 : decode m_Mo_works.2.1 318 = .ok (.lload 4, 2) := by decide +kernel
theorem d_Mo_works_320 : decode m_Mo_works.2.1 320 = .ok (.lload_n 2, 1) := by decide +kernel
theorem d_Mo_works_321 : decode m_Mo_works.2.1 321 = .ok (.lcmp, 1) := by decide +kernel
theorem d_Mo_works_322 : decode m_Mo_works.2.1 322 = .ok (.ifCond .lt 7, 3) := by decide +kernel
theorem d_Mo_works_325 : decode m_Mo_works.2.1 325 = .ok (.iconst 1, 1) := by decide +kernel
theorem d_Mo_works_326 : decode m_Mo_works.2.1 326 = .ok (.goto 4, 3) := by decide +kernel
theorem d_Mo_works_329 : decode m_Mo_works.2.1 329 = .ok (.iconst 0, 1) := by decide +kernel
theorem d_Mo_works_330 : decode m_Mo_works.2.1 330 = .ok (.invokestatic 323, 3) := by decide +kernel
theorem d_Mo_works_333 : decode m_Mo_works.2.1 333 = .ok (.lstore 6, 2) := by decide +kernel
theorem d_Mo_works_335 : decode m_Mo_works.2.1 335 = .ok (.goto 72, 3) := by decide +kernel
theorem d_Mo_works_338 : decode m_Mo_works.2.1 338 = .ok (.lload 4, 2) := by decide +kernel
theorem d_Mo_works_340 : decode m_Mo_works.2.1 340 = .ok (.lload_n 2, 1) := by decide +kernel
theorem d_Mo_works_341 : decode m_Mo_works.2.1 341 = .ok (.lcmp, 1) := by decide +kernel
theorem d_Mo_works_342 : decode m_Mo_works.2.1 342 = .ok (.ifCond .eq 7, 3) := by decide +kernel
theorem d_Mo_works_345 : decode m_Mo_works.2.1 345 = .ok (.iconst 1, 1) := by decide +kernel
theorem d_Mo_works_346 : decode m_Mo_works.2.1 346 = .ok (.goto 4, 3) := by decide +kernel
theorem d_Mo_works_349 : decode m_Mo_works.2.1 349 = .ok (.iconst 0, 1) := by decide +kernel
theorem d_Mo_works_350 : decode m_Mo_works.2.1 350 = .ok (.invokestatic 323, 3) := by decide +kernel
theorem d_Mo_works_353 : decode m_Mo_works.2.1 353 = .ok (.lstore 6, 2) := by decide +kernel
theorem d_Mo_works_355 : decode m_Mo_works.2.1 355 = .ok (.goto 52, 3) := by decide +kernel
theorem d_Mo_works_358 : decode m_Mo_works.2.1 358 = .ok (.lload 4, 2) := by decide +kernel
theorem d_Mo_works_360 : decode m_Mo_works.2.1 360 = .ok (.lconst 0, 1) := by decide +kernel
theorem d_Mo_works_361 : decode m_Mo_works.2.1 361 = .ok (.lcmp, 1) := by decide +kernel
theorem d_Mo_works_362 : decode m_Mo_works.2.1 362 = .ok (.ifCond .eq 13, 3) := by decide +kernel
theorem d_Mo_works_365 : decode m_Mo_works.2.1 365 = .ok (.lload_n 2, 1) := by decide +kernel
theorem d_Mo_works_366 : decode m_Mo_works.2.1 366 = .ok (.lconst 0, 1) := by decide +kernel
theorem d_Mo_works_367 : decode m_Mo_works.2.1 367 = .ok (.lcmp, 1) := by decide +kernel
theorem d_Mo_works_368 : decode m_Mo_works.2.1 368 = .ok (.ifCond .eq 7, 3) := by decide +kernel
theorem d_Mo_works_371 : decode m_Mo_works.2.1 371 = .ok (.iconst 1, 1) := by decide +kernel
theorem d_Mo_works_372 : decode m_Mo_works.2.1 372 = .ok (.goto 4, 3) := by decide +kernel
theorem d_Mo_works_375 : decode m_Mo_works.2.1 375 = .ok (.iconst 0, 1) := by decide +kernel
theorem d_Mo_works_376 : decode m_Mo_works.2.1 376 = .ok (.invokestatic 323, 3) := by decide +kernel
theorem d_Mo_works_379 : decode m_Mo_works.2.1 379 = .ok (.lstore 6, 2) := by decide +kernel
theorem d_Mo_works_381 : decode m_Mo_works.2.1 381 = .ok (.goto 26, 3) := by decide +kernel
theorem d_Mo_works_384 : decode m_Mo_works.2.1 384 = .ok (.lload 4, 2) := by decide +kernel
theorem d_Mo_works_386 : decode m_Mo_works.2.1 386 = .ok (.lconst 0, 1) := by decide +kernel
theorem d_Mo_works_387 : decode m_Mo_works.2.1 387 = .ok (.lcmp, 1) := by decide +kernel
theorem d_Mo_works_388 : decode m_Mo_works.2.1 388 = .ok (.ifCond .ne 9, 3) := by decide +kernel
theorem d_Mo_works_391 : decode m_Mo_works.2.1 391 = .ok (.lload_n 2, 1) := by decide +kernel
theorem d_Mo_works_392 : decode m_Mo_works.2.1 392 = .ok (.lconst 0, 1) := by decide +kernel
theorem d_Mo_works_393 : decode m_Mo_works.2.1 393 = .ok (.lcmp, 1) := by decide +kernel
theorem d_Mo_works_394 : decode m_Mo_works.2.1 394 = .ok (.ifCond .eq 7, 3) := by decide +kernel
theorem d_Mo_works_397 : decode m_Mo_works.2.1 397 = .ok (.iconst 1, 1) := by decide +kernel
theorem d_Mo_works_398 : decode m_Mo_works.2.1 398 = .ok (.goto 4, 3) := by decide +kernel
theorem d_Mo_works_401 : decode m_Mo_works.2.1 401 = .ok (.iconst 0, 1) := by decide +kernel
theorem d_Mo_works_402 : decode m_Mo_works.2.1 402 = .ok (.invokestatic 323, 3) := by decide +kernel
theorem d_Mo_works_405 : decode m_Mo_works.2.1 405 = .ok (.lstore 6, 2) := by decide +kernel
theorem d_Mo_works_407 : decode m_Mo_works.2.1 407 = .ok (.aload_n 0, 1) := by decide +kernel
theorem d_Mo_works_408 : decode m_Mo_works.2.1 408 = .ok (.getfield 85, 3) := by decide +kernel
theorem d_Mo_works_411 : decode m_Mo_works.2.1 411 = .ok (.aload_n 0, 1) := by decide +kernel
theorem d_Mo_works_412 : decode m_Mo_works.2.1 412 = .ok (.getfield 320, 3) := by decide +kernel
theorem d_Mo_works_415 : decode m_Mo_works.2.1 415 = .ok (.iconst 1, 1) := by decide +kernel
theorem d_Mo_works_416 : decode m_Mo_works.2.1 416 = .ok (.isub, 1) := by decide +kernel
theorem d_Mo_works_417 : decode m_Mo_works.2.1 417 = .ok (.lload 6, 2) := by decide +kernel
theorem d_Mo_works_419 : decode m_Mo_works.2.1 419 = .ok (.lastore, 1) := by decide +kernel
theorem d_Mo_works_420 : decode m_Mo_works.2.1 420 = .ok (.lload 6, 2) := by decide +kernel
theorem d_Mo_works_422 : decode m_Mo_works.2.1 422 = .ok (.ldc2_w 333, 3) := by decide +kernel
theorem d_Mo_works_425 : decode m_Mo_works.2.1 425 = .ok (.lcmp, 1) := by decide +kernel
theorem d_Mo_works_426 : decode m_Mo_works.2.1 426 = .ok (.ifCond .gt 16, 3) := by decide +kernel
theorem d_Mo_works_429 : decode m_Mo_works.2.1 429 = .ok (.lload 6, 2) := by decide +kernel
theorem d_Mo_works_431 : decode m_Mo_works.2.1 431 = .ok (.ldc2_w 335, 3) := by decide +kernel
theorem d_Mo_works_434 : decode m_Mo_works.2.1 434 = .ok (.lcmp, 1) := by decide +kernel
theorem d_Mo_works_435 : decode m_Mo_works.2.1 435 = .ok (.ifCond .lt 7, 3) := by decide +kernel
theorem d_Mo_works_438 : decode m_Mo_works.2.1 438 = .ok (.iconst 1, 1) := by decide +kernel
theorem d_Mo_works_439 : decode m_Mo_works.2.1 439 = .ok (.goto 4, 3) := by decide +kernel
theorem d_Mo_works_442 : decode m_Mo_works.2.1 442 = .ok (.iconst 0, 1) := by decide +kernel
theorem d_Mo_works_443 : decode m_Mo_works.2.1 443 = .ok (.ireturn, 1) := by decide +kernel
theorem d_Mo_stays_0 : decode m_Mo_stays.2.1 0 = .ok (.aload_n 0, 1) := by decide +kernel
theorem d_Mo_stays_1 : decode m_Mo_stays.2.1 1 = .ok (.iconst 0, 1) := by decide +kernel
theorem d_Mo_stays_2 : decode m_Mo_stays.2.1 2 = .ok (.putfield 160, 3) := by decide +kernel
theorem d_Mo_stays_5 : decode m_Mo_stays.2.1 5 = .ok (.aload_n 0, 1) := by decide +kernel
theorem d_Mo_stays_6 : decode m_Mo_stays.2.1 6 = .ok (.iload_n 1, 1) := by decide +kernel
theorem d_Mo_stays_7 : decode m_Mo_stays.2.1 7 = .ok (.invokevirtual 317, 3) := by decide +kernel
theorem d_Mo_stays_10 : decode m_Mo_stays.2.1 10 = .ok (.ifCond .eq 41, 3) := by decide +kernel
theorem d_Mo_stays_13 : decode m_Mo_stays.2.1 13 = .ok (.aload_n 0, 1) := by decide +kernel
theorem d_Mo_stays_14 : decode m_Mo_stays.2.1 14 = .ok (.iload_n 2, 1) := by decide +kernel
theorem d_Mo_stays_15 : decode m_Mo_stays.2.1 15 = .ok (.invokevirtual 314, 3) := by decide +kernel
theorem d_Mo_stays_18 : decode m_Mo_stays.2.1 18 = .ok (.ifCond .eq 33, 3) := by decide +kernel
theorem d_Mo_stays_21 : decode m_Mo_stays.2.1 21 = .ok (.iload_n 3, 1) := by decide +kernel
theorem d_Mo_stays_22 : decode m_Mo_stays.2.1 22 = .ok (.invokestatic 363, 3) := by decide +kernel
theorem d_Mo_stays_25 : decode m_Mo_stays.2.1 25 = .ok (.ifCond .eq 26, 3) := by decide +kernel
theorem d_Mo_stays_28 : decode m_Mo_stays.2.1 28 = .ok (.iload 4, 2) := by decide +kernel
theorem d_Mo_stays_30 : decode m_Mo_stays.2.1 30 = .ok (.ifCond .lt 21, 3) := by decide +kernel
theorem d_Mo_stays_33 : decode m_Mo_stays.2.1 33 = .ok (.iload 4, 2) := by decide +kernel
theorem d_Mo_stays_35 : decode m_Mo_stays.2.1 35 = .ok (.bipush 9, 2) := by decide +kernel
theorem d_Mo_stays_37 : decode m_Mo_stays.2.1 37 = .ok (.if_icmp .gt 14, 3) := by decide +kernel
theorem d_Mo_stays_40 : decode m_Mo_stays.2.1 40 = .ok (.iload 5, 2) := by decide +kernel
theorem d_Mo_stays_42 : decode m_Mo_stays.2.1 42 = .ok (.ifCond .lt 9, 3) := by decide +kernel
theorem d_Mo_stays_45 : decode m_Mo_stays.2.1 45 = .ok (.iload 5, 2) := by decide +kernel
theorem d_Mo_stays_47 : decode m_Mo_stays.2.1 47 = .ok (.iconst 1, 1) := by decide +kernel
theorem d_Mo_stays_48 : decode m_Mo_stays.2.1 48 = .ok (.if_icmp .le 5, 3) := by decide +kernel
theorem d_Mo_stays_51 : decode m_Mo_stays.2.1 51 = .ok (.iconst (-1), 1) := by decide +kernel
theorem d_Mo_stays_52 : decode m_Mo_stays.2.1 52 = .ok (.ireturn, 1) := by decide +kernel
theorem d_Mo_stays_53 : decode m_Mo_stays.2.1 53 = .ok (.aload_n 0, 1) := by decide +kernel
theorem d_Mo_stays_54 : decode m_Mo_stays.2.1 54 = .ok (.invokevirtual 366, 3) := by decide +kernel
theorem d_Mo_stays_57 : decode m_Mo_stays.2.1 57 = .ok (.aload_n 0, 1) := by decide +kernel
theorem d_Mo_stays_58 : decode m_Mo_stays.2.1 58 = .ok (.iload_n 2, 1) := by decide +kernel
theorem d_Mo_stays_59 : decode m_Mo_stays.2.1 59 = .ok (.iload_n 3, 1) := by decide +kernel
theorem d_Mo_stays_60 : decode m_Mo_stays.2.1 60 = .ok (.iload 4, 2) := by decide +kernel
theorem d_Mo_stays_62 : decode m_Mo_stays.2.1 62 = .ok (.aload_n 0, 1) := by decide +kernel
theorem d_Mo_stays_63 : decode m_Mo_stays.2.1 63 = .ok (.getfield 38, 3) := by decide +kernel
theorem d_Mo_stays_66 : decode m_Mo_stays.2.1 66 = .ok (.iload_n 1, 1) := by decide +kernel
theorem d_Mo_stays_67 : decode m_Mo_stays.2.1 67 = .ok (.iaload, 1) := by decide +kernel
theorem d_Mo_stays_68 : decode m_Mo_stays.2.1 68 = .ok (.invokevirtual 353, 3) := by decide +kernel
theorem d_Mo_stays_71 : decode m_Mo_stays.2.1 71 = .ok (.iload 5, 2) := by decide +kernel
theorem d_Mo_stays_73 : decode m_Mo_stays.2.1 73 = .ok (.ifCond .ne 14, 3) := by decide +kernel
theorem d_Mo_stays_76 : decode m_Mo_stays.2.1 76 = .ok (.aload_n 0, 1) := by decide +kernel
theorem d_Mo_stays_77 : decode m_Mo_stays.2.1 77 = .ok (.iconst 1, 1) := by decide +kernel
theorem d_Mo_stays_78 : decode m_Mo_stays.2.1 78 = .ok (.bipush 60, 2) := by decide +kernel
theorem d_Mo_stays_80 : decode m_Mo_stays.2.1 80 = .ok (.iconst 2, 1) := by decide +kernel
theorem d_Mo_stays_81 : decode m_Mo_stays.2.1 81 = .ok (.invokevirtual 359, 3) := by decide +kernel
theorem d_Mo_stays_84 : decode m_Mo_stays.2.1 84 = .ok (.goto 15, 3) := by decide +kernel
theorem d_Mo_stays_87 : decode m_Mo_stays.2.1 87 = .ok (.aload_n 0, 1) := by decide +kernel
theorem d_Mo_stays_88 : decode m_Mo_stays.2.1 88 = .ok (.invokevirtual 373, 3) := by decide +kernel
theorem d_Mo_stays_91 : decode m_Mo_stays.2.1 91 = .ok (.ifCond .eq 7, 3) := by decide +kernel
theorem d_Mo_stays_94 : decode m_Mo_stays.2.1 94 = .ok (.iconst 1, 1) := by decide +kernel
theorem d_Mo_stays_95 : decode m_Mo_stays.2.1 95 = .ok (.goto 4, 3) := by decide +kernel
theorem d_Mo_stays_98 : decode m_Mo_stays.2.1 98 = .ok (.iconst 0, 1) := by decide +kernel
theorem d_Mo_stays_99 : decode m_Mo_stays.2.1 99 = .ok (.ireturn, 1) := by decide +kernel
theorem d_Mo_may_0 : decode m_Mo_may.2.1 0 = .ok (.aload_n 0, 1) := by decide +kernel
theorem d_Mo_may_1 : decode m_Mo_may.2.1 1 = .ok (.getfield 88, 3) := by decide +kernel
theorem d_Mo_may_4 : decode m_Mo_may.2.1 4 = .ok (.iconst 5, 1) := by decide +kernel
theorem d_Mo_may_5 : decode m_Mo_may.2.1 5 = .ok (.if_icmp .eq 30, 3) := by decide +kernel
theorem d_Mo_may_8 : decode m_Mo_may.2.1 8 = .ok (.aload_n 0, 1) := by decide +kernel
theorem d_Mo_may_9 : decode m_Mo_may.2.1 9 = .ok (.iconst 2, 1) := by decide +kernel
theorem d_Mo_may_10 : decode m_Mo_may.2.1 10 = .ok (.invokevirtual 340, 3) := by decide +kernel
theorem d_Mo_may_13 : decode m_Mo_may.2.1 13 = .ok (.ifCond .eq 22, 3) := by decide +kernel
theorem d_Mo_may_16 : decode m_Mo_may.2.1 16 = .ok (.aload_n 0, 1) := by decide +kernel
theorem d_Mo_may_17 : decode m_Mo_may.2.1 17 = .ok (.iconst 2, 1) := by decide +kernel
theorem d_Mo_may_18 : decode m_Mo_may.2.1 18 = .ok (.invokevirtual 343, 3) := by decide +kernel
theorem d_Mo_may_21 : decode m_Mo_may.2.1 21 = .ok (.ifCond .eq 18, 3) := by decide +kernel
theorem d_Mo_may_24 : decode m_Mo_may.2.1 24 = .ok (.aload_n 0, 1) := by decide +kernel
theorem d_Mo_may_25 : decode m_Mo_may.2.1 25 = .ok (.getfield 85, 3) := by decide +kernel
theorem d_Mo_may_28 : decode m_Mo_may.2.1 28 = .ok (.iconst 0, 1) := by decide +kernel
theorem d_Mo_may_29 : decode m_Mo_may.2.1 29 = .ok (.laload, 1) := by decide +kernel
theorem d_Mo_may_30 : decode m_Mo_may.2.1 30 = .ok (.lconst 0, 1) := by decide +kernel
theorem d_Mo_may_31 : decode m_Mo_may.2.1 31 = .ok (.lcmp, 1) := by decide +kernel
theorem d_Mo_may_32 : decode m_Mo_may.2.1 32 = .ok (.ifCond .le 7, 3) := by decide +kernel
theorem d_Mo_may_35 : decode m_Mo_may.2.1 35 = .ok (.iconst 1, 1) := by decide +kernel
theorem d_Mo_may_36 : decode m_Mo_may.2.1 36 = .ok (.goto 4, 3) := by decide +kernel
theorem d_Mo_may_39 : decode m_Mo_may.2.1 39 = .ok (.iconst 0, 1) := by decide +kernel
theorem d_Mo_may_40 : decode m_Mo_may.2.1 40 = .ok (.ireturn, 1) := by decide +kernel
theorem d_Mo_cat_0 : decode m_Mo_cat.2.1 0 = .ok (.aload_n 0, 1) := by decide +kernel
theorem d_Mo_cat_1 : decode m_Mo_cat.2.1 1 = .ok (.iconst 0, 1) := by decide +kernel
theorem d_Mo_cat_2 : decode m_Mo_cat.2.1 2 = .ok (.putfield 160, 3) := by decide +kernel
theorem d_Mo_cat_5 : decode m_Mo_cat.2.1 5 = .ok (.aload_n 0, 1) := by decide +kernel
theorem d_Mo_cat_6 : decode m_Mo_cat.2.1 6 = .ok (.iload_n 1, 1) := by decide +kernel
theorem d_Mo_cat_7 : decode m_Mo_cat.2.1 7 = .ok (.invokevirtual 314, 3) := by decide +kernel
theorem d_Mo_cat_10 : decode m_Mo_cat.2.1 10 = .ok (.ifCond .eq 19, 3) := by decide +kernel
theorem d_Mo_cat_13 : decode m_Mo_cat.2.1 13 = .ok (.iload_n 2, 1) := by decide +kernel
theorem d_Mo_cat_14 : decode m_Mo_cat.2.1 14 = .ok (.invokestatic 363, 3) := by decide +kernel
theorem d_Mo_cat_17 : decode m_Mo_cat.2.1 17 = .ok (.ifCond .eq 12, 3) := by decide +kernel
theorem d_Mo_cat_20 : decode m_Mo_cat.2.1 20 = .ok (.aload_n 0, 1) := by decide +kernel
theorem d_Mo_cat_21 : decode m_Mo_cat.2.1 21 = .ok (.iload_n 1, 1) := by decide +kernel
theorem d_Mo_cat_22 : decode m_Mo_cat.2.1 22 = .ok (.iload_n 2, 1) := by decide +kernel
theorem d_Mo_cat_23 : decode m_Mo_cat.2.1 23 = .ok (.invokevirtual 377, 3) := by decide +kernel
theorem d_Mo_cat_26 : decode m_Mo_cat.2.1 26 = .ok (.goto 4, 3) := by decide +kernel
theorem d_Mo_cat_29 : decode m_Mo_cat.2.1 29 = .ok (.iconst (-1), 1) := by decide +kernel
theorem d_Mo_cat_30 : decode m_Mo_cat.2.1 30 = .ok (.ireturn, 1) := by decide +kernel
theorem d_Mo_catOf_0 : decode m_Mo_catOf.2.1 0 = .ok (.aload_n 0, 1) := by decide +kernel
theorem d_Mo_catOf_1 : decode m_Mo_catOf.2.1 1 = .ok (.iload_n 1, 1) := by decide +kernel
theorem d_Mo_catOf_2 : decode m_Mo_catOf.2.1 2 = .ok (.iload_n 2, 1) := by decide +kernel
theorem d_Mo_catOf_3 : decode m_Mo_catOf.2.1 3 = .ok (.iconst 0, 1) := by decide +kernel
theorem d_Mo_catOf_4 : decode m_Mo_catOf.2.1 4 = .ok (.iconst 0, 1) := by decide +kernel
theorem d_Mo_catOf_5 : decode m_Mo_catOf.2.1 5 = .ok (.invokevirtual 353, 3) := by decide +kernel
theorem d_Mo_catOf_8 : decode m_Mo_catOf.2.1 8 = .ok (.aload_n 0, 1) := by decide +kernel
theorem d_Mo_catOf_9 : decode m_Mo_catOf.2.1 9 = .ok (.iconst 3, 1) := by decide +kernel
theorem d_Mo_catOf_10 : decode m_Mo_catOf.2.1 10 = .ok (.sipush 1000, 3) := by decide +kernel
theorem d_Mo_catOf_13 : decode m_Mo_catOf.2.1 13 = .ok (.iconst 0, 1) := by decide +kernel
theorem d_Mo_catOf_14 : decode m_Mo_catOf.2.1 14 = .ok (.invokevirtual 359, 3) := by decide +kernel
theorem d_Mo_catOf_17 : decode m_Mo_catOf.2.1 17 = .ok (.ireturn, 1) := by decide +kernel
theorem d_Mo_send_0 : decode m_Mo_send.2.1 0 = .ok (.aload_n 0, 1) := by decide +kernel
theorem d_Mo_send_1 : decode m_Mo_send.2.1 1 = .ok (.iconst 0, 1) := by decide +kernel
theorem d_Mo_send_2 : decode m_Mo_send.2.1 2 = .ok (.putfield 160, 3) := by decide +kernel
theorem d_Mo_send_5 : decode m_Mo_send.2.1 5 = .ok (.aload_n 0, 1) := by decide +kernel
theorem d_Mo_send_6 : decode m_Mo_send.2.1 6 = .ok (.iload_n 1, 1) := by decide +kernel
theorem d_Mo_send_7 : decode m_Mo_send.2.1 7 = .ok (.invokevirtual 317, 3) := by decide +kernel
theorem d_Mo_send_10 : decode m_Mo_send.2.1 10 = .ok (.ifCond .eq 22, 3) := by decide +kernel
theorem d_Mo_send_13 : decode m_Mo_send.2.1 13 = .ok (.aload_n 0, 1) := by decide +kernel
theorem d_Mo_send_14 : decode m_Mo_send.2.1 14 = .ok (.iload_n 2, 1) := by decide +kernel
theorem d_Mo_send_15 : decode m_Mo_send.2.1 15 = .ok (.invokevirtual 314, 3) := by decide +kernel
theorem d_Mo_send_18 : decode m_Mo_send.2.1 18 = .ok (.ifCond .eq 14, 3) := by decide +kernel
theorem d_Mo_send_21 : decode m_Mo_send.2.1 21 = .ok (.aload_n 0, 1) := by decide +kernel
theorem d_Mo_send_22 : decode m_Mo_send.2.1 22 = .ok (.getfield 60, 3) := by decide +kernel
theorem d_Mo_send_25 : decode m_Mo_send.2.1 25 = .ok (.iload_n 1, 1) := by decide +kernel
theorem d_Mo_send_26 : decode m_Mo_send.2.1 26 = .ok (.iaload, 1) := by decide +kernel
theorem d_Mo_send_27 : decode m_Mo_send.2.1 27 = .ok (.bipush 9, 2) := by decide +kernel
theorem d_Mo_send_29 : decode m_Mo_send.2.1 29 = .ok (.if_icmp .ne 5, 3) := by decide +kernel
theorem d_Mo_send_32 : decode m_Mo_send.2.1 32 = .ok (.iconst (-1), 1) := by decide +kernel
theorem d_Mo_send_33 : decode m_Mo_send.2.1 33 = .ok (.ireturn, 1) := by decide +kernel
theorem d_Mo_send_34 : decode m_Mo_send.2.1 34 = .ok (.aload_n 0, 1) := by decide +kernel
theorem d_Mo_send_35 : decode m_Mo_send.2.1 35 = .ok (.invokevirtual 425, 3) := by decide +kernel
theorem d_Mo_send_38 : decode m_Mo_send.2.1 38 = .ok (.aload_n 0, 1) := by decide +kernel
theorem d_Mo_send_39 : decode m_Mo_send.2.1 39 = .ok (.getfield 57, 3) := by decide +kernel
theorem d_Mo_send_42 : decode m_Mo_send.2.1 42 = .ok (.bipush 9, 2) := by decide +kernel
theorem d_Mo_send_44 : decode m_Mo_send.2.1 44 = .ok (.iload_n 1, 1) := by decide +kernel
theorem d_Mo_send_45 : decode m_Mo_send.2.1 45 = .ok (.imul, 1) := by decide +kernel
theorem d_Mo_send_46 : decode m_Mo_send.2.1 46 = .ok (.aload_n 0, 1) := by decide +kernel
theorem d_Mo_send_47 : decode m_Mo_send.2.1 47 = .ok (.getfield 60, 3) := by decide +kernel
theorem d_Mo_send_50 : decode m_Mo_send.2.1 50 = .ok (.iload_n 1, 1) := by decide +kernel
theorem d_Mo_send_51 : decode m_Mo_send.2.1 51 = .ok (.iaload, 1) := by decide +kernel
theorem d_Mo_send_52 : decode m_Mo_send.2.1 52 = .ok (.iadd, 1) := by decide +kernel
theorem d_Mo_send_53 : decode m_Mo_send.2.1 53 = .ok (.iload_n 2, 1) := by decide +kernel
theorem d_Mo_send_54 : decode m_Mo_send.2.1 54 = .ok (.iastore, 1) := by decide +kernel
theorem d_Mo_send_55 : decode m_Mo_send.2.1 55 = .ok (.aload_n 0, 1) := by decide +kernel
theorem d_Mo_send_56 : decode m_Mo_send.2.1 56 = .ok (.getfield 60, 3) := by decide +kernel
theorem d_Mo_send_59 : decode m_Mo_send.2.1 59 = .ok (.iload_n 1, 1) := by decide +kernel
theorem d_Mo_send_60 : decode m_Mo_send.2.1 60 = .ok (.dup2, 1) := by decide +kernel
theorem d_Mo_send_61 : decode m_Mo_send.2.1 61 = .ok (.iaload, 1) := by decide +kernel
theorem d_Mo_send_62 : decode m_Mo_send.2.1 62 = .ok (.iconst 1, 1) := by decide +kernel
theorem d_Mo_send_63 : decode m_Mo_send.2.1 63 = .ok (.iadd, 1) := by decide +kernel
theorem d_Mo_send_64 : decode m_Mo_send.2.1 64 = .ok (.iastore, 1) := by decide +kernel
theorem d_Mo_send_65 : decode m_Mo_send.2.1 65 = .ok (.aload_n 0, 1) := by decide +kernel
theorem d_Mo_send_66 : decode m_Mo_send.2.1 66 = .ok (.getfield 60, 3) := by decide +kernel
theorem d_Mo_send_69 : decode m_Mo_send.2.1 69 = .ok (.iload_n 1, 1) := by decide +kernel
theorem d_Mo_send_70 : decode m_Mo_send.2.1 70 = .ok (.iaload, 1) := by decide +kernel
theorem d_Mo_send_71 : decode m_Mo_send.2.1 71 = .ok (.ireturn, 1) := by decide +kernel
theorem d_Mo_keepNow_0 : decode m_Mo_keepNow.2.1 0 = .ok (.aload_n 0, 1) := by decide +kernel
theorem d_Mo_keepNow_1 : decode m_Mo_keepNow.2.1 1 = .ok (.getfield 311, 3) := by decide +kernel
theorem d_Mo_keepNow_4 : decode m_Mo_keepNow.2.1 4 = .ok (.bipush 20, 2) := by decide +kernel
theorem d_Mo_keepNow_6 : decode m_Mo_keepNow.2.1 6 = .ok (.if_icmp .ne 39, 3) := by decide +kernel
theorem d_Mo_keepNow_9 : decode m_Mo_keepNow.2.1 9 = .ok (.iconst 1, 1) := by decide +kernel
theorem d_Mo_keepNow_10 : decode m_Mo_keepNow.2.1 10 = .ok (.istore_n 1, 1) := by decide +kernel
theorem d_Mo_keepNow_11 : decode m_Mo_keepNow.2.1 11 = .ok (.iload_n 1, 1) := by decide +kernel
theorem d_Mo_keepNow_12 : decode m_Mo_keepNow.2.1 12 = .ok (.bipush 20, 2) := by decide +kernel
theorem d_Mo_keepNow_14 : decode m_Mo_keepNow.2.1 14 = .ok (.if_icmp .ge 21, 3) := by decide +kernel
theorem d_Mo_keepNow_17 : decode m_Mo_keepNow.2.1 17 = .ok (.aload_n 0, 1) := by decide +kernel
theorem d_Mo_keepNow_18 : decode m_Mo_keepNow.2.1 18 = .ok (.iconst 2, 1) := by decide +kernel
theorem d_Mo_keepNow_19 : decode m_Mo_keepNow.2.1 19 = .ok (.iload_n 1, 1) := by decide +kernel
theorem d_Mo_keepNow_20 : decode m_Mo_keepNow.2.1 20 = .ok (.iadd, 1) := by decide +kernel
theorem d_Mo_keepNow_21 : decode m_Mo_keepNow.2.1 21 = .ok (.iconst 1, 1) := by decide +kernel
theorem d_Mo_keepNow_22 : decode m_Mo_keepNow.2.1 22 = .ok (.isub, 1) := by decide +kernel
theorem d_Mo_keepNow_23 : decode m_Mo_keepNow.2.1 23 = .ok (.iconst 2, 1) := by decide +kernel
theorem d_Mo_keepNow_24 : decode m_Mo_keepNow.2.1 24 = .ok (.iload_n 1, 1) := by decide +kernel
theorem d_Mo_keepNow_25 : decode m_Mo_keepNow.2.1 25 = .ok (.iadd, 1) := by decide +kernel
theorem d_Mo_keepNow_26 : decode m_Mo_keepNow.2.1 26 = .ok (.invokevirtual 422, 3) := by decide +kernel
theorem d_Mo_keepNow_29 : decode m_Mo_keepNow.2.1 29 = .ok (.iinc 1 1, 3) := by decide +kernel
theorem d_Mo_keepNow_32 : decode m_Mo_keepNow.2.1 32 = .ok (.goto (-21), 3) := by decide +kernel
theorem d_Mo_keepNow_35 : decode m_Mo_keepNow.2.1 35 = .ok (.aload_n 0, 1) := by decide +kernel
theorem d_Mo_keepNow_36 : decode m_Mo_keepNow.2.1 36 = .ok (.dup, 1) := by decide +kernel
theorem d_Mo_keepNow_37 : decode m_Mo_keepNow.2.1 37 = .ok (.getfield 311, 3) := by decide +kernel
theorem d_Mo_keepNow_40 : decode m_Mo_keepNow.2.1 40 = .ok (.iconst 1, 1) := by decide +kernel
theorem d_Mo_keepNow_41 : decode m_Mo_keepNow.2.1 41 = .ok (.isub, 1) := by decide +kernel
theorem d_Mo_keepNow_42 : decode m_Mo_keepNow.2.1 42 = .ok (.putfield 311, 3) := by decide +kernel
theorem d_Mo_keepNow_45 : decode m_Mo_keepNow.2.1 45 = .ok (.aload_n 0, 1) := by decide +kernel
theorem d_Mo_keepNow_46 : decode m_Mo_keepNow.2.1 46 = .ok (.iconst 2, 1) := by decide +kernel
theorem d_Mo_keepNow_47 : decode m_Mo_keepNow.2.1 47 = .ok (.aload_n 0, 1) := by decide +kernel
theorem d_Mo_keepNow_48 : decode m_Mo_keepNow.2.1 48 = .ok (.getfield 311, 3) := by decide +kernel
theorem d_Mo_keepNow_51 : decode m_Mo_keepNow.2.1 51 = .ok (.iadd, 1) := by decide +kernel
theorem d_Mo_keepNow_52 : decode m_Mo_keepNow.2.1 52 = .ok (.iconst 0, 1) := by decide +kernel
theorem d_Mo_keepNow_53 : decode m_Mo_keepNow.2.1 53 = .ok (.invokevirtual 422, 3) := by decide +kernel
theorem d_Mo_keepNow_56 : decode m_Mo_keepNow.2.1 56 = .ok (.aload_n 0, 1) := by decide +kernel
theorem d_Mo_keepNow_57 : decode m_Mo_keepNow.2.1 57 = .ok (.dup, 1) := by decide +kernel
theorem d_Mo_keepNow_58 : decode m_Mo_keepNow.2.1 58 = .ok (.getfield 311, 3) := by decide +kernel
theorem d_Mo_keepNow_61 : decode m_Mo_keepNow.2.1 61 = .ok (.iconst 1, 1) := by decide +kernel
theorem d_Mo_keepNow_62 : decode m_Mo_keepNow.2.1 62 = .ok (.iadd, 1) := by decide +kernel
theorem d_Mo_keepNow_63 : decode m_Mo_keepNow.2.1 63 = .ok (.putfield 311, 3) := by decide +kernel
theorem d_Mo_keepNow_66 : decode m_Mo_keepNow.2.1 66 = .ok (.return_, 1) := by decide +kernel
theorem d_Mo_copies_0 : decode m_Mo_copies.2.1 0 = .ok (.iconst 0, 1) := by decide +kernel
theorem d_Mo_copies_1 : decode m_Mo_copies.2.1 1 = .ok (.istore_n 3, 1) := by decide +kernel
theorem d_Mo_copies_2 : decode m_Mo_copies.2.1 2 = .ok (.iload_n 3, 1) := by decide +kernel
theorem d_Mo_copies_3 : decode m_Mo_copies.2.1 3 = .ok (.bipush 27, 2) := by decide +kernel
theorem d_Mo_copies_5 : decode m_Mo_copies.2.1 5 = .ok (.if_icmp .ge 31, 3) := by decide +kernel
theorem d_Mo_copies_8 : decode m_Mo_copies.2.1 8 = .ok (.aload_n 0, 1) := by decide +kernel
theorem d_Mo_copies_9 : decode m_Mo_copies.2.1 9 = .ok (.getfield 57, 3) := by decide +kernel
theorem d_Mo_copies_12 : decode m_Mo_copies.2.1 12 = .ok (.bipush 27, 2) := by decide +kernel
theorem d_Mo_copies_14 : decode m_Mo_copies.2.1 14 = .ok (.iload_n 1, 1) := by decide +kernel
theorem d_Mo_copies_15 : decode m_Mo_copies.2.1 15 = .ok (.imul, 1) := by decide +kernel
theorem d_Mo_copies_16 : decode m_Mo_copies.2.1 16 = .ok (.iload_n 3, 1) := by decide +kernel
theorem d_Mo_copies_17 : decode m_Mo_copies.2.1 17 = .ok (.iadd, 1) := by decide +kernel
theorem d_Mo_copies_18 : decode m_Mo_copies.2.1 18 = .ok (.aload_n 0, 1) := by decide +kernel
theorem d_Mo_copies_19 : decode m_Mo_copies.2.1 19 = .ok (.getfield 57, 3) := by decide +kernel
theorem d_Mo_copies_22 : decode m_Mo_copies.2.1 22 = .ok (.bipush 27, 2) := by decide +kernel
theorem d_Mo_copies_24 : decode m_Mo_copies.2.1 24 = .ok (.iload_n 2, 1) := by decide +kernel
theorem d_Mo_copies_25 : decode m_Mo_copies.2.1 25 = .ok (.imul, 1) := by decide +kernel
theorem d_Mo_copies_26 : decode m_Mo_copies.2.1 26 = .ok (.iload_n 3, 1) := by decide +kernel
theorem d_Mo_copies_27 : decode m_Mo_copies.2.1 27 = .ok (.iadd, 1) := by decide +kernel
theorem d_Mo_copies_28 : decode m_Mo_copies.2.1 28 = .ok (.iaload, 1) := by decide +kernel
theorem d_Mo_copies_29 : decode m_Mo_copies.2.1 29 = .ok (.iastore, 1) := by decide +kernel
theorem d_Mo_copies_30 : decode m_Mo_copies.2.1 30 = .ok (.iinc 3 1, 3) := by decide +kernel
theorem d_Mo_copies_33 : decode m_Mo_copies.2.1 33 = .ok (.goto (-31), 3) := by decide +kernel
theorem d_Mo_copies_36 : decode m_Mo_copies.2.1 36 = .ok (.iconst 0, 1) := by decide +kernel
theorem d_Mo_copies_37 : decode m_Mo_copies.2.1 37 = .ok (.istore_n 3, 1) := by decide +kernel
theorem d_Mo_copies_38 : decode m_Mo_copies.2.1 38 = .ok (.iload_n 3, 1) := by decide +kernel
theorem d_Mo_copies_39 : decode m_Mo_copies.2.1 39 = .ok (.iconst 3, 1) := by decide +kernel
theorem d_Mo_copies_40 : decode m_Mo_copies.2.1 40 = .ok (.if_icmp .ge 29, 3) := by decide +kernel
theorem d_Mo_copies_43 : decode m_Mo_copies.2.1 43 = .ok (.aload_n 0, 1) := by decide +kernel
theorem d_Mo_copies_44 : decode m_Mo_copies.2.1 44 = .ok (.getfield 60, 3) := by decide +kernel
theorem d_Mo_copies_47 : decode m_Mo_copies.2.1 47 = .ok (.iconst 3, 1) := by decide +kernel
theorem d_Mo_copies_48 : decode m_Mo_copies.2.1 48 = .ok (.iload_n 1, 1) := by decide +kernel
theorem d_Mo_copies_49 : decode m_Mo_copies.2.1 49 = .ok (.imul, 1) := by decide +kernel
theorem d_Mo_copies_50 : decode m_Mo_copies.2.1 50 = .ok (.iload_n 3, 1) := by decide +kernel
theorem d_Mo_copies_51 : decode m_Mo_copies.2.1 51 = .ok (.iadd, 1) := by decide +kernel
theorem d_Mo_copies_52 : decode m_Mo_copies.2.1 52 = .ok (.aload_n 0, 1) := by decide +kernel
theorem d_Mo_copies_53 : decode m_Mo_copies.2.1 53 = .ok (.getfield 60, 3) := by decide +kernel
theorem d_Mo_copies_56 : decode m_Mo_copies.2.1 56 = .ok (.iconst 3, 1) := by decide +kernel
theorem d_Mo_copies_57 : decode m_Mo_copies.2.1 57 = .ok (.iload_n 2, 1) := by decide +kernel
theorem d_Mo_copies_58 : decode m_Mo_copies.2.1 58 = .ok (.imul, 1) := by decide +kernel
theorem d_Mo_copies_59 : decode m_Mo_copies.2.1 59 = .ok (.iload_n 3, 1) := by decide +kernel
theorem d_Mo_copies_60 : decode m_Mo_copies.2.1 60 = .ok (.iadd, 1) := by decide +kernel
theorem d_Mo_copies_61 : decode m_Mo_copies.2.1 61 = .ok (.iaload, 1) := by decide +kernel
theorem d_Mo_copies_62 : decode m_Mo_copies.2.1 62 = .ok (.iastore, 1) := by decide +kernel
theorem d_Mo_copies_63 : decode m_Mo_copies.2.1 63 = .ok (.iinc 3 1, 3) := by decide +kernel
theorem d_Mo_copies_66 : decode m_Mo_copies.2.1 66 = .ok (.goto (-28), 3) := by decide +kernel
theorem d_Mo_copies_69 : decode m_Mo_copies.2.1 69 = .ok (.aload_n 0, 1) := by decide +kernel
theorem d_Mo_copies_70 : decode m_Mo_copies.2.1 70 = .ok (.getfield 63, 3) := by decide +kernel
theorem d_Mo_copies_73 : decode m_Mo_copies.2.1 73 = .ok (.iload_n 1, 1) := by decide +kernel
theorem d_Mo_copies_74 : decode m_Mo_copies.2.1 74 = .ok (.aload_n 0, 1) := by decide +kernel
theorem d_Mo_copies_75 : decode m_Mo_copies.2.1 75 = .ok (.getfield 63, 3) := by decide +kernel
theorem d_Mo_copies_78 : decode m_Mo_copies.2.1 78 = .ok (.iload_n 2, 1) := by decide +kernel
theorem d_Mo_copies_79 : decode m_Mo_copies.2.1 79 = .ok (.iaload, 1) := by decide +kernel
theorem d_Mo_copies_80 : decode m_Mo_copies.2.1 80 = .ok (.iastore, 1) := by decide +kernel
theorem d_Mo_copies_81 : decode m_Mo_copies.2.1 81 = .ok (.aload_n 0, 1) := by decide +kernel
theorem d_Mo_copies_82 : decode m_Mo_copies.2.1 82 = .ok (.getfield 66, 3) := by decide +kernel
theorem d_Mo_copies_85 : decode m_Mo_copies.2.1 85 = .ok (.iload_n 1, 1) := by decide +kernel
theorem d_Mo_copies_86 : decode m_Mo_copies.2.1 86 = .ok (.aload_n 0, 1) := by decide +kernel
theorem d_Mo_copies_87 : decode m_Mo_copies.2.1 87 = .ok (.getfield 66, 3) := by decide +kernel
theorem d_Mo_copies_90 : decode m_Mo_copies.2.1 90 = .ok (.iload_n 2, 1) := by decide +kernel
theorem d_Mo_copies_91 : decode m_Mo_copies.2.1 91 = .ok (.iaload, 1) := by decide +kernel
theorem d_Mo_copies_92 : decode m_Mo_copies.2.1 92 = .ok (.iastore, 1) := by decide +kernel
theorem d_Mo_copies_93 : decode m_Mo_copies.2.1 93 = .ok (.return_, 1) := by decide +kernel
theorem d_Mo_drop_0 : decode m_Mo_drop.2.1 0 = .ok (.aload_n 0, 1) := by decide +kernel
theorem d_Mo_drop_1 : decode m_Mo_drop.2.1 1 = .ok (.iconst 0, 1) := by decide +kernel
theorem d_Mo_drop_2 : decode m_Mo_drop.2.1 2 = .ok (.putfield 160, 3) := by decide +kernel
theorem d_Mo_drop_5 : decode m_Mo_drop.2.1 5 = .ok (.aload_n 0, 1) := by decide +kernel
theorem d_Mo_drop_6 : decode m_Mo_drop.2.1 6 = .ok (.iload_n 1, 1) := by decide +kernel
theorem d_Mo_drop_7 : decode m_Mo_drop.2.1 7 = .ok (.invokevirtual 317, 3) := by decide +kernel
theorem d_Mo_drop_10 : decode m_Mo_drop.2.1 10 = .ok (.ifCond .eq 12, 3) := by decide +kernel
theorem d_Mo_drop_13 : decode m_Mo_drop.2.1 13 = .ok (.aload_n 0, 1) := by decide +kernel
theorem d_Mo_drop_14 : decode m_Mo_drop.2.1 14 = .ok (.getfield 60, 3) := by decide +kernel
theorem d_Mo_drop_17 : decode m_Mo_drop.2.1 17 = .ok (.iload_n 1, 1) := by decide +kernel
theorem d_Mo_drop_18 : decode m_Mo_drop.2.1 18 = .ok (.iaload, 1) := by decide +kernel
theorem d_Mo_drop_19 : decode m_Mo_drop.2.1 19 = .ok (.ifCond .ne 5, 3) := by decide +kernel
theorem d_Mo_drop_22 : decode m_Mo_drop.2.1 22 = .ok (.iconst (-1), 1) := by decide +kernel
theorem d_Mo_drop_23 : decode m_Mo_drop.2.1 23 = .ok (.ireturn, 1) := by decide +kernel
theorem d_Mo_drop_24 : decode m_Mo_drop.2.1 24 = .ok (.aload_n 0, 1) := by decide +kernel
theorem d_Mo_drop_25 : decode m_Mo_drop.2.1 25 = .ok (.invokevirtual 425, 3) := by decide +kernel
theorem d_Mo_drop_28 : decode m_Mo_drop.2.1 28 = .ok (.aload_n 0, 1) := by decide +kernel
theorem d_Mo_drop_29 : decode m_Mo_drop.2.1 29 = .ok (.getfield 60, 3) := by decide +kernel
theorem d_Mo_drop_32 : decode m_Mo_drop.2.1 32 = .ok (.iload_n 1, 1) := by decide +kernel
theorem d_Mo_drop_33 : decode m_Mo_drop.2.1 33 = .ok (.dup2, 1) := by decide +kernel
theorem d_Mo_drop_34 : decode m_Mo_drop.2.1 34 = .ok (.iaload, 1) := by decide +kernel
theorem d_Mo_drop_35 : decode m_Mo_drop.2.1 35 = .ok (.iconst 1, 1) := by decide +kernel
theorem d_Mo_drop_36 : decode m_Mo_drop.2.1 36 = .ok (.isub, 1) := by decide +kernel
theorem d_Mo_drop_37 : decode m_Mo_drop.2.1 37 = .ok (.iastore, 1) := by decide +kernel
theorem d_Mo_drop_38 : decode m_Mo_drop.2.1 38 = .ok (.aload_n 0, 1) := by decide +kernel
theorem d_Mo_drop_39 : decode m_Mo_drop.2.1 39 = .ok (.getfield 57, 3) := by decide +kernel
theorem d_Mo_drop_42 : decode m_Mo_drop.2.1 42 = .ok (.bipush 9, 2) := by decide +kernel
theorem d_Mo_drop_44 : decode m_Mo_drop.2.1 44 = .ok (.iload_n 1, 1) := by decide +kernel
theorem d_Mo_drop_45 : decode m_Mo_drop.2.1 45 = .ok (.imul, 1) := by decide +kernel
theorem d_Mo_drop_46 : decode m_Mo_drop.2.1 46 = .ok (.aload_n 0, 1) := by decide +kernel
theorem d_Mo_drop_47 : decode m_Mo_drop.2.1 47 = .ok (.getfield 60, 3) := by decide +kernel
theorem d_Mo_drop_50 : decode m_Mo_drop.2.1 50 = .ok (.iload_n 1, 1) := by decide +kernel
theorem d_Mo_drop_51 : decode m_Mo_drop.2.1 51 = .ok (.iaload, 1) := by decide +kernel
theorem d_Mo_drop_52 : decode m_Mo_drop.2.1 52 = .ok (.iadd, 1) := by decide +kernel
theorem d_Mo_drop_53 : decode m_Mo_drop.2.1 53 = .ok (.iaload, 1) := by decide +kernel
theorem d_Mo_drop_54 : decode m_Mo_drop.2.1 54 = .ok (.ireturn, 1) := by decide +kernel
theorem d_Mo_glass_0 : decode m_Mo_glass.2.1 0 = .ok (.aload_n 0, 1) := by decide +kernel
theorem d_Mo_glass_1 : decode m_Mo_glass.2.1 1 = .ok (.iconst 0, 1) := by decide +kernel
theorem d_Mo_glass_2 : decode m_Mo_glass.2.1 2 = .ok (.putfield 160, 3) := by decide +kernel
theorem d_Mo_glass_5 : decode m_Mo_glass.2.1 5 = .ok (.aload_n 0, 1) := by decide +kernel
theorem d_Mo_glass_6 : decode m_Mo_glass.2.1 6 = .ok (.iload_n 1, 1) := by decide +kernel
theorem d_Mo_glass_7 : decode m_Mo_glass.2.1 7 = .ok (.invokevirtual 314, 3) := by decide +kernel
theorem d_Mo_glass_10 : decode m_Mo_glass.2.1 10 = .ok (.ifCond .eq 26, 3) := by decide +kernel
theorem d_Mo_glass_13 : decode m_Mo_glass.2.1 13 = .ok (.aload_n 0, 1) := by decide +kernel
theorem d_Mo_glass_14 : decode m_Mo_glass.2.1 14 = .ok (.getfield 63, 3) := by decide +kernel
theorem d_Mo_glass_17 : decode m_Mo_glass.2.1 17 = .ok (.iconst 0, 1) := by decide +kernel
theorem d_Mo_glass_18 : decode m_Mo_glass.2.1 18 = .ok (.iaload, 1) := by decide +kernel
theorem d_Mo_glass_19 : decode m_Mo_glass.2.1 19 = .ok (.iload_n 1, 1) := by decide +kernel
theorem d_Mo_glass_20 : decode m_Mo_glass.2.1 20 = .ok (.ishr, 1) := by decide +kernel
theorem d_Mo_glass_21 : decode m_Mo_glass.2.1 21 = .ok (.iconst 1, 1) := by decide +kernel
theorem d_Mo_glass_22 : decode m_Mo_glass.2.1 22 = .ok (.iand, 1) := by decide +kernel
theorem d_Mo_glass_23 : decode m_Mo_glass.2.1 23 = .ok (.iconst 1, 1) := by decide +kernel
theorem d_Mo_glass_24 : decode m_Mo_glass.2.1 24 = .ok (.if_icmp .ne 7, 3) := by decide +kernel
theorem d_Mo_glass_27 : decode m_Mo_glass.2.1 27 = .ok (.iconst 1, 1) := by decide +kernel
theorem d_Mo_glass_28 : decode m_Mo_glass.2.1 28 = .ok (.goto 4, 3) := by decide +kernel
theorem d_Mo_glass_31 : decode m_Mo_glass.2.1 31 = .ok (.iconst 0, 1) := by decide +kernel
theorem d_Mo_glass_32 : decode m_Mo_glass.2.1 32 = .ok (.iload_n 2, 1) := by decide +kernel
theorem d_Mo_glass_33 : decode m_Mo_glass.2.1 33 = .ok (.if_icmp .ne 5, 3) := by decide +kernel
theorem d_Mo_glass_36 : decode m_Mo_glass.2.1 36 = .ok (.iconst 0, 1) := by decide +kernel
theorem d_Mo_glass_37 : decode m_Mo_glass.2.1 37 = .ok (.ireturn, 1) := by decide +kernel
theorem d_Mo_glass_38 : decode m_Mo_glass.2.1 38 = .ok (.aload_n 0, 1) := by decide +kernel
theorem d_Mo_glass_39 : decode m_Mo_glass.2.1 39 = .ok (.invokevirtual 425, 3) := by decide +kernel
theorem d_Mo_glass_42 : decode m_Mo_glass.2.1 42 = .ok (.aload_n 0, 1) := by decide +kernel
theorem d_Mo_glass_43 : decode m_Mo_glass.2.1 43 = .ok (.getfield 63, 3) := by decide +kernel
theorem d_Mo_glass_46 : decode m_Mo_glass.2.1 46 = .ok (.iconst 0, 1) := by decide +kernel
theorem d_Mo_glass_47 : decode m_Mo_glass.2.1 47 = .ok (.dup2, 1) := by decide +kernel
theorem d_Mo_glass_48 : decode m_Mo_glass.2.1 48 = .ok (.iaload, 1) := by decide +kernel
theorem d_Mo_glass_49 : decode m_Mo_glass.2.1 49 = .ok (.iconst 1, 1) := by decide +kernel
theorem d_Mo_glass_50 : decode m_Mo_glass.2.1 50 = .ok (.iload_n 1, 1) := by decide +kernel
theorem d_Mo_glass_51 : decode m_Mo_glass.2.1 51 = .ok (.ishl, 1) := by decide +kernel
theorem d_Mo_glass_52 : decode m_Mo_glass.2.1 52 = .ok (.ixor, 1) := by decide +kernel
theorem d_Mo_glass_53 : decode m_Mo_glass.2.1 53 = .ok (.iastore, 1) := by decide +kernel
theorem d_Mo_glass_54 : decode m_Mo_glass.2.1 54 = .ok (.iconst 1, 1) := by decide +kernel
theorem d_Mo_glass_55 : decode m_Mo_glass.2.1 55 = .ok (.ireturn, 1) := by decide +kernel
theorem d_Mo_out_0 : decode m_Mo_out.2.1 0 = .ok (.aload_n 0, 1) := by decide +kernel
theorem d_Mo_out_1 : decode m_Mo_out.2.1 1 = .ok (.iconst 0, 1) := by decide +kernel
theorem d_Mo_out_2 : decode m_Mo_out.2.1 2 = .ok (.putfield 160, 3) := by decide +kernel
theorem d_Mo_out_5 : decode m_Mo_out.2.1 5 = .ok (.aload_n 0, 1) := by decide +kernel
theorem d_Mo_out_6 : decode m_Mo_out.2.1 6 = .ok (.iload_n 1, 1) := by decide +kernel
theorem d_Mo_out_7 : decode m_Mo_out.2.1 7 = .ok (.invokevirtual 314, 3) := by decide +kernel
theorem d_Mo_out_10 : decode m_Mo_out.2.1 10 = .ok (.ifCond .eq 35, 3) := by decide +kernel
theorem d_Mo_out_13 : decode m_Mo_out.2.1 13 = .ok (.aload_n 0, 1) := by decide +kernel
theorem d_Mo_out_14 : decode m_Mo_out.2.1 14 = .ok (.getfield 28, 3) := by decide +kernel
theorem d_Mo_out_17 : decode m_Mo_out.2.1 17 = .ok (.iload_n 1, 1) := by decide +kernel
theorem d_Mo_out_18 : decode m_Mo_out.2.1 18 = .ok (.baload, 1) := by decide +kernel
theorem d_Mo_out_19 : decode m_Mo_out.2.1 19 = .ok (.ifCond .eq 26, 3) := by decide +kernel
theorem d_Mo_out_22 : decode m_Mo_out.2.1 22 = .ok (.aload_n 0, 1) := by decide +kernel
theorem d_Mo_out_23 : decode m_Mo_out.2.1 23 = .ok (.getfield 66, 3) := by decide +kernel
theorem d_Mo_out_26 : decode m_Mo_out.2.1 26 = .ok (.iconst 0, 1) := by decide +kernel
theorem d_Mo_out_27 : decode m_Mo_out.2.1 27 = .ok (.iaload, 1) := by decide +kernel
theorem d_Mo_out_28 : decode m_Mo_out.2.1 28 = .ok (.iload_n 1, 1) := by decide +kernel
theorem d_Mo_out_29 : decode m_Mo_out.2.1 29 = .ok (.ishr, 1) := by decide +kernel
theorem d_Mo_out_30 : decode m_Mo_out.2.1 30 = .ok (.iconst 1, 1) := by decide +kernel
theorem d_Mo_out_31 : decode m_Mo_out.2.1 31 = .ok (.iand, 1) := by decide +kernel
theorem d_Mo_out_32 : decode m_Mo_out.2.1 32 = .ok (.iconst 1, 1) := by decide +kernel
theorem d_Mo_out_33 : decode m_Mo_out.2.1 33 = .ok (.if_icmp .ne 7, 3) := by decide +kernel
theorem d_Mo_out_36 : decode m_Mo_out.2.1 36 = .ok (.iconst 1, 1) := by decide +kernel
theorem d_Mo_out_37 : decode m_Mo_out.2.1 37 = .ok (.goto 4, 3) := by decide +kernel
theorem d_Mo_out_40 : decode m_Mo_out.2.1 40 = .ok (.iconst 0, 1) := by decide +kernel
theorem d_Mo_out_41 : decode m_Mo_out.2.1 41 = .ok (.iload_n 2, 1) := by decide +kernel
theorem d_Mo_out_42 : decode m_Mo_out.2.1 42 = .ok (.if_icmp .ne 5, 3) := by decide +kernel
theorem d_Mo_out_45 : decode m_Mo_out.2.1 45 = .ok (.iconst 0, 1) := by decide +kernel
theorem d_Mo_out_46 : decode m_Mo_out.2.1 46 = .ok (.ireturn, 1) := by decide +kernel
theorem d_Mo_out_47 : decode m_Mo_out.2.1 47 = .ok (.aload_n 0, 1) := by decide +kernel
theorem d_Mo_out_48 : decode m_Mo_out.2.1 48 = .ok (.invokevirtual 425, 3) := by decide +kernel
theorem d_Mo_out_51 : decode m_Mo_out.2.1 51 = .ok (.aload_n 0, 1) := by decide +kernel
theorem d_Mo_out_52 : decode m_Mo_out.2.1 52 = .ok (.getfield 66, 3) := by decide +kernel
theorem d_Mo_out_55 : decode m_Mo_out.2.1 55 = .ok (.iconst 0, 1) := by decide +kernel
theorem d_Mo_out_56 : decode m_Mo_out.2.1 56 = .ok (.dup2, 1) := by decide +kernel
theorem d_Mo_out_57 : decode m_Mo_out.2.1 57 = .ok (.iaload, 1) := by decide +kernel
theorem d_Mo_out_58 : decode m_Mo_out.2.1 58 = .ok (.iconst 1, 1) := by decide +kernel
theorem d_Mo_out_59 : decode m_Mo_out.2.1 59 = .ok (.iload_n 1, 1) := by decide +kernel
theorem d_Mo_out_60 : decode m_Mo_out.2.1 60 = .ok (.ishl, 1) := by decide +kernel
theorem d_Mo_out_61 : decode m_Mo_out.2.1 61 = .ok (.ixor, 1) := by decide +kernel
theorem d_Mo_out_62 : decode m_Mo_out.2.1 62 = .ok (.iastore, 1) := by decide +kernel
theorem d_Mo_out_63 : decode m_Mo_out.2.1 63 = .ok (.iconst 1, 1) := by decide +kernel
theorem d_Mo_out_64 : decode m_Mo_out.2.1 64 = .ok (.ireturn, 1) := by decide +kernel
theorem d_Mo_done_0 : decode m_Mo_done.2.1 0 = .ok (.aload_n 0, 1) := by decide +kernel
theorem d_Mo_done_1 : decode m_Mo_done.2.1 1 = .ok (.iconst 0, 1) := by decide +kernel
theorem d_Mo_done_2 : decode m_Mo_done.2.1 2 = .ok (.putfield 160, 3) := by decide +kernel
theorem d_Mo_done_5 : decode m_Mo_done.2.1 5 = .ok (.aload_n 0, 1) := by decide +kernel
theorem d_Mo_done_6 : decode m_Mo_done.2.1 6 = .ok (.iload_n 1, 1) := by decide +kernel
theorem d_Mo_done_7 : decode m_Mo_done.2.1 7 = .ok (.invokevirtual 314, 3) := by decide +kernel
theorem d_Mo_done_10 : decode m_Mo_done.2.1 10 = .ok (.ifCond .eq 12, 3) := by decide +kernel
theorem d_Mo_done_13 : decode m_Mo_done.2.1 13 = .ok (.iload_n 2, 1) := by decide +kernel
theorem d_Mo_done_14 : decode m_Mo_done.2.1 14 = .ok (.ifCond .lt 8, 3) := by decide +kernel
theorem d_Mo_done_17 : decode m_Mo_done.2.1 17 = .ok (.iload_n 2, 1) := by decide +kernel
theorem d_Mo_done_18 : decode m_Mo_done.2.1 18 = .ok (.iconst 1, 1) := by decide +kernel
theorem d_Mo_done_19 : decode m_Mo_done.2.1 19 = .ok (.if_icmp .le 5, 3) := by decide +kernel
theorem d_Mo_done_22 : decode m_Mo_done.2.1 22 = .ok (.iconst (-1), 1) := by decide +kernel
theorem d_Mo_done_23 : decode m_Mo_done.2.1 23 = .ok (.ireturn, 1) := by decide +kernel
theorem d_Mo_done_24 : decode m_Mo_done.2.1 24 = .ok (.aload_n 0, 1) := by decide +kernel
theorem d_Mo_done_25 : decode m_Mo_done.2.1 25 = .ok (.invokevirtual 406, 3) := by decide +kernel
theorem d_Mo_done_28 : decode m_Mo_done.2.1 28 = .ok (.aload_n 0, 1) := by decide +kernel
theorem d_Mo_done_29 : decode m_Mo_done.2.1 29 = .ok (.sipush 240, 3) := by decide +kernel
theorem d_Mo_done_32 : decode m_Mo_done.2.1 32 = .ok (.invokevirtual 409, 3) := by decide +kernel
theorem d_Mo_done_35 : decode m_Mo_done.2.1 35 = .ok (.iload_n 2, 1) := by decide +kernel
theorem d_Mo_done_36 : decode m_Mo_done.2.1 36 = .ok (.ifCond .ne 12, 3) := by decide +kernel
theorem d_Mo_done_39 : decode m_Mo_done.2.1 39 = .ok (.aload_n 0, 1) := by decide +kernel
theorem d_Mo_done_40 : decode m_Mo_done.2.1 40 = .ok (.getfield 127, 3) := by decide +kernel
theorem d_Mo_done_43 : decode m_Mo_done.2.1 43 = .ok (.iload_n 1, 1) := by decide +kernel
theorem d_Mo_done_44 : decode m_Mo_done.2.1 44 = .ok (.iaload, 1) := by decide +kernel
theorem d_Mo_done_45 : decode m_Mo_done.2.1 45 = .ok (.goto 9, 3) := by decide +kernel
theorem d_Mo_done_48 : decode m_Mo_done.2.1 48 = .ok (.aload_n 0, 1) := by decide +kernel
theorem d_Mo_done_49 : decode m_Mo_done.2.1 49 = .ok (.getfield 130, 3) := by decide +kernel
theorem d_Mo_done_52 : decode m_Mo_done.2.1 52 = .ok (.iload_n 1, 1) := by decide +kernel
theorem d_Mo_done_53 : decode m_Mo_done.2.1 53 = .ok (.iaload, 1) := by decide +kernel
theorem d_Mo_done_54 : decode m_Mo_done.2.1 54 = .ok (.ireturn, 1) := by decide +kernel
theorem d_Mo_asIs_0 : decode m_Mo_asIs.2.1 0 = .ok (.aload_n 0, 1) := by decide +kernel
theorem d_Mo_asIs_1 : decode m_Mo_asIs.2.1 1 = .ok (.invokevirtual 366, 3) := by decide +kernel
theorem d_Mo_asIs_4 : decode m_Mo_asIs.2.1 4 = .ok (.aload_n 0, 1) := by decide +kernel
theorem d_Mo_asIs_5 : decode m_Mo_asIs.2.1 5 = .ok (.aload_n 0, 1) := by decide +kernel
theorem d_Mo_asIs_6 : decode m_Mo_asIs.2.1 6 = .ok (.getfield 63, 3) := by decide +kernel
theorem d_Mo_asIs_9 : decode m_Mo_asIs.2.1 9 = .ok (.iconst 0, 1) := by decide +kernel
theorem d_Mo_asIs_10 : decode m_Mo_asIs.2.1 10 = .ok (.iaload, 1) := by decide +kernel
theorem d_Mo_asIs_11 : decode m_Mo_asIs.2.1 11 = .ok (.putfield 380, 3) := by decide +kernel
theorem d_Mo_asIs_14 : decode m_Mo_asIs.2.1 14 = .ok (.iconst 0, 1) := by decide +kernel
theorem d_Mo_asIs_15 : decode m_Mo_asIs.2.1 15 = .ok (.istore_n 1, 1) := by decide +kernel
theorem d_Mo_asIs_16 : decode m_Mo_asIs.2.1 16 = .ok (.iload_n 1, 1) := by decide +kernel
theorem d_Mo_asIs_17 : decode m_Mo_asIs.2.1 17 = .ok (.iconst 3, 1) := by decide +kernel
theorem d_Mo_asIs_18 : decode m_Mo_asIs.2.1 18 = .ok (.if_icmp .ge 57, 3) := by decide +kernel
theorem d_Mo_asIs_21 : decode m_Mo_asIs.2.1 21 = .ok (.aload_n 0, 1) := by decide +kernel
theorem d_Mo_asIs_22 : decode m_Mo_asIs.2.1 22 = .ok (.getfield 100, 3) := by decide +kernel
theorem d_Mo_asIs_25 : decode m_Mo_asIs.2.1 25 = .ok (.iload_n 1, 1) := by decide +kernel
theorem d_Mo_asIs_26 : decode m_Mo_asIs.2.1 26 = .ok (.aload_n 0, 1) := by decide +kernel
theorem d_Mo_asIs_27 : decode m_Mo_asIs.2.1 27 = .ok (.getfield 60, 3) := by decide +kernel
theorem d_Mo_asIs_30 : decode m_Mo_asIs.2.1 30 = .ok (.iload_n 1, 1) := by decide +kernel
theorem d_Mo_asIs_31 : decode m_Mo_asIs.2.1 31 = .ok (.iaload, 1) := by decide +kernel
theorem d_Mo_asIs_32 : decode m_Mo_asIs.2.1 32 = .ok (.iastore, 1) := by decide +kernel
theorem d_Mo_asIs_33 : decode m_Mo_asIs.2.1 33 = .ok (.iconst 0, 1) := by decide +kernel
theorem d_Mo_asIs_34 : decode m_Mo_asIs.2.1 34 = .ok (.istore_n 2, 1) := by decide +kernel
theorem d_Mo_asIs_35 : decode m_Mo_asIs.2.1 35 = .ok (.iload_n 2, 1) := by decide +kernel
theorem d_Mo_asIs_36 : decode m_Mo_asIs.2.1 36 = .ok (.bipush 9, 2) := by decide +kernel
theorem d_Mo_asIs_38 : decode m_Mo_asIs.2.1 38 = .ok (.if_icmp .ge 31, 3) := by decide +kernel
theorem d_Mo_asIs_41 : decode m_Mo_asIs.2.1 41 = .ok (.aload_n 0, 1) := by decide +kernel
theorem d_Mo_asIs_42 : decode m_Mo_asIs.2.1 42 = .ok (.getfield 97, 3) := by decide +kernel
theorem d_Mo_asIs_45 : decode m_Mo_asIs.2.1 45 = .ok (.bipush 9, 2) := by decide +kernel
theorem d_Mo_asIs_47 : decode m_Mo_asIs.2.1 47 = .ok (.iload_n 1, 1) := by decide +kernel
theorem d_Mo_asIs_48 : decode m_Mo_asIs.2.1 48 = .ok (.imul, 1) := by decide +kernel
theorem d_Mo_asIs_49 : decode m_Mo_asIs.2.1 49 = .ok (.iload_n 2, 1) := by decide +kernel
theorem d_Mo_asIs_50 : decode m_Mo_asIs.2.1 50 = .ok (.iadd, 1) := by decide +kernel
theorem d_Mo_asIs_51 : decode m_Mo_asIs.2.1 51 = .ok (.aload_n 0, 1) := by decide +kernel
theorem d_Mo_asIs_52 : decode m_Mo_asIs.2.1 52 = .ok (.getfield 57, 3) := by decide +kernel
theorem d_Mo_asIs_55 : decode m_Mo_asIs.2.1 55 = .ok (.bipush 9, 2) := by decide +kernel
theorem d_Mo_asIs_57 : decode m_Mo_asIs.2.1 57 = .ok (.iload_n 1, 1) := by decide +kernel
theorem d_Mo_asIs_58 : decode m_Mo_asIs.2.1 58 = .ok (.imul, 1) := by decide +kernel
theorem d_Mo_asIs_59 : decode m_Mo_asIs.2.1 59 = .ok (.iload_n 2, 1) := by decide +kernel
theorem d_Mo_asIs_60 : decode m_Mo_asIs.2.1 60 = .ok (.iadd, 1) := by decide +kernel
theorem d_Mo_asIs_61 : decode m_Mo_asIs.2.1 61 = .ok (.iaload, 1) := by decide +kernel
theorem d_Mo_asIs_62 : decode m_Mo_asIs.2.1 62 = .ok (.iastore, 1) := by decide +kernel
theorem d_Mo_asIs_63 : decode m_Mo_asIs.2.1 63 = .ok (.iinc 2 1, 3) := by decide +kernel
theorem d_Mo_asIs_66 : decode m_Mo_asIs.2.1 66 = .ok (.goto (-31), 3) := by decide +kernel
theorem d_Mo_asIs_69 : decode m_Mo_asIs.2.1 69 = .ok (.iinc 1 1, 3) := by decide +kernel
theorem d_Mo_asIs_72 : decode m_Mo_asIs.2.1 72 = .ok (.goto (-56), 3) := by decide +kernel
theorem d_Mo_asIs_75 : decode m_Mo_asIs.2.1 75 = .ok (.return_, 1) := by decide +kernel
theorem d_Mo_walks_0 : decode m_Mo_walks.2.1 0 = .ok (.aload_n 0, 1) := by decide +kernel
theorem d_Mo_walks_1 : decode m_Mo_walks.2.1 1 = .ok (.invokevirtual 394, 3) := by decide +kernel
theorem d_Mo_walks_4 : decode m_Mo_walks.2.1 4 = .ok (.aload_n 0, 1) := by decide +kernel
theorem d_Mo_walks_5 : decode m_Mo_walks.2.1 5 = .ok (.invokevirtual 397, 3) := by decide +kernel
theorem d_Mo_walks_8 : decode m_Mo_walks.2.1 8 = .ok (.istore_n 2, 1) := by decide +kernel
theorem d_Mo_walks_9 : decode m_Mo_walks.2.1 9 = .ok (.aload_n 0, 1) := by decide +kernel
theorem d_Mo_walks_10 : decode m_Mo_walks.2.1 10 = .ok (.getfield 115, 3) := by decide +kernel
theorem d_Mo_walks_13 : decode m_Mo_walks.2.1 13 = .ok (.iload_n 2, 1) := by decide +kernel
theorem d_Mo_walks_14 : decode m_Mo_walks.2.1 14 = .ok (.iaload, 1) := by decide +kernel
theorem d_Mo_walks_15 : decode m_Mo_walks.2.1 15 = .ok (.iload_n 1, 1) := by decide +kernel
theorem d_Mo_walks_16 : decode m_Mo_walks.2.1 16 = .ok (.if_icmp .gt 16, 3) := by decide +kernel
theorem d_Mo_walks_19 : decode m_Mo_walks.2.1 19 = .ok (.aload_n 0, 1) := by decide +kernel
theorem d_Mo_walks_20 : decode m_Mo_walks.2.1 20 = .ok (.iload_n 2, 1) := by decide +kernel
theorem d_Mo_walks_21 : decode m_Mo_walks.2.1 21 = .ok (.invokevirtual 400, 3) := by decide +kernel
theorem d_Mo_walks_24 : decode m_Mo_walks.2.1 24 = .ok (.aload_n 0, 1) := by decide +kernel
theorem d_Mo_walks_25 : decode m_Mo_walks.2.1 25 = .ok (.invokevirtual 397, 3) := by decide +kernel
theorem d_Mo_walks_28 : decode m_Mo_walks.2.1 28 = .ok (.istore_n 2, 1) := by decide +kernel
theorem d_Mo_walks_29 : decode m_Mo_walks.2.1 29 = .ok (.goto (-20), 3) := by decide +kernel
theorem d_Mo_walks_32 : decode m_Mo_walks.2.1 32 = .ok (.return_, 1) := by decide +kernel
theorem d_Mo_starts_0 : decode m_Mo_starts.2.1 0 = .ok (.iconst 0, 1) := by decide +kernel
theorem d_Mo_starts_1 : decode m_Mo_starts.2.1 1 = .ok (.istore_n 1, 1) := by decide +kernel
theorem d_Mo_starts_2 : decode m_Mo_starts.2.1 2 = .ok (.iload_n 1, 1) := by decide +kernel
theorem d_Mo_starts_3 : decode m_Mo_starts.2.1 3 = .ok (.bipush 6, 2) := by decide +kernel
theorem d_Mo_starts_5 : decode m_Mo_starts.2.1 5 = .ok (.if_icmp .ge 23, 3) := by decide +kernel
theorem d_Mo_starts_8 : decode m_Mo_starts.2.1 8 = .ok (.aload_n 0, 1) := by decide +kernel
theorem d_Mo_starts_9 : decode m_Mo_starts.2.1 9 = .ok (.getfield 127, 3) := by decide +kernel
theorem d_Mo_starts_12 : decode m_Mo_starts.2.1 12 = .ok (.iload_n 1, 1) := by decide +kernel
theorem d_Mo_starts_13 : decode m_Mo_starts.2.1 13 = .ok (.iconst (-1), 1) := by decide +kernel
theorem d_Mo_starts_14 : decode m_Mo_starts.2.1 14 = .ok (.iastore, 1) := by decide +kernel
theorem d_Mo_starts_15 : decode m_Mo_starts.2.1 15 = .ok (.aload_n 0, 1) := by decide +kernel
theorem d_Mo_starts_16 : decode m_Mo_starts.2.1 16 = .ok (.getfield 130, 3) := by decide +kernel
theorem d_Mo_starts_19 : decode m_Mo_starts.2.1 19 = .ok (.iload_n 1, 1) := by decide +kernel
theorem d_Mo_starts_20 : decode m_Mo_starts.2.1 20 = .ok (.iconst (-1), 1) := by decide +kernel
theorem d_Mo_starts_21 : decode m_Mo_starts.2.1 21 = .ok (.iastore, 1) := by decide +kernel
theorem d_Mo_starts_22 : decode m_Mo_starts.2.1 22 = .ok (.iinc 1 1, 3) := by decide +kernel
theorem d_Mo_starts_25 : decode m_Mo_starts.2.1 25 = .ok (.goto (-23), 3) := by decide +kernel
theorem d_Mo_starts_28 : decode m_Mo_starts.2.1 28 = .ok (.iconst 0, 1) := by decide +kernel
theorem d_Mo_starts_29 : decode m_Mo_starts.2.1 29 = .ok (.istore_n 1, 1) := by decide +kernel
theorem d_Mo_starts_30 : decode m_Mo_starts.2.1 30 = .ok (.iload_n 1, 1) := by decide +kernel
theorem d_Mo_starts_31 : decode m_Mo_starts.2.1 31 = .ok (.aload_n 0, 1) := by decide +kernel
theorem d_Mo_starts_32 : decode m_Mo_starts.2.1 32 = .ok (.getfield 13, 3) := by decide +kernel
theorem d_Mo_starts_35 : decode m_Mo_starts.2.1 35 = .ok (.iconst 0, 1) := by decide +kernel
theorem d_Mo_starts_36 : decode m_Mo_starts.2.1 36 = .ok (.iaload, 1) := by decide +kernel
theorem d_Mo_starts_37 : decode m_Mo_starts.2.1 37 = .ok (.if_icmp .ge 74, 3) := by decide +kernel
theorem d_Mo_starts_40 : decode m_Mo_starts.2.1 40 = .ok (.aload_n 0, 1) := by decide +kernel
theorem d_Mo_starts_41 : decode m_Mo_starts.2.1 41 = .ok (.getfield 66, 3) := by decide +kernel
theorem d_Mo_starts_44 : decode m_Mo_starts.2.1 44 = .ok (.iconst 0, 1) := by decide +kernel
theorem d_Mo_starts_45 : decode m_Mo_starts.2.1 45 = .ok (.iaload, 1) := by decide +kernel
theorem d_Mo_starts_46 : decode m_Mo_starts.2.1 46 = .ok (.iload_n 1, 1) := by decide +kernel
theorem d_Mo_starts_47 : decode m_Mo_starts.2.1 47 = .ok (.ishr, 1) := by decide +kernel
theorem d_Mo_starts_48 : decode m_Mo_starts.2.1 48 = .ok (.iconst 1, 1) := by decide +kernel
theorem d_Mo_starts_49 : decode m_Mo_starts.2.1 49 = .ok (.iand, 1) := by decide +kernel
theorem d_Mo_starts_50 : decode m_Mo_starts.2.1 50 = .ok (.ifCond .eq 55, 3) := by decide +kernel
theorem d_Mo_starts_53 : decode m_Mo_starts.2.1 53 = .ok (.aload_n 0, 1) := by decide +kernel
theorem d_Mo_starts_54 : decode m_Mo_starts.2.1 54 = .ok (.iload_n 1, 1) := by decide +kernel
theorem d_Mo_starts_55 : decode m_Mo_starts.2.1 55 = .ok (.invokevirtual 383, 3) := by decide +kernel
theorem d_Mo_starts_58 : decode m_Mo_starts.2.1 58 = .ok (.ifCond .eq 6, 3) := by decide +kernel
theorem d_Mo_starts_61 : decode m_Mo_starts.2.1 61 = .ok (.goto 44, 3) := by decide +kernel
theorem d_Mo_starts_64 : decode m_Mo_starts.2.1 64 = .ok (.aload_n 0, 1) := by decide +kernel
theorem d_Mo_starts_65 : decode m_Mo_starts.2.1 65 = .ok (.iload_n 1, 1) := by decide +kernel
theorem d_Mo_starts_66 : decode m_Mo_starts.2.1 66 = .ok (.iconst 1, 1) := by decide +kernel
theorem d_Mo_starts_67 : decode m_Mo_starts.2.1 67 = .ok (.iconst 0, 1) := by decide +kernel
theorem d_Mo_starts_68 : decode m_Mo_starts.2.1 68 = .ok (.iconst 0, 1) := by decide +kernel
theorem d_Mo_starts_69 : decode m_Mo_starts.2.1 69 = .ok (.invokevirtual 353, 3) := by decide +kernel
theorem d_Mo_starts_72 : decode m_Mo_starts.2.1 72 = .ok (.aload_n 0, 1) := by decide +kernel
theorem d_Mo_starts_73 : decode m_Mo_starts.2.1 73 = .ok (.getfield 81, 3) := by decide +kernel
theorem d_Mo_starts_76 : decode m_Mo_starts.2.1 76 = .ok (.bipush 6, 2) := by decide +kernel
theorem d_Mo_starts_78 : decode m_Mo_starts.2.1 78 = .ok (.lconst 1, 1) := by decide +kernel
theorem d_Mo_starts_79 : decode m_Mo_starts.2.1 79 = .ok (.lastore, 1) := by decide +kernel
theorem d_Mo_starts_80 : decode m_Mo_starts.2.1 80 = .ok (.aload_n 0, 1) := by decide +kernel
theorem d_Mo_starts_81 : decode m_Mo_starts.2.1 81 = .ok (.invokevirtual 373, 3) := by decide +kernel
theorem d_Mo_starts_84 : decode m_Mo_starts.2.1 84 = .ok (.ifCond .ne 6, 3) := by decide +kernel
theorem d_Mo_starts_87 : decode m_Mo_starts.2.1 87 = .ok (.goto 18, 3) := by decide +kernel
theorem d_Mo_starts_90 : decode m_Mo_starts.2.1 90 = .ok (.aload_n 0, 1) := by decide +kernel
theorem d_Mo_starts_91 : decode m_Mo_starts.2.1 91 = .ok (.getfield 127, 3) := by decide +kernel
theorem d_Mo_starts_94 : decode m_Mo_starts.2.1 94 = .ok (.iload_n 1, 1) := by decide +kernel
theorem d_Mo_starts_95 : decode m_Mo_starts.2.1 95 = .ok (.bipush (-2), 2) := by decide +kernel
theorem d_Mo_starts_97 : decode m_Mo_starts.2.1 97 = .ok (.iastore, 1) := by decide +kernel
theorem d_Mo_starts_98 : decode m_Mo_starts.2.1 98 = .ok (.aload_n 0, 1) := by decide +kernel
theorem d_Mo_starts_99 : decode m_Mo_starts.2.1 99 = .ok (.getfield 130, 3) := by decide +kernel
theorem d_Mo_starts_102 : decode m_Mo_starts.2.1 102 = .ok (.iload_n 1, 1) := by decide +kernel
theorem d_Mo_starts_103 : decode m_Mo_starts.2.1 103 = .ok (.iconst 1, 1) := by decide +kernel
theorem d_Mo_starts_104 : decode m_Mo_starts.2.1 104 = .ok (.iastore, 1) := by decide +kernel
theorem d_Mo_starts_105 : decode m_Mo_starts.2.1 105 = .ok (.iinc 1 1, 3) := by decide +kernel
theorem d_Mo_starts_108 : decode m_Mo_starts.2.1 108 = .ok (.goto (-78), 3) := by decide +kernel
theorem d_Mo_starts_111 : decode m_Mo_starts.2.1 111 = .ok (.aload_n 0, 1) := by decide +kernel
theorem d_Mo_starts_112 : decode m_Mo_starts.2.1 112 = .ok (.iconst 0, 1) := by decide +kernel
theorem d_Mo_starts_113 : decode m_Mo_starts.2.1 113 = .ok (.putfield 388, 3) := by decide +kernel
theorem d_Mo_starts_116 : decode m_Mo_starts.2.1 116 = .ok (.iconst 0, 1) := by decide +kernel
theorem d_Mo_starts_117 : decode m_Mo_starts.2.1 117 = .ok (.istore_n 1, 1) := by decide +kernel
theorem d_Mo_starts_118 : decode m_Mo_starts.2.1 118 = .ok (.iload_n 1, 1) := by decide +kernel
theorem d_Mo_starts_119 : decode m_Mo_starts.2.1 119 = .ok (.iconst 3, 1) := by decide +kernel
theorem d_Mo_starts_120 : decode m_Mo_starts.2.1 120 = .ok (.if_icmp .ge 111, 3) := by decide +kernel
theorem d_Mo_starts_123 : decode m_Mo_starts.2.1 123 = .ok (.aload_n 0, 1) := by decide +kernel
theorem d_Mo_starts_124 : decode m_Mo_starts.2.1 124 = .ok (.getfield 115, 3) := by decide +kernel
theorem d_Mo_starts_127 : decode m_Mo_starts.2.1 127 = .ok (.iload_n 1, 1) := by decide +kernel
theorem d_Mo_starts_128 : decode m_Mo_starts.2.1 128 = .ok (.sipush 241, 3) := by decide +kernel
theorem d_Mo_starts_131 : decode m_Mo_starts.2.1 131 = .ok (.iastore, 1) := by decide +kernel
theorem d_Mo_starts_132 : decode m_Mo_starts.2.1 132 = .ok (.aload_n 0, 1) := by decide +kernel
theorem d_Mo_starts_133 : decode m_Mo_starts.2.1 133 = .ok (.getfield 118, 3) := by decide +kernel
theorem d_Mo_starts_136 : decode m_Mo_starts.2.1 136 = .ok (.iload_n 1, 1) := by decide +kernel
theorem d_Mo_starts_137 : decode m_Mo_starts.2.1 137 = .ok (.bipush (-2), 2) := by decide +kernel
theorem d_Mo_starts_139 : decode m_Mo_starts.2.1 139 = .ok (.iastore, 1) := by decide +kernel
theorem d_Mo_starts_140 : decode m_Mo_starts.2.1 140 = .ok (.aload_n 0, 1) := by decide +kernel
theorem d_Mo_starts_141 : decode m_Mo_starts.2.1 141 = .ok (.getfield 121, 3) := by decide +kernel
theorem d_Mo_starts_144 : decode m_Mo_starts.2.1 144 = .ok (.iload_n 1, 1) := by decide +kernel
theorem d_Mo_starts_145 : decode m_Mo_starts.2.1 145 = .ok (.iconst 1, 1) := by decide +kernel
theorem d_Mo_starts_146 : decode m_Mo_starts.2.1 146 = .ok (.iastore, 1) := by decide +kernel
theorem d_Mo_starts_147 : decode m_Mo_starts.2.1 147 = .ok (.aload_n 0, 1) := by decide +kernel
theorem d_Mo_starts_148 : decode m_Mo_starts.2.1 148 = .ok (.getfield 124, 3) := by decide +kernel
theorem d_Mo_starts_151 : decode m_Mo_starts.2.1 151 = .ok (.iload_n 1, 1) := by decide +kernel
theorem d_Mo_starts_152 : decode m_Mo_starts.2.1 152 = .ok (.iconst 0, 1) := by decide +kernel
theorem d_Mo_starts_153 : decode m_Mo_starts.2.1 153 = .ok (.iastore, 1) := by decide +kernel
theorem d_Mo_starts_154 : decode m_Mo_starts.2.1 154 = .ok (.aload_n 0, 1) := by decide +kernel
theorem d_Mo_starts_155 : decode m_Mo_starts.2.1 155 = .ok (.getfield 106, 3) := by decide +kernel
theorem d_Mo_starts_158 : decode m_Mo_starts.2.1 158 = .ok (.iload_n 1, 1) := by decide +kernel
theorem d_Mo_starts_159 : decode m_Mo_starts.2.1 159 = .ok (.aload_n 0, 1) := by decide +kernel
theorem d_Mo_starts_160 : decode m_Mo_starts.2.1 160 = .ok (.getfield 35, 3) := by decide +kernel
theorem d_Mo_starts_163 : decode m_Mo_starts.2.1 163 = .ok (.iload_n 1, 1) := by decide +kernel
theorem d_Mo_starts_164 : decode m_Mo_starts.2.1 164 = .ok (.iaload, 1) := by decide +kernel
theorem d_Mo_starts_165 : decode m_Mo_starts.2.1 165 = .ok (.iastore, 1) := by decide +kernel
theorem d_Mo_starts_166 : decode m_Mo_starts.2.1 166 = .ok (.aload_n 0, 1) := by decide +kernel
theorem d_Mo_starts_167 : decode m_Mo_starts.2.1 167 = .ok (.getfield 109, 3) := by decide +kernel
theorem d_Mo_starts_170 : decode m_Mo_starts.2.1 170 = .ok (.iload_n 1, 1) := by decide +kernel
theorem d_Mo_starts_171 : decode m_Mo_starts.2.1 171 = .ok (.iconst 0, 1) := by decide +kernel
theorem d_Mo_starts_172 : decode m_Mo_starts.2.1 172 = .ok (.iastore, 1) := by decide +kernel
theorem d_Mo_starts_173 : decode m_Mo_starts.2.1 173 = .ok (.aload_n 0, 1) := by decide +kernel
theorem d_Mo_starts_174 : decode m_Mo_starts.2.1 174 = .ok (.getfield 112, 3) := by decide +kernel
theorem d_Mo_starts_177 : decode m_Mo_starts.2.1 177 = .ok (.iload_n 1, 1) := by decide +kernel
theorem d_Mo_starts_178 : decode m_Mo_starts.2.1 178 = .ok (.aload_n 0, 1) := by decide +kernel
theorem d_Mo_starts_179 : decode m_Mo_starts.2.1 179 = .ok (.getfield 38, 3) := by decide +kernel
theorem d_Mo_starts_182 : decode m_Mo_starts.2.1 182 = .ok (.iload_n 1, 1) := by decide +kernel
theorem d_Mo_starts_183 : decode m_Mo_starts.2.1 183 = .ok (.iaload, 1) := by decide +kernel
theorem d_Mo_starts_184 : decode m_Mo_starts.2.1 184 = .ok (.iastore, 1) := by decide +kernel
theorem d_Mo_starts_185 : decode m_Mo_starts.2.1 185 = .ok (.aload_n 0, 1) := by decide +kernel
theorem d_Mo_starts_186 : decode m_Mo_starts.2.1 186 = .ok (.iload_n 1, 1) := by decide +kernel
theorem d_Mo_starts_187 : decode m_Mo_starts.2.1 187 = .ok (.invokevirtual 317, 3) := by decide +kernel
theorem d_Mo_starts_190 : decode m_Mo_starts.2.1 190 = .ok (.ifCond .eq 35, 3) := by decide +kernel
theorem d_Mo_starts_193 : decode m_Mo_starts.2.1 193 = .ok (.aload_n 0, 1) := by decide +kernel
theorem d_Mo_starts_194 : decode m_Mo_starts.2.1 194 = .ok (.getfield 88, 3) := by decide +kernel
theorem d_Mo_starts_197 : decode m_Mo_starts.2.1 197 = .ok (.iconst 4, 1) := by decide +kernel
theorem d_Mo_starts_198 : decode m_Mo_starts.2.1 198 = .ok (.if_icmp .ne 14, 3) := by decide +kernel
theorem d_Mo_starts_201 : decode m_Mo_starts.2.1 201 = .ok (.aload_n 0, 1) := by decide +kernel
theorem d_Mo_starts_202 : decode m_Mo_starts.2.1 202 = .ok (.getfield 91, 3) := by decide +kernel
theorem d_Mo_starts_205 : decode m_Mo_starts.2.1 205 = .ok (.iload_n 1, 1) := by decide +kernel
theorem d_Mo_starts_206 : decode m_Mo_starts.2.1 206 = .ok (.if_icmp .ne 6, 3) := by decide +kernel
theorem d_Mo_starts_209 : decode m_Mo_starts.2.1 209 = .ok (.goto 16, 3) := by decide +kernel
theorem d_Mo_starts_212 : decode m_Mo_starts.2.1 212 = .ok (.aload_n 0, 1) := by decide +kernel
theorem d_Mo_starts_213 : decode m_Mo_starts.2.1 213 = .ok (.getfield 103, 3) := by decide +kernel
theorem d_Mo_starts_216 : decode m_Mo_starts.2.1 216 = .ok (.iload_n 1, 1) := by decide +kernel
theorem d_Mo_starts_217 : decode m_Mo_starts.2.1 217 = .ok (.iconst 0, 1) := by decide +kernel
theorem d_Mo_starts_218 : decode m_Mo_starts.2.1 218 = .ok (.iastore, 1) := by decide +kernel
theorem d_Mo_starts_219 : decode m_Mo_starts.2.1 219 = .ok (.aload_n 0, 1) := by decide +kernel
theorem d_Mo_starts_220 : decode m_Mo_starts.2.1 220 = .ok (.iload_n 1, 1) := by decide +kernel
theorem d_Mo_starts_221 : decode m_Mo_starts.2.1 221 = .ok (.iconst 1, 1) := by decide +kernel
theorem d_Mo_starts_222 : decode m_Mo_starts.2.1 222 = .ok (.invokevirtual 391, 3) := by decide +kernel
theorem d_Mo_starts_225 : decode m_Mo_starts.2.1 225 = .ok (.iinc 1 1, 3) := by decide +kernel
theorem d_Mo_starts_228 : decode m_Mo_starts.2.1 228 = .ok (.goto (-110), 3) := by decide +kernel
theorem d_Mo_starts_231 : decode m_Mo_starts.2.1 231 = .ok (.return_, 1) := by decide +kernel
theorem d_Mo_isGone_0 : decode m_Mo_isGone.2.1 0 = .ok (.aload_n 0, 1) := by decide +kernel
theorem d_Mo_isGone_1 : decode m_Mo_isGone.2.1 1 = .ok (.getfield 88, 3) := by decide +kernel
theorem d_Mo_isGone_4 : decode m_Mo_isGone.2.1 4 = .ok (.iconst 3, 1) := by decide +kernel
theorem d_Mo_isGone_5 : decode m_Mo_isGone.2.1 5 = .ok (.if_icmp .ne 11, 3) := by decide +kernel
theorem d_Mo_isGone_8 : decode m_Mo_isGone.2.1 8 = .ok (.aload_n 0, 1) := by decide +kernel
theorem d_Mo_isGone_9 : decode m_Mo_isGone.2.1 9 = .ok (.getfield 91, 3) := by decide +kernel
theorem d_Mo_isGone_12 : decode m_Mo_isGone.2.1 12 = .ok (.iload_n 1, 1) := by decide +kernel
theorem d_Mo_isGone_13 : decode m_Mo_isGone.2.1 13 = .ok (.if_icmp .eq 11, 3) := by decide +kernel
theorem d_Mo_isGone_16 : decode m_Mo_isGone.2.1 16 = .ok (.aload_n 0, 1) := by decide +kernel
theorem d_Mo_isGone_17 : decode m_Mo_isGone.2.1 17 = .ok (.getfield 94, 3) := by decide +kernel
theorem d_Mo_isGone_20 : decode m_Mo_isGone.2.1 20 = .ok (.iload_n 1, 1) := by decide +kernel
theorem d_Mo_isGone_21 : decode m_Mo_isGone.2.1 21 = .ok (.if_icmp .ne 7, 3) := by decide +kernel
theorem d_Mo_isGone_24 : decode m_Mo_isGone.2.1 24 = .ok (.iconst 1, 1) := by decide +kernel
theorem d_Mo_isGone_25 : decode m_Mo_isGone.2.1 25 = .ok (.goto 4, 3) := by decide +kernel
theorem d_Mo_isGone_28 : decode m_Mo_isGone.2.1 28 = .ok (.iconst 0, 1) := by decide +kernel
theorem d_Mo_isGone_29 : decode m_Mo_isGone.2.1 29 = .ok (.ireturn, 1) := by decide +kernel
theorem d_Mo_leaves_0 : decode m_Mo_leaves.2.1 0 = .ok (.aload_n 0, 1) := by decide +kernel
theorem d_Mo_leaves_1 : decode m_Mo_leaves.2.1 1 = .ok (.getfield 103, 3) := by decide +kernel
theorem d_Mo_leaves_4 : decode m_Mo_leaves.2.1 4 = .ok (.iload_n 1, 1) := by decide +kernel
theorem d_Mo_leaves_5 : decode m_Mo_leaves.2.1 5 = .ok (.iaload, 1) := by decide +kernel
theorem d_Mo_leaves_6 : decode m_Mo_leaves.2.1 6 = .ok (.aload_n 0, 1) := by decide +kernel
theorem d_Mo_leaves_7 : decode m_Mo_leaves.2.1 7 = .ok (.getfield 100, 3) := by decide +kernel
theorem d_Mo_leaves_10 : decode m_Mo_leaves.2.1 10 = .ok (.iload_n 1, 1) := by decide +kernel
theorem d_Mo_leaves_11 : decode m_Mo_leaves.2.1 11 = .ok (.iaload, 1) := by decide +kernel
theorem d_Mo_leaves_12 : decode m_Mo_leaves.2.1 12 = .ok (.if_icmp .ge 39, 3) := by decide +kernel
theorem d_Mo_leaves_15 : decode m_Mo_leaves.2.1 15 = .ok (.aload_n 0, 1) := by decide +kernel
theorem d_Mo_leaves_16 : decode m_Mo_leaves.2.1 16 = .ok (.aload_n 0, 1) := by decide +kernel
theorem d_Mo_leaves_17 : decode m_Mo_leaves.2.1 17 = .ok (.getfield 97, 3) := by decide +kernel
theorem d_Mo_leaves_20 : decode m_Mo_leaves.2.1 20 = .ok (.bipush 9, 2) := by decide +kernel
theorem d_Mo_leaves_22 : decode m_Mo_leaves.2.1 22 = .ok (.iload_n 1, 1) := by decide +kernel
theorem d_Mo_leaves_23 : decode m_Mo_leaves.2.1 23 = .ok (.imul, 1) := by decide +kernel
theorem d_Mo_leaves_24 : decode m_Mo_leaves.2.1 24 = .ok (.aload_n 0, 1) := by decide +kernel
theorem d_Mo_leaves_25 : decode m_Mo_leaves.2.1 25 = .ok (.getfield 103, 3) := by decide +kernel
theorem d_Mo_leaves_28 : decode m_Mo_leaves.2.1 28 = .ok (.iload_n 1, 1) := by decide +kernel
theorem d_Mo_leaves_29 : decode m_Mo_leaves.2.1 29 = .ok (.iaload, 1) := by decide +kernel
theorem d_Mo_leaves_30 : decode m_Mo_leaves.2.1 30 = .ok (.iadd, 1) := by decide +kernel
theorem d_Mo_leaves_31 : decode m_Mo_leaves.2.1 31 = .ok (.iaload, 1) := by decide +kernel
theorem d_Mo_leaves_32 : decode m_Mo_leaves.2.1 32 = .ok (.invokevirtual 383, 3) := by decide +kernel
theorem d_Mo_leaves_35 : decode m_Mo_leaves.2.1 35 = .ok (.ifCond .eq 16, 3) := by decide +kernel
theorem d_Mo_leaves_38 : decode m_Mo_leaves.2.1 38 = .ok (.aload_n 0, 1) := by decide +kernel
theorem d_Mo_leaves_39 : decode m_Mo_leaves.2.1 39 = .ok (.getfield 103, 3) := by decide +kernel
theorem d_Mo_leaves_42 : decode m_Mo_leaves.2.1 42 = .ok (.iload_n 1, 1) := by decide +kernel
theorem d_Mo_leaves_43 : decode m_Mo_leaves.2.1 43 = .ok (.dup2, 1) := by decide +kernel
theorem d_Mo_leaves_44 : decode m_Mo_leaves.2.1 44 = .ok (.iaload, 1) := by decide +kernel
theorem d_Mo_leaves_45 : decode m_Mo_leaves.2.1 45 = .ok (.iconst 1, 1) := by decide +kernel
theorem d_Mo_leaves_46 : decode m_Mo_leaves.2.1 46 = .ok (.iadd, 1) := by decide +kernel
theorem d_Mo_leaves_47 : decode m_Mo_leaves.2.1 47 = .ok (.iastore, 1) := by decide +kernel
theorem d_Mo_leaves_48 : decode m_Mo_leaves.2.1 48 = .ok (.goto (-48), 3) := by decide +kernel
theorem d_Mo_leaves_51 : decode m_Mo_leaves.2.1 51 = .ok (.aload_n 0, 1) := by decide +kernel
theorem d_Mo_leaves_52 : decode m_Mo_leaves.2.1 52 = .ok (.getfield 115, 3) := by decide +kernel
theorem d_Mo_leaves_55 : decode m_Mo_leaves.2.1 55 = .ok (.iload_n 1, 1) := by decide +kernel
theorem d_Mo_leaves_56 : decode m_Mo_leaves.2.1 56 = .ok (.sipush 241, 3) := by decide +kernel
theorem d_Mo_leaves_59 : decode m_Mo_leaves.2.1 59 = .ok (.iastore, 1) := by decide +kernel
theorem d_Mo_leaves_60 : decode m_Mo_leaves.2.1 60 = .ok (.aload_n 0, 1) := by decide +kernel
theorem d_Mo_leaves_61 : decode m_Mo_leaves.2.1 61 = .ok (.getfield 103, 3) := by decide +kernel
theorem d_Mo_leaves_64 : decode m_Mo_leaves.2.1 64 = .ok (.iload_n 1, 1) := by decide +kernel
theorem d_Mo_leaves_65 : decode m_Mo_leaves.2.1 65 = .ok (.iaload, 1) := by decide +kernel
theorem d_Mo_leaves_66 : decode m_Mo_leaves.2.1 66 = .ok (.aload_n 0, 1) := by decide +kernel
theorem d_Mo_leaves_67 : decode m_Mo_leaves.2.1 67 = .ok (.getfield 100, 3) := by decide +kernel
theorem d_Mo_leaves_70 : decode m_Mo_leaves.2.1 70 = .ok (.iload_n 1, 1) := by decide +kernel
theorem d_Mo_leaves_71 : decode m_Mo_leaves.2.1 71 = .ok (.iaload, 1) := by decide +kernel
theorem d_Mo_leaves_72 : decode m_Mo_leaves.2.1 72 = .ok (.if_icmp .ge 56, 3) := by decide +kernel
theorem d_Mo_leaves_75 : decode m_Mo_leaves.2.1 75 = .ok (.aload_n 0, 1) := by decide +kernel
theorem d_Mo_leaves_76 : decode m_Mo_leaves.2.1 76 = .ok (.getfield 115, 3) := by decide +kernel
theorem d_Mo_leaves_79 : decode m_Mo_leaves.2.1 79 = .ok (.iload_n 1, 1) := by decide +kernel
theorem d_Mo_leaves_80 : decode m_Mo_leaves.2.1 80 = .ok (.sipush 241, 3) := by decide +kernel
theorem d_Mo_leaves_83 : decode m_Mo_leaves.2.1 83 = .ok (.iload_n 2, 1) := by decide +kernel
theorem d_Mo_leaves_84 : decode m_Mo_leaves.2.1 84 = .ok (.aload_n 0, 1) := by decide +kernel
theorem d_Mo_leaves_85 : decode m_Mo_leaves.2.1 85 = .ok (.aload_n 0, 1) := by decide +kernel
theorem d_Mo_leaves_86 : decode m_Mo_leaves.2.1 86 = .ok (.getfield 106, 3) := by decide +kernel
theorem d_Mo_leaves_89 : decode m_Mo_leaves.2.1 89 = .ok (.iload_n 1, 1) := by decide +kernel
theorem d_Mo_leaves_90 : decode m_Mo_leaves.2.1 90 = .ok (.iaload, 1) := by decide +kernel
theorem d_Mo_leaves_91 : decode m_Mo_leaves.2.1 91 = .ok (.aload_n 0, 1) := by decide +kernel
theorem d_Mo_leaves_92 : decode m_Mo_leaves.2.1 92 = .ok (.getfield 97, 3) := by decide +kernel
theorem d_Mo_leaves_95 : decode m_Mo_leaves.2.1 95 = .ok (.bipush 9, 2) := by decide +kernel
theorem d_Mo_leaves_97 : decode m_Mo_leaves.2.1 97 = .ok (.iload_n 1, 1) := by decide +kernel
theorem d_Mo_leaves_98 : decode m_Mo_leaves.2.1 98 = .ok (.imul, 1) := by decide +kernel
theorem d_Mo_leaves_99 : decode m_Mo_leaves.2.1 99 = .ok (.aload_n 0, 1) := by decide +kernel
theorem d_Mo_leaves_100 : decode m_Mo_leaves.2.1 100 = .ok (.getfield 103, 3) := by decide +kernel
theorem d_Mo_leaves_103 : decode m_Mo_leaves.2.1 103 = .ok (.iload_n 1, 1) := by decide +kernel
theorem d_Mo_leaves_104 : decode m_Mo_leaves.2.1 104 = .ok (.iaload, 1) := by decide +kernel
theorem d_Mo_leaves_105 : decode m_Mo_leaves.2.1 105 = .ok (.iadd, 1) := by decide +kernel
theorem d_Mo_leaves_106 : decode m_Mo_leaves.2.1 106 = .ok (.iaload, 1) := by decide +kernel
theorem d_Mo_leaves_107 : decode m_Mo_leaves.2.1 107 = .ok (.iload_n 2, 1) := by decide +kernel
theorem d_Mo_leaves_108 : decode m_Mo_leaves.2.1 108 = .ok (.aload_n 0, 1) := by decide +kernel
theorem d_Mo_leaves_109 : decode m_Mo_leaves.2.1 109 = .ok (.getfield 109, 3) := by decide +kernel
theorem d_Mo_leaves_112 : decode m_Mo_leaves.2.1 112 = .ok (.iload_n 1, 1) := by decide +kernel
theorem d_Mo_leaves_113 : decode m_Mo_leaves.2.1 113 = .ok (.iaload, 1) := by decide +kernel
theorem d_Mo_leaves_114 : decode m_Mo_leaves.2.1 114 = .ok (.aload_n 0, 1) := by decide +kernel
theorem d_Mo_leaves_115 : decode m_Mo_leaves.2.1 115 = .ok (.getfield 112, 3) := by decide +kernel
theorem d_Mo_leaves_118 : decode m_Mo_leaves.2.1 118 = .ok (.iload_n 1, 1) := by decide +kernel
theorem d_Mo_leaves_119 : decode m_Mo_leaves.2.1 119 = .ok (.iaload, 1) := by decide +kernel
theorem d_Mo_leaves_120 : decode m_Mo_leaves.2.1 120 = .ok (.invokevirtual 369, 3) := by decide +kernel
theorem d_Mo_leaves_123 : decode m_Mo_leaves.2.1 123 = .ok (.iadd, 1) := by decide +kernel
theorem d_Mo_leaves_124 : decode m_Mo_leaves.2.1 124 = .ok (.invokestatic 386, 3) := by decide +kernel
theorem d_Mo_leaves_127 : decode m_Mo_leaves.2.1 127 = .ok (.iastore, 1) := by decide +kernel
theorem d_Mo_leaves_128 : decode m_Mo_leaves.2.1 128 = .ok (.return_, 1) := by decide +kernel
theorem d_Mo_next_0 : decode m_Mo_next.2.1 0 = .ok (.iconst 0, 1) := by decide +kernel
theorem d_Mo_next_1 : decode m_Mo_next.2.1 1 = .ok (.istore_n 1, 1) := by decide +kernel
theorem d_Mo_next_2 : decode m_Mo_next.2.1 2 = .ok (.iconst 1, 1) := by decide +kernel
theorem d_Mo_next_3 : decode m_Mo_next.2.1 3 = .ok (.istore_n 2, 1) := by decide +kernel
theorem d_Mo_next_4 : decode m_Mo_next.2.1 4 = .ok (.iload_n 2, 1) := by decide +kernel
theorem d_Mo_next_5 : decode m_Mo_next.2.1 5 = .ok (.iconst 3, 1) := by decide +kernel
theorem d_Mo_next_6 : decode m_Mo_next.2.1 6 = .ok (.if_icmp .ge 26, 3) := by decide +kernel
theorem d_Mo_next_9 : decode m_Mo_next.2.1 9 = .ok (.aload_n 0, 1) := by decide +kernel
theorem d_Mo_next_10 : decode m_Mo_next.2.1 10 = .ok (.getfield 115, 3) := by decide +kernel
theorem d_Mo_next_13 : decode m_Mo_next.2.1 13 = .ok (.iload_n 2, 1) := by decide +kernel
theorem d_Mo_next_14 : decode m_Mo_next.2.1 14 = .ok (.iaload, 1) := by decide +kernel
theorem d_Mo_next_15 : decode m_Mo_next.2.1 15 = .ok (.aload_n 0, 1) := by decide +kernel
theorem d_Mo_next_16 : decode m_Mo_next.2.1 16 = .ok (.getfield 115, 3) := by decide +kernel
theorem d_Mo_next_19 : decode m_Mo_next.2.1 19 = .ok (.iload_n 1, 1) := by decide +kernel
theorem d_Mo_next_20 : decode m_Mo_next.2.1 20 = .ok (.iaload, 1) := by decide +kernel
theorem d_Mo_next_21 : decode m_Mo_next.2.1 21 = .ok (.if_icmp .ge 5, 3) := by decide +kernel
theorem d_Mo_next_24 : decode m_Mo_next.2.1 24 = .ok (.iload_n 2, 1) := by decide +kernel
theorem d_Mo_next_25 : decode m_Mo_next.2.1 25 = .ok (.istore_n 1, 1) := by decide +kernel
theorem d_Mo_next_26 : decode m_Mo_next.2.1 26 = .ok (.iinc 2 1, 3) := by decide +kernel
theorem d_Mo_next_29 : decode m_Mo_next.2.1 29 = .ok (.goto (-25), 3) := by decide +kernel
theorem d_Mo_next_32 : decode m_Mo_next.2.1 32 = .ok (.iload_n 1, 1) := by decide +kernel
theorem d_Mo_next_33 : decode m_Mo_next.2.1 33 = .ok (.ireturn, 1) := by decide +kernel
theorem d_Mo_arrives_0 : decode m_Mo_arrives.2.1 0 = .ok (.aload_n 0, 1) := by decide +kernel
theorem d_Mo_arrives_1 : decode m_Mo_arrives.2.1 1 = .ok (.getfield 115, 3) := by decide +kernel
theorem d_Mo_arrives_4 : decode m_Mo_arrives.2.1 4 = .ok (.iload_n 1, 1) := by decide +kernel
theorem d_Mo_arrives_5 : decode m_Mo_arrives.2.1 5 = .ok (.iaload, 1) := by decide +kernel
theorem d_Mo_arrives_6 : decode m_Mo_arrives.2.1 6 = .ok (.istore_n 2, 1) := by decide +kernel
theorem d_Mo_arrives_7 : decode m_Mo_arrives.2.1 7 = .ok (.aload_n 0, 1) := by decide +kernel
theorem d_Mo_arrives_8 : decode m_Mo_arrives.2.1 8 = .ok (.getfield 97, 3) := by decide +kernel
theorem d_Mo_arrives_11 : decode m_Mo_arrives.2.1 11 = .ok (.bipush 9, 2) := by decide +kernel
theorem d_Mo_arrives_13 : decode m_Mo_arrives.2.1 13 = .ok (.iload_n 1, 1) := by decide +kernel
theorem d_Mo_arrives_14 : decode m_Mo_arrives.2.1 14 = .ok (.imul, 1) := by decide +kernel
theorem d_Mo_arrives_15 : decode m_Mo_arrives.2.1 15 = .ok (.aload_n 0, 1) := by decide +kernel
theorem d_Mo_arrives_16 : decode m_Mo_arrives.2.1 16 = .ok (.getfield 103, 3) := by decide +kernel
theorem d_Mo_arrives_19 : decode m_Mo_arrives.2.1 19 = .ok (.iload_n 1, 1) := by decide +kernel
theorem d_Mo_arrives_20 : decode m_Mo_arrives.2.1 20 = .ok (.iaload, 1) := by decide +kernel
theorem d_Mo_arrives_21 : decode m_Mo_arrives.2.1 21 = .ok (.iadd, 1) := by decide +kernel
theorem d_Mo_arrives_22 : decode m_Mo_arrives.2.1 22 = .ok (.iaload, 1) := by decide +kernel
theorem d_Mo_arrives_23 : decode m_Mo_arrives.2.1 23 = .ok (.istore_n 3, 1) := by decide +kernel
theorem d_Mo_arrives_24 : decode m_Mo_arrives.2.1 24 = .ok (.aload_n 0, 1) := by decide +kernel
theorem d_Mo_arrives_25 : decode m_Mo_arrives.2.1 25 = .ok (.getfield 118, 3) := by decide +kernel
theorem d_Mo_arrives_28 : decode m_Mo_arrives.2.1 28 = .ok (.iload_n 1, 1) := by decide +kernel
theorem d_Mo_arrives_29 : decode m_Mo_arrives.2.1 29 = .ok (.aload_n 0, 1) := by decide +kernel
theorem d_Mo_arrives_30 : decode m_Mo_arrives.2.1 30 = .ok (.getfield 103, 3) := by decide +kernel
theorem d_Mo_arrives_33 : decode m_Mo_arrives.2.1 33 = .ok (.iload_n 1, 1) := by decide +kernel
theorem d_Mo_arrives_34 : decode m_Mo_arrives.2.1 34 = .ok (.iaload, 1) := by decide +kernel
theorem d_Mo_arrives_35 : decode m_Mo_arrives.2.1 35 = .ok (.iastore, 1) := by decide +kernel
theorem d_Mo_arrives_36 : decode m_Mo_arrives.2.1 36 = .ok (.aload_n 0, 1) := by decide +kernel
theorem d_Mo_arrives_37 : decode m_Mo_arrives.2.1 37 = .ok (.getfield 106, 3) := by decide +kernel
theorem d_Mo_arrives_40 : decode m_Mo_arrives.2.1 40 = .ok (.iload_n 1, 1) := by decide +kernel
theorem d_Mo_arrives_41 : decode m_Mo_arrives.2.1 41 = .ok (.aload_n 0, 1) := by decide +kernel
theorem d_Mo_arrives_42 : decode m_Mo_arrives.2.1 42 = .ok (.getfield 19, 3) := by decide +kernel
theorem d_Mo_arrives_45 : decode m_Mo_arrives.2.1 45 = .ok (.iload_n 3, 1) := by decide +kernel
theorem d_Mo_arrives_46 : decode m_Mo_arrives.2.1 46 = .ok (.iaload, 1) := by decide +kernel
theorem d_Mo_arrives_47 : decode m_Mo_arrives.2.1 47 = .ok (.iastore, 1) := by decide +kernel
theorem d_Mo_arrives_48 : decode m_Mo_arrives.2.1 48 = .ok (.iconst 0, 1) := by decide +kernel
theorem d_Mo_arrives_49 : decode m_Mo_arrives.2.1 49 = .ok (.istore 4, 2) := by decide +kernel
theorem d_Mo_arrives_51 : decode m_Mo_arrives.2.1 51 = .ok (.aload_n 0, 1) := by decide +kernel
theorem d_Mo_arrives_52 : decode m_Mo_arrives.2.1 52 = .ok (.iload_n 3, 1) := by decide +kernel
theorem d_Mo_arrives_53 : decode m_Mo_arrives.2.1 53 = .ok (.iload_n 2, 1) := by decide +kernel
theorem d_Mo_arrives_54 : decode m_Mo_arrives.2.1 54 = .ok (.aload_n 0, 1) := by decide +kernel
theorem d_Mo_arrives_55 : decode m_Mo_arrives.2.1 55 = .ok (.getfield 109, 3) := by decide +kernel
theorem d_Mo_arrives_58 : decode m_Mo_arrives.2.1 58 = .ok (.iload_n 1, 1) := by decide +kernel
theorem d_Mo_arrives_59 : decode m_Mo_arrives.2.1 59 = .ok (.iaload, 1) := by decide +kernel
theorem d_Mo_arrives_60 : decode m_Mo_arrives.2.1 60 = .ok (.aload_n 0, 1) := by decide +kernel
theorem d_Mo_arrives_61 : decode m_Mo_arrives.2.1 61 = .ok (.getfield 112, 3) := by decide +kernel
theorem d_Mo_arrives_64 : decode m_Mo_arrives.2.1 64 = .ok (.iload_n 1, 1) := by decide +kernel
theorem d_Mo_arrives_65 : decode m_Mo_arrives.2.1 65 = .ok (.iaload, 1) := by decide +kernel
theorem d_Mo_arrives_66 : decode m_Mo_arrives.2.1 66 = .ok (.invokevirtual 353, 3) := by decide +kernel
theorem d_Mo_arrives_69 : decode m_Mo_arrives.2.1 69 = .ok (.aload_n 0, 1) := by decide +kernel
theorem d_Mo_arrives_70 : decode m_Mo_arrives.2.1 70 = .ok (.getfield 127, 3) := by decide +kernel
theorem d_Mo_arrives_73 : decode m_Mo_arrives.2.1 73 = .ok (.iload_n 3, 1) := by decide +kernel
theorem d_Mo_arrives_74 : decode m_Mo_arrives.2.1 74 = .ok (.iaload, 1) := by decide +kernel
theorem d_Mo_arrives_75 : decode m_Mo_arrives.2.1 75 = .ok (.iconst (-1), 1) := by decide +kernel
theorem d_Mo_arrives_76 : decode m_Mo_arrives.2.1 76 = .ok (.if_icmp .ne 95, 3) := by decide +kernel
theorem d_Mo_arrives_79 : decode m_Mo_arrives.2.1 79 = .ok (.aload_n 0, 1) := by decide +kernel
theorem d_Mo_arrives_80 : decode m_Mo_arrives.2.1 80 = .ok (.getfield 112, 3) := by decide +kernel
theorem d_Mo_arrives_83 : decode m_Mo_arrives.2.1 83 = .ok (.iload_n 1, 1) := by decide +kernel
theorem d_Mo_arrives_84 : decode m_Mo_arrives.2.1 84 = .ok (.iaload, 1) := by decide +kernel
theorem d_Mo_arrives_85 : decode m_Mo_arrives.2.1 85 = .ok (.ifCond .le 86, 3) := by decide +kernel
theorem d_Mo_arrives_88 : decode m_Mo_arrives.2.1 88 = .ok (.aload_n 0, 1) := by decide +kernel
theorem d_Mo_arrives_89 : decode m_Mo_arrives.2.1 89 = .ok (.invokevirtual 373, 3) := by decide +kernel
theorem d_Mo_arrives_92 : decode m_Mo_arrives.2.1 92 = .ok (.ifCond .eq 79, 3) := by decide +kernel
theorem d_Mo_arrives_95 : decode m_Mo_arrives.2.1 95 = .ok (.aload_n 0, 1) := by decide +kernel
theorem d_Mo_arrives_96 : decode m_Mo_arrives.2.1 96 = .ok (.getfield 127, 3) := by decide +kernel
theorem d_Mo_arrives_99 : decode m_Mo_arrives.2.1 99 = .ok (.iload_n 3, 1) := by decide +kernel
theorem d_Mo_arrives_100 : decode m_Mo_arrives.2.1 100 = .ok (.iload_n 1, 1) := by decide +kernel
theorem d_Mo_arrives_101 : decode m_Mo_arrives.2.1 101 = .ok (.iastore, 1) := by decide +kernel
theorem d_Mo_arrives_102 : decode m_Mo_arrives.2.1 102 = .ok (.aload_n 0, 1) := by decide +kernel
theorem d_Mo_arrives_103 : decode m_Mo_arrives.2.1 103 = .ok (.getfield 130, 3) := by decide +kernel
theorem d_Mo_arrives_106 : decode m_Mo_arrives.2.1 106 = .ok (.iload_n 3, 1) := by decide +kernel
theorem d_Mo_arrives_107 : decode m_Mo_arrives.2.1 107 = .ok (.iload_n 2, 1) := by decide +kernel
theorem d_Mo_arrives_108 : decode m_Mo_arrives.2.1 108 = .ok (.iastore, 1) := by decide +kernel
theorem d_Mo_arrives_109 : decode m_Mo_arrives.2.1 109 = .ok (.aload_n 0, 1) := by decide +kernel
theorem d_Mo_arrives_110 : decode m_Mo_arrives.2.1 110 = .ok (.getfield 124, 3) := by decide +kernel
theorem d_Mo_arrives_113 : decode m_Mo_arrives.2.1 113 = .ok (.iload_n 1, 1) := by decide +kernel
theorem d_Mo_arrives_114 : decode m_Mo_arrives.2.1 114 = .ok (.dup2, 1) := by decide +kernel
theorem d_Mo_arrives_115 : decode m_Mo_arrives.2.1 115 = .ok (.iaload, 1) := by decide +kernel
theorem d_Mo_arrives_116 : decode m_Mo_arrives.2.1 116 = .ok (.iconst 1, 1) := by decide +kernel
theorem d_Mo_arrives_117 : decode m_Mo_arrives.2.1 117 = .ok (.iadd, 1) := by decide +kernel
theorem d_Mo_arrives_118 : decode m_Mo_arrives.2.1 118 = .ok (.iastore, 1) := by decide +kernel
theorem d_Mo_arrives_119 : decode m_Mo_arrives.2.1 119 = .ok (.aload_n 0, 1) := by decide +kernel
theorem d_Mo_arrives_120 : decode m_Mo_arrives.2.1 120 = .ok (.getfield 88, 3) := by decide +kernel
theorem d_Mo_arrives_123 : decode m_Mo_arrives.2.1 123 = .ok (.iconst 1, 1) := by decide +kernel
theorem d_Mo_arrives_124 : decode m_Mo_arrives.2.1 124 = .ok (.if_icmp .eq 13, 3) := by decide +kernel
theorem d_Mo_arrives_127 : decode m_Mo_arrives.2.1 127 = .ok (.aload_n 0, 1) := by decide +kernel
theorem d_Mo_arrives_128 : decode m_Mo_arrives.2.1 128 = .ok (.getfield 112, 3) := by decide +kernel
theorem d_Mo_arrives_131 : decode m_Mo_arrives.2.1 131 = .ok (.iload_n 1, 1) := by decide +kernel
theorem d_Mo_arrives_132 : decode m_Mo_arrives.2.1 132 = .ok (.dup2, 1) := by decide +kernel
theorem d_Mo_arrives_133 : decode m_Mo_arrives.2.1 133 = .ok (.iaload, 1) := by decide +kernel
theorem d_Mo_arrives_134 : decode m_Mo_arrives.2.1 134 = .ok (.iconst 1, 1) := by decide +kernel
theorem d_Mo_arrives_135 : decode m_Mo_arrives.2.1 135 = .ok (.isub, 1) := by decide +kernel
theorem d_Mo_arrives_136 : decode m_Mo_arrives.2.1 136 = .ok (.iastore, 1) := by decide +kernel
theorem d_Mo_arrives_137 : decode m_Mo_arrives.2.1 137 = .ok (.aload_n 0, 1) := by decide +kernel
theorem d_Mo_arrives_138 : decode m_Mo_arrives.2.1 138 = .ok (.getfield 380, 3) := by decide +kernel
theorem d_Mo_arrives_141 : decode m_Mo_arrives.2.1 141 = .ok (.iload_n 3, 1) := by decide +kernel
theorem d_Mo_arrives_142 : decode m_Mo_arrives.2.1 142 = .ok (.ishr, 1) := by decide +kernel
theorem d_Mo_arrives_143 : decode m_Mo_arrives.2.1 143 = .ok (.iconst 1, 1) := by decide +kernel
theorem d_Mo_arrives_144 : decode m_Mo_arrives.2.1 144 = .ok (.iand, 1) := by decide +kernel
theorem d_Mo_arrives_145 : decode m_Mo_arrives.2.1 145 = .ok (.ifCond .ne 38, 3) := by decide +kernel
theorem d_Mo_arrives_148 : decode m_Mo_arrives.2.1 148 = .ok (.aload_n 0, 1) := by decide +kernel
theorem d_Mo_arrives_149 : decode m_Mo_arrives.2.1 149 = .ok (.getfield 109, 3) := by decide +kernel
theorem d_Mo_arrives_152 : decode m_Mo_arrives.2.1 152 = .ok (.iload_n 1, 1) := by decide +kernel
theorem d_Mo_arrives_153 : decode m_Mo_arrives.2.1 153 = .ok (.dup2, 1) := by decide +kernel
theorem d_Mo_arrives_154 : decode m_Mo_arrives.2.1 154 = .ok (.iaload, 1) := by decide +kernel
theorem d_Mo_arrives_155 : decode m_Mo_arrives.2.1 155 = .ok (.iconst 1, 1) := by decide +kernel
theorem d_Mo_arrives_156 : decode m_Mo_arrives.2.1 156 = .ok (.iadd, 1) := by decide +kernel
theorem d_Mo_arrives_157 : decode m_Mo_arrives.2.1 157 = .ok (.iastore, 1) := by decide +kernel
theorem d_Mo_arrives_158 : decode m_Mo_arrives.2.1 158 = .ok (.aload_n 0, 1) := by decide +kernel
theorem d_Mo_arrives_159 : decode m_Mo_arrives.2.1 159 = .ok (.iconst 1, 1) := by decide +kernel
theorem d_Mo_arrives_160 : decode m_Mo_arrives.2.1 160 = .ok (.bipush 60, 2) := by decide +kernel
theorem d_Mo_arrives_162 : decode m_Mo_arrives.2.1 162 = .ok (.iconst 2, 1) := by decide +kernel
theorem d_Mo_arrives_163 : decode m_Mo_arrives.2.1 163 = .ok (.invokevirtual 359, 3) := by decide +kernel
theorem d_Mo_arrives_166 : decode m_Mo_arrives.2.1 166 = .ok (.istore 4, 2) := by decide +kernel
theorem d_Mo_arrives_168 : decode m_Mo_arrives.2.1 168 = .ok (.goto 15, 3) := by decide +kernel
theorem d_Mo_arrives_171 : decode m_Mo_arrives.2.1 171 = .ok (.aload_n 0, 1) := by decide +kernel
theorem d_Mo_arrives_172 : decode m_Mo_arrives.2.1 172 = .ok (.dup, 1) := by decide +kernel
theorem d_Mo_arrives_173 : decode m_Mo_arrives.2.1 173 = .ok (.getfield 388, 3) := by decide +kernel
theorem d_Mo_arrives_176 : decode m_Mo_arrives.2.1 176 = .ok (.iconst 1, 1) := by decide +kernel
theorem d_Mo_arrives_177 : decode m_Mo_arrives.2.1 177 = .ok (.iload_n 3, 1) := by decide +kernel
theorem d_Mo_arrives_178 : decode m_Mo_arrives.2.1 178 = .ok (.ishl, 1) := by decide +kernel
theorem d_Mo_arrives_179 : decode m_Mo_arrives.2.1 179 = .ok (.ior, 1) := by decide +kernel
theorem d_Mo_arrives_180 : decode m_Mo_arrives.2.1 180 = .ok (.putfield 388, 3) := by decide +kernel
theorem d_Mo_arrives_183 : decode m_Mo_arrives.2.1 183 = .ok (.aload_n 0, 1) := by decide +kernel
theorem d_Mo_arrives_184 : decode m_Mo_arrives.2.1 184 = .ok (.getfield 103, 3) := by decide +kernel
theorem d_Mo_arrives_187 : decode m_Mo_arrives.2.1 187 = .ok (.iload_n 1, 1) := by decide +kernel
theorem d_Mo_arrives_188 : decode m_Mo_arrives.2.1 188 = .ok (.dup2, 1) := by decide +kernel
theorem d_Mo_arrives_189 : decode m_Mo_arrives.2.1 189 = .ok (.iaload, 1) := by decide +kernel
theorem d_Mo_arrives_190 : decode m_Mo_arrives.2.1 190 = .ok (.iconst 1, 1) := by decide +kernel
theorem d_Mo_arrives_191 : decode m_Mo_arrives.2.1 191 = .ok (.iadd, 1) := by decide +kernel
theorem d_Mo_arrives_192 : decode m_Mo_arrives.2.1 192 = .ok (.iastore, 1) := by decide +kernel
theorem d_Mo_arrives_193 : decode m_Mo_arrives.2.1 193 = .ok (.aload_n 0, 1) := by decide +kernel
theorem d_Mo_arrives_194 : decode m_Mo_arrives.2.1 194 = .ok (.getfield 121, 3) := by decide +kernel
theorem d_Mo_arrives_197 : decode m_Mo_arrives.2.1 197 = .ok (.iload_n 1, 1) := by decide +kernel
theorem d_Mo_arrives_198 : decode m_Mo_arrives.2.1 198 = .ok (.iload_n 2, 1) := by decide +kernel
theorem d_Mo_arrives_199 : decode m_Mo_arrives.2.1 199 = .ok (.iload 4, 2) := by decide +kernel
theorem d_Mo_arrives_201 : decode m_Mo_arrives.2.1 201 = .ok (.iadd, 1) := by decide +kernel
theorem d_Mo_arrives_202 : decode m_Mo_arrives.2.1 202 = .ok (.iastore, 1) := by decide +kernel
theorem d_Mo_arrives_203 : decode m_Mo_arrives.2.1 203 = .ok (.aload_n 0, 1) := by decide +kernel
theorem d_Mo_arrives_204 : decode m_Mo_arrives.2.1 204 = .ok (.iload_n 1, 1) := by decide +kernel
theorem d_Mo_arrives_205 : decode m_Mo_arrives.2.1 205 = .ok (.iload_n 2, 1) := by decide +kernel
theorem d_Mo_arrives_206 : decode m_Mo_arrives.2.1 206 = .ok (.iload 4, 2) := by decide +kernel
theorem d_Mo_arrives_208 : decode m_Mo_arrives.2.1 208 = .ok (.iadd, 1) := by decide +kernel
theorem d_Mo_arrives_209 : decode m_Mo_arrives.2.1 209 = .ok (.invokevirtual 391, 3) := by decide +kernel
theorem d_Mo_arrives_212 : decode m_Mo_arrives.2.1 212 = .ok (.return_, 1) := by decide +kernel
theorem d_Mo_where_0 : decode m_Mo_where.2.1 0 = .ok (.aload_n 0, 1) := by decide +kernel
theorem d_Mo_where_1 : decode m_Mo_where.2.1 1 = .ok (.iconst 0, 1) := by decide +kernel
theorem d_Mo_where_2 : decode m_Mo_where.2.1 2 = .ok (.putfield 160, 3) := by decide +kernel
theorem d_Mo_where_5 : decode m_Mo_where.2.1 5 = .ok (.aload_n 0, 1) := by decide +kernel
theorem d_Mo_where_6 : decode m_Mo_where.2.1 6 = .ok (.iload_n 1, 1) := by decide +kernel
theorem d_Mo_where_7 : decode m_Mo_where.2.1 7 = .ok (.invokevirtual 317, 3) := by decide +kernel
theorem d_Mo_where_10 : decode m_Mo_where.2.1 10 = .ok (.ifCond .eq 10, 3) := by decide +kernel
theorem d_Mo_where_13 : decode m_Mo_where.2.1 13 = .ok (.iload_n 2, 1) := by decide +kernel
theorem d_Mo_where_14 : decode m_Mo_where.2.1 14 = .ok (.invokestatic 363, 3) := by decide +kernel
theorem d_Mo_where_17 : decode m_Mo_where.2.1 17 = .ok (.ifCond .ne 5, 3) := by decide +kernel
theorem d_Mo_where_20 : decode m_Mo_where.2.1 20 = .ok (.iconst (-1), 1) := by decide +kernel
theorem d_Mo_where_21 : decode m_Mo_where.2.1 21 = .ok (.ireturn, 1) := by decide +kernel
theorem d_Mo_where_22 : decode m_Mo_where.2.1 22 = .ok (.aload_n 0, 1) := by decide +kernel
theorem d_Mo_where_23 : decode m_Mo_where.2.1 23 = .ok (.invokevirtual 406, 3) := by decide +kernel
theorem d_Mo_where_26 : decode m_Mo_where.2.1 26 = .ok (.aload_n 0, 1) := by decide +kernel
theorem d_Mo_where_27 : decode m_Mo_where.2.1 27 = .ok (.iload_n 2, 1) := by decide +kernel
theorem d_Mo_where_28 : decode m_Mo_where.2.1 28 = .ok (.invokevirtual 409, 3) := by decide +kernel
theorem d_Mo_where_31 : decode m_Mo_where.2.1 31 = .ok (.aload_n 0, 1) := by decide +kernel
theorem d_Mo_where_32 : decode m_Mo_where.2.1 32 = .ok (.getfield 118, 3) := by decide +kernel
theorem d_Mo_where_35 : decode m_Mo_where.2.1 35 = .ok (.iload_n 1, 1) := by decide +kernel
theorem d_Mo_where_36 : decode m_Mo_where.2.1 36 = .ok (.iaload, 1) := by decide +kernel
theorem d_Mo_where_37 : decode m_Mo_where.2.1 37 = .ok (.ireturn, 1) := by decide +kernel
theorem d_Mo_gain_0 : decode m_Mo_gain.2.1 0 = .ok (.aload_n 0, 1) := by decide +kernel
theorem d_Mo_gain_1 : decode m_Mo_gain.2.1 1 = .ok (.iconst 0, 1) := by decide +kernel
theorem d_Mo_gain_2 : decode m_Mo_gain.2.1 2 = .ok (.putfield 160, 3) := by decide +kernel
theorem d_Mo_gain_5 : decode m_Mo_gain.2.1 5 = .ok (.aload_n 0, 1) := by decide +kernel
theorem d_Mo_gain_6 : decode m_Mo_gain.2.1 6 = .ok (.invokevirtual 428, 3) := by decide +kernel
theorem d_Mo_gain_9 : decode m_Mo_gain.2.1 9 = .ok (.ireturn, 1) := by decide +kernel
theorem d_Mo_gainAsIs_0 : decode m_Mo_gainAsIs.2.1 0 = .ok (.aload_n 0, 1) := by decide +kernel
theorem d_Mo_gainAsIs_1 : decode m_Mo_gainAsIs.2.1 1 = .ok (.invokevirtual 406, 3) := by decide +kernel
theorem d_Mo_gainAsIs_4 : decode m_Mo_gainAsIs.2.1 4 = .ok (.aload_n 0, 1) := by decide +kernel
theorem d_Mo_gainAsIs_5 : decode m_Mo_gainAsIs.2.1 5 = .ok (.sipush 240, 3) := by decide +kernel
theorem d_Mo_gainAsIs_8 : decode m_Mo_gainAsIs.2.1 8 = .ok (.invokevirtual 409, 3) := by decide +kernel
theorem d_Mo_gainAsIs_11 : decode m_Mo_gainAsIs.2.1 11 = .ok (.aload_n 0, 1) := by decide +kernel
theorem d_Mo_gainAsIs_12 : decode m_Mo_gainAsIs.2.1 12 = .ok (.invokevirtual 412, 3) := by decide +kernel
theorem d_Mo_gainAsIs_15 : decode m_Mo_gainAsIs.2.1 15 = .ok (.ireturn, 1) := by decide +kernel
theorem d_Mo_gains_0 : decode m_Mo_gains.2.1 0 = .ok (.iconst 0, 1) := by decide +kernel
theorem d_Mo_gains_1 : decode m_Mo_gains.2.1 1 = .ok (.istore_n 1, 1) := by decide +kernel
theorem d_Mo_gains_2 : decode m_Mo_gains.2.1 2 = .ok (.iconst 0, 1) := by decide +kernel
theorem d_Mo_gains_3 : decode m_Mo_gains.2.1 3 = .ok (.istore_n 2, 1) := by decide +kernel
theorem d_Mo_gains_4 : decode m_Mo_gains.2.1 4 = .ok (.iload_n 2, 1) := by decide +kernel
theorem d_Mo_gains_5 : decode m_Mo_gains.2.1 5 = .ok (.aload_n 0, 1) := by decide +kernel
theorem d_Mo_gains_6 : decode m_Mo_gains.2.1 6 = .ok (.getfield 13, 3) := by decide +kernel
theorem d_Mo_gains_9 : decode m_Mo_gains.2.1 9 = .ok (.iconst 0, 1) := by decide +kernel
theorem d_Mo_gains_10 : decode m_Mo_gains.2.1 10 = .ok (.iaload, 1) := by decide +kernel
theorem d_Mo_gains_11 : decode m_Mo_gains.2.1 11 = .ok (.if_icmp .ge 17, 3) := by decide +kernel
theorem d_Mo_gains_14 : decode m_Mo_gains.2.1 14 = .ok (.iload_n 1, 1) := by decide +kernel
theorem d_Mo_gains_15 : decode m_Mo_gains.2.1 15 = .ok (.aload_n 0, 1) := by decide +kernel
theorem d_Mo_gains_16 : decode m_Mo_gains.2.1 16 = .ok (.iload_n 2, 1) := by decide +kernel
theorem d_Mo_gains_17 : decode m_Mo_gains.2.1 17 = .ok (.invokevirtual 403, 3) := by decide +kernel
theorem d_Mo_gains_20 : decode m_Mo_gains.2.1 20 = .ok (.iadd, 1) := by decide +kernel
theorem d_Mo_gains_21 : decode m_Mo_gains.2.1 21 = .ok (.istore_n 1, 1) := by decide +kernel
theorem d_Mo_gains_22 : decode m_Mo_gains.2.1 22 = .ok (.iinc 2 1, 3) := by decide +kernel
theorem d_Mo_gains_25 : decode m_Mo_gains.2.1 25 = .ok (.goto (-21), 3) := by decide +kernel
theorem d_Mo_gains_28 : decode m_Mo_gains.2.1 28 = .ok (.iload_n 1, 1) := by decide +kernel
theorem d_Mo_gains_29 : decode m_Mo_gains.2.1 29 = .ok (.ireturn, 1) := by decide +kernel
theorem d_Mo_gainOf_0 : decode m_Mo_gainOf.2.1 0 = .ok (.aload_n 0, 1) := by decide +kernel
theorem d_Mo_gainOf_1 : decode m_Mo_gainOf.2.1 1 = .ok (.getfield 127, 3) := by decide +kernel
theorem d_Mo_gainOf_4 : decode m_Mo_gainOf.2.1 4 = .ok (.iload_n 1, 1) := by decide +kernel
theorem d_Mo_gainOf_5 : decode m_Mo_gainOf.2.1 5 = .ok (.iaload, 1) := by decide +kernel
theorem d_Mo_gainOf_6 : decode m_Mo_gainOf.2.1 6 = .ok (.iconst (-1), 1) := by decide +kernel
theorem d_Mo_gainOf_7 : decode m_Mo_gainOf.2.1 7 = .ok (.if_icmp .eq 29, 3) := by decide +kernel
theorem d_Mo_gainOf_10 : decode m_Mo_gainOf.2.1 10 = .ok (.aload_n 0, 1) := by decide +kernel
theorem d_Mo_gainOf_11 : decode m_Mo_gainOf.2.1 11 = .ok (.getfield 127, 3) := by decide +kernel
theorem d_Mo_gainOf_14 : decode m_Mo_gainOf.2.1 14 = .ok (.iload_n 1, 1) := by decide +kernel
theorem d_Mo_gainOf_15 : decode m_Mo_gainOf.2.1 15 = .ok (.iaload, 1) := by decide +kernel
theorem d_Mo_gainOf_16 : decode m_Mo_gainOf.2.1 16 = .ok (.bipush (-3), 2) := by decide +kernel
theorem d_Mo_gainOf_18 : decode m_Mo_gainOf.2.1 18 = .ok (.if_icmp .eq 18, 3) := by decide +kernel
theorem d_Mo_gainOf_21 : decode m_Mo_gainOf.2.1 21 = .ok (.aload_n 0, 1) := by decide +kernel
theorem d_Mo_gainOf_22 : decode m_Mo_gainOf.2.1 22 = .ok (.getfield 130, 3) := by decide +kernel
theorem d_Mo_gainOf_25 : decode m_Mo_gainOf.2.1 25 = .ok (.iload_n 1, 1) := by decide +kernel
theorem d_Mo_gainOf_26 : decode m_Mo_gainOf.2.1 26 = .ok (.iaload, 1) := by decide +kernel
theorem d_Mo_gainOf_27 : decode m_Mo_gainOf.2.1 27 = .ok (.aload_n 0, 1) := by decide +kernel

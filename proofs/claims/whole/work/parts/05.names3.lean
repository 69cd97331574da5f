theorem dX6_init_0 : decode cX6_init 0 = .ok (.aload_n 0, 1) := by decide +kernel
theorem dX6_init_1 : decode cX6_init 1 = .ok (.invokespecial 1, 3) := by decide +kernel
theorem dX6_init_4 : decode cX6_init 4 = .ok (.aload_n 0, 1) := by decide +kernel
theorem dX6_init_5 : decode cX6_init 5 = .ok (.sipush 222, 3) := by decide +kernel
theorem dX6_init_8 : decode cX6_init 8 = .ok (.newarray .int, 2) := by decide +kernel
theorem dX6_init_10 : decode cX6_init 10 = .ok (.putfield 7, 3) := by decide +kernel
theorem dX6_init_13 : decode cX6_init 13 = .ok (.aload_n 0, 1) := by decide +kernel
theorem dX6_init_14 : decode cX6_init 14 = .ok (.bipush 37, 2) := by decide +kernel
theorem dX6_init_16 : decode cX6_init 16 = .ok (.newarray .int, 2) := by decide +kernel
theorem dX6_init_18 : decode cX6_init 18 = .ok (.putfield 13, 3) := by decide +kernel
theorem dX6_init_21 : decode cX6_init 21 = .ok (.aload_n 0, 1) := by decide +kernel
theorem dX6_init_22 : decode cX6_init 22 = .ok (.sipush 160, 3) := by decide +kernel
theorem dX6_init_25 : decode cX6_init 25 = .ok (.newarray .int, 2) := by decide +kernel
theorem dX6_init_27 : decode cX6_init 27 = .ok (.putfield 16, 3) := by decide +kernel
theorem dX6_init_30 : decode cX6_init 30 = .ok (.aload_n 0, 1) := by decide +kernel
theorem dX6_init_31 : decode cX6_init 31 = .ok (.bipush 7, 2) := by decide +kernel
theorem dX6_init_33 : decode cX6_init 33 = .ok (.newarray .int, 2) := by decide +kernel
theorem dX6_init_35 : decode cX6_init 35 = .ok (.dup, 1) := by decide +kernel
theorem dX6_init_36 : decode cX6_init 36 = .ok (.iconst 0, 1) := by decide +kernel
theorem dX6_init_37 : decode cX6_init 37 = .ok (.iconst 0, 1) := by decide +kernel
theorem dX6_init_38 : decode cX6_init 38 = .ok (.iastore, 1) := by decide +kernel
theorem dX6_init_39 : decode cX6_init 39 = .ok (.dup, 1) := by decide +kernel
theorem dX6_init_40 : decode cX6_init 40 = .ok (.iconst 1, 1) := by decide +kernel
theorem dX6_init_41 : decode cX6_init 41 = .ok (.iconst 5, 1) := by decide +kernel
theorem dX6_init_42 : decode cX6_init 42 = .ok (.iastore, 1) := by decide +kernel
theorem dX6_init_43 : decode cX6_init 43 = .ok (.dup, 1) := by decide +kernel
theorem dX6_init_44 : decode cX6_init 44 = .ok (.iconst 2, 1) := by decide +kernel
theorem dX6_init_45 : decode cX6_init 45 = .ok (.bipush 11, 2) := by decide +kernel
theorem dX6_init_47 : decode cX6_init 47 = .ok (.iastore, 1) := by decide +kernel
theorem dX6_init_48 : decode cX6_init 48 = .ok (.dup, 1) := by decide +kernel
theorem dX6_init_49 : decode cX6_init 49 = .ok (.iconst 3, 1) := by decide +kernel
theorem dX6_init_50 : decode cX6_init 50 = .ok (.bipush 16, 2) := by decide +kernel
theorem dX6_init_52 : decode cX6_init 52 = .ok (.iastore, 1) := by decide +kernel
theorem dX6_init_53 : decode cX6_init 53 = .ok (.dup, 1) := by decide +kernel
theorem dX6_init_54 : decode cX6_init 54 = .ok (.iconst 4, 1) := by decide +kernel
theorem dX6_init_55 : decode cX6_init 55 = .ok (.bipush 20, 2) := by decide +kernel
theorem dX6_init_57 : decode cX6_init 57 = .ok (.iastore, 1) := by decide +kernel
theorem dX6_init_58 : decode cX6_init 58 = .ok (.dup, 1) := by decide +kernel
theorem dX6_init_59 : decode cX6_init 59 = .ok (.iconst 5, 1) := by decide +kernel
theorem dX6_init_60 : decode cX6_init 60 = .ok (.bipush 22, 2) := by decide +kernel
theorem dX6_init_62 : decode cX6_init 62 = .ok (.iastore, 1) := by decide +kernel
theorem dX6_init_63 : decode cX6_init 63 = .ok (.dup, 1) := by decide +kernel
theorem dX6_init_64 : decode cX6_init 64 = .ok (.bipush 6, 2) := by decide +kernel
theorem dX6_init_66 : decode cX6_init 66 = .ok (.bipush 26, 2) := by decide +kernel
theorem dX6_init_68 : decode cX6_init 68 = .ok (.iastore, 1) := by decide +kernel
theorem dX6_init_69 : decode cX6_init 69 = .ok (.putfield 19, 3) := by decide +kernel
theorem dX6_init_72 : decode cX6_init 72 = .ok (.aload_n 0, 1) := by decide +kernel
theorem dX6_init_73 : decode cX6_init 73 = .ok (.bipush 26, 2) := by decide +kernel
theorem dX6_init_75 : decode cX6_init 75 = .ok (.newarray .int, 2) := by decide +kernel
theorem dX6_init_77 : decode cX6_init 77 = .ok (.dup, 1) := by decide +kernel
theorem dX6_init_78 : decode cX6_init 78 = .ok (.iconst 0, 1) := by decide +kernel
theorem dX6_init_79 : decode cX6_init 79 = .ok (.bipush 112, 2) := by decide +kernel
theorem dX6_init_81 : decode cX6_init 81 = .ok (.iastore, 1) := by decide +kernel
theorem dX6_init_82 : decode cX6_init 82 = .ok (.dup, 1) := by decide +kernel
theorem dX6_init_83 : decode cX6_init 83 = .ok (.iconst 1, 1) := by decide +kernel
theorem dX6_init_84 : decode cX6_init 84 = .ok (.bipush 108, 2) := by decide +kernel
theorem dX6_init_86 : decode cX6_init 86 = .ok (.iastore, 1) := by decide +kernel
theorem dX6_init_87 : decode cX6_init 87 = .ok (.dup, 1) := by decide +kernel
theorem dX6_init_88 : decode cX6_init 88 = .ok (.iconst 2, 1) := by decide +kernel
theorem dX6_init_89 : decode cX6_init 89 = .ok (.bipush 97, 2) := by decide +kernel
theorem dX6_init_91 : decode cX6_init 91 = .ok (.iastore, 1) := by decide +kernel
theorem dX6_init_92 : decode cX6_init 92 = .ok (.dup, 1) := by decide +kernel
theorem dX6_init_93 : decode cX6_init 93 = .ok (.iconst 3, 1) := by decide +kernel
theorem dX6_init_94 : decode cX6_init 94 = .ok (.bipush 105, 2) := by decide +kernel
theorem dX6_init_96 : decode cX6_init 96 = .ok (.iastore, 1) := by decide +kernel
theorem dX6_init_97 : decode cX6_init 97 = .ok (.dup, 1) := by decide +kernel
theorem dX6_init_98 : decode cX6_init 98 = .ok (.iconst 4, 1) := by decide +kernel
theorem dX6_init_99 : decode cX6_init 99 = .ok (.bipush 110, 2) := by decide +kernel
theorem dX6_init_101 : decode cX6_init 101 = .ok (.iastore, 1) := by decide +kernel
theorem dX6_init_102 : decode cX6_init 102 = .ok (.dup, 1) := by decide +kernel
theorem dX6_init_103 : decode cX6_init 103 = .ok (.iconst 5, 1) := by decide +kernel
theorem dX6_init_104 : decode cX6_init 104 = .ok (.bipush 99, 2) := by decide +kernel
theorem dX6_init_106 : decode cX6_init 106 = .ok (.iastore, 1) := by decide +kernel
theorem dX6_init_107 : decode cX6_init 107 = .ok (.dup, 1) := by decide +kernel
theorem dX6_init_108 : decode cX6_init 108 = .ok (.bipush 6, 2) := by decide +kernel
theorem dX6_init_110 : decode cX6_init 110 = .ok (.bipush 111, 2) := by decide +kernel
theorem dX6_init_112 : decode cX6_init 112 = .ok (.iastore, 1) := by decide +kernel
theorem dX6_init_113 : decode cX6_init 113 = .ok (.dup, 1) := by decide +kernel
theorem dX6_init_114 : decode cX6_init 114 = .ok (.bipush 7, 2) := by decide +kernel
theorem dX6_init_116 : decode cX6_init 116 = .ok (.bipush 97, 2) := by decide +kernel
theorem dX6_init_118 : decode cX6_init 118 = .ok (.iastore, 1) := by decide +kernel
theorem dX6_init_119 : decode cX6_init 119 = .ok (.dup, 1) := by decide +kernel
theorem dX6_init_120 : decode cX6_init 120 = .ok (.bipush 8, 2) := by decide +kernel
theorem dX6_init_122 : decode cX6_init 122 = .ok (.bipush 114, 2) := by decide +kernel
theorem dX6_init_124 : decode cX6_init 124 = .ok (.iastore, 1) := by decide +kernel
theorem dX6_init_125 : decode cX6_init 125 = .ok (.dup, 1) := by decide +kernel
theorem dX6_init_126 : decode cX6_init 126 = .ok (.bipush 9, 2) := by decide +kernel
theorem dX6_init_128 : decode cX6_init 128 = .ok (.bipush 115, 2) := by decide +kernel
theorem dX6_init_130 : decode cX6_init 130 = .ok (.iastore, 1) := by decide +kernel
theorem dX6_init_131 : decode cX6_init 131 = .ok (.dup, 1) := by decide +kernel
theorem dX6_init_132 : decode cX6_init 132 = .ok (.bipush 10, 2) := by decide +kernel
theorem dX6_init_134 : decode cX6_init 134 = .ok (.bipush 101, 2) := by decide +kernel
theorem dX6_init_136 : decode cX6_init 136 = .ok (.iastore, 1) := by decide +kernel
theorem dX6_init_137 : decode cX6_init 137 = .ok (.dup, 1) := by decide +kernel
theorem dX6_init_138 : decode cX6_init 138 = .ok (.bipush 11, 2) := by decide +kernel
theorem dX6_init_140 : decode cX6_init 140 = .ok (.bipush 115, 2) := by decide +kernel
theorem dX6_init_142 : decode cX6_init 142 = .ok (.iastore, 1) := by decide +kernel
theorem dX6_init_143 : decode cX6_init 143 = .ok (.dup, 1) := by decide +kernel
theorem dX6_init_144 : decode cX6_init 144 = .ok (.bipush 12, 2) := by decide +kernel
theorem dX6_init_146 : decode cX6_init 146 = .ok (.bipush 116, 2) := by decide +kernel
theorem dX6_init_148 : decode cX6_init 148 = .ok (.iastore, 1) := by decide +kernel
theorem dX6_init_149 : decode cX6_init 149 = .ok (.dup, 1) := by decide +kernel
theorem dX6_init_150 : decode cX6_init 150 = .ok (.bipush 13, 2) := by decide +kernel
theorem dX6_init_152 : decode cX6_init 152 = .ok (.bipush 105, 2) := by decide +kernel
theorem dX6_init_154 : decode cX6_init 154 = .ok (.iastore, 1) := by decide +kernel
theorem dX6_init_155 : decode cX6_init 155 = .ok (.dup, 1) := by decide +kernel
theorem dX6_init_156 : decode cX6_init 156 = .ok (.bipush 14, 2) := by decide +kernel
theorem dX6_init_158 : decode cX6_init 158 = .ok (.bipush 99, 2) := by decide +kernel
theorem dX6_init_160 : decode cX6_init 160 = .ok (.iastore, 1) := by decide +kernel
theorem dX6_init_161 : decode cX6_init 161 = .ok (.dup, 1) := by decide +kernel
theorem dX6_init_162 : decode cX6_init 162 = .ok (.bipush 15, 2) := by decide +kernel
theorem dX6_init_164 : decode cX6_init 164 = .ok (.bipush 107, 2) := by decide +kernel
theorem dX6_init_166 : decode cX6_init 166 = .ok (.iastore, 1) := by decide +kernel
theorem dX6_init_167 : decode cX6_init 167 = .ok (.dup, 1) := by decide +kernel
theorem dX6_init_168 : decode cX6_init 168 = .ok (.bipush 16, 2) := by decide +kernel
theorem dX6_init_170 : decode cX6_init 170 = .ok (.bipush 102, 2) := by decide +kernel
theorem dX6_init_172 : decode cX6_init 172 = .ok (.iastore, 1) := by decide +kernel
theorem dX6_init_173 : decode cX6_init 173 = .ok (.dup, 1) := by decide +kernel
theorem dX6_init_174 : decode cX6_init 174 = .ok (.bipush 17, 2) := by decide +kernel
theorem dX6_init_176 : decode cX6_init 176 = .ok (.bipush 114, 2) := by decide +kernel
theorem dX6_init_178 : decode cX6_init 178 = .ok (.iastore, 1) := by decide +kernel
theorem dX6_init_179 : decode cX6_init 179 = .ok (.dup, 1) := by decide +kernel
theorem dX6_init_180 : decode cX6_init 180 = .ok (.bipush 18, 2) := by decide +kernel
theorem dX6_init_182 : decode cX6_init 182 = .ok (.bipush 101, 2) := by decide +kernel
theorem dX6_init_184 : decode cX6_init 184 = .ok (.iastore, 1) := by decide +kernel
theorem dX6_init_185 : decode cX6_init 185 = .ok (.dup, 1) := by decide +kernel
theorem dX6_init_186 : decode cX6_init 186 = .ok (.bipush 19, 2) := by decide +kernel
theorem dX6_init_188 : decode cX6_init 188 = .ok (.bipush 101, 2) := by decide +kernel
theorem dX6_init_190 : decode cX6_init 190 = .ok (.iastore, 1) := by decide +kernel
theorem dX6_init_191 : decode cX6_init 191 = .ok (.dup, 1) := by decide +kernel
theorem dX6_init_192 : decode cX6_init 192 = .ok (.bipush 20, 2) := by decide +kernel
theorem dX6_init_194 : decode cX6_init 194 = .ok (.bipush 97, 2) := by decide +kernel
theorem dX6_init_196 : decode cX6_init 196 = .ok (.iastore, 1) := by decide +kernel
theorem dX6_init_197 : decode cX6_init 197 = .ok (.dup, 1) := by decide +kernel
theorem dX6_init_198 : decode cX6_init 198 = .ok (.bipush 21, 2) := by decide +kernel
theorem dX6_init_200 : decode cX6_init 200 = .ok (.bipush 116, 2) := by decide +kernel
theorem dX6_init_202 : decode cX6_init 202 = .ok (.iastore, 1) := by decide +kernel
theorem dX6_init_203 : decode cX6_init 203 = .ok (.dup, 1) := by decide +kernel
theorem dX6_init_204 : decode cX6_init 204 = .ok (.bipush 22, 2) := by decide +kernel
theorem dX6_init_206 : decode cX6_init 206 = .ok (.bipush 112, 2) := by decide +kernel
theorem dX6_init_208 : decode cX6_init 208 = .ok (.iastore, 1) := by decide +kernel
theorem dX6_init_209 : decode cX6_init 209 = .ok (.dup, 1) := by decide +kernel
theorem dX6_init_210 : decode cX6_init 210 = .ok (.bipush 23, 2) := by decide +kernel
theorem dX6_init_212 : decode cX6_init 212 = .ok (.bipush 111, 2) := by decide +kernel
theorem dX6_init_214 : decode cX6_init 214 = .ok (.iastore, 1) := by decide +kernel
theorem dX6_init_215 : decode cX6_init 215 = .ok (.dup, 1) := by decide +kernel
theorem dX6_init_216 : decode cX6_init 216 = .ok (.bipush 24, 2) := by decide +kernel
theorem dX6_init_218 : decode cX6_init 218 = .ok (.bipush 108, 2) := by decide +kernel
theorem dX6_init_220 : decode cX6_init 220 = .ok (.iastore, 1) := by decide +kernel
theorem dX6_init_221 : decode cX6_init 221 = .ok (.dup, 1) := by decide +kernel
theorem dX6_init_222 : decode cX6_init 222 = .ok (.bipush 25, 2) := by decide +kernel
theorem dX6_init_224 : decode cX6_init 224 = .ok (.bipush 101, 2) := by decide +kernel
theorem dX6_init_226 : decode cX6_init 226 = .ok (.iastore, 1) := by decide +kernel
theorem dX6_init_227 : decode cX6_init 227 = .ok (.putfield 22, 3) := by decide +kernel
theorem dX6_init_230 : decode cX6_init 230 = .ok (.aload_n 0, 1) := by decide +kernel
theorem dX6_init_231 : decode cX6_init 231 = .ok (.bipush (-4), 2) := by decide +kernel
theorem dX6_init_233 : decode cX6_init 233 = .ok (.putfield 25, 3) := by decide +kernel
theorem dX6_init_236 : decode cX6_init 236 = .ok (.aload_n 0, 1) := by decide +kernel
theorem dX6_init_237 : decode cX6_init 237 = .ok (.bipush 18, 2) := by decide +kernel
theorem dX6_init_239 : decode cX6_init 239 = .ok (.newarray .int, 2) := by decide +kernel
theorem dX6_init_241 : decode cX6_init 241 = .ok (.putfield 29, 3) := by decide +kernel
theorem dX6_init_244 : decode cX6_init 244 = .ok (.aload_n 0, 1) := by decide +kernel
theorem dX6_init_245 : decode cX6_init 245 = .ok (.sipush 410, 3) := by decide +kernel
theorem dX6_init_248 : decode cX6_init 248 = .ok (.newarray .int, 2) := by decide +kernel
theorem dX6_init_250 : decode cX6_init 250 = .ok (.putfield 32, 3) := by decide +kernel
theorem dX6_init_253 : decode cX6_init 253 = .ok (.aload_n 0, 1) := by decide +kernel
theorem dX6_init_254 : decode cX6_init 254 = .ok (.iconst 2, 1) := by decide +kernel
theorem dX6_init_255 : decode cX6_init 255 = .ok (.newarray .boolean, 2) := by decide +kernel
theorem dX6_init_257 : decode cX6_init 257 = .ok (.putfield 35, 3) := by decide +kernel
theorem dX6_init_260 : decode cX6_init 260 = .ok (.aload_n 0, 1) := by decide +kernel
theorem dX6_init_261 : decode cX6_init 261 = .ok (.iconst 4, 1) := by decide +kernel
theorem dX6_init_262 : decode cX6_init 262 = .ok (.newarray .int, 2) := by decide +kernel
theorem dX6_init_264 : decode cX6_init 264 = .ok (.dup, 1) := by decide +kernel
theorem dX6_init_265 : decode cX6_init 265 = .ok (.iconst 0, 1) := by decide +kernel
theorem dX6_init_266 : decode cX6_init 266 = .ok (.bipush (-4), 2) := by decide +kernel
theorem dX6_init_268 : decode cX6_init 268 = .ok (.iastore, 1) := by decide +kernel
theorem dX6_init_269 : decode cX6_init 269 = .ok (.dup, 1) := by decide +kernel
theorem dX6_init_270 : decode cX6_init 270 = .ok (.iconst 1, 1) := by decide +kernel
theorem dX6_init_271 : decode cX6_init 271 = .ok (.bipush (-4), 2) := by decide +kernel
theorem dX6_init_273 : decode cX6_init 273 = .ok (.iastore, 1) := by decide +kernel
theorem dX6_init_274 : decode cX6_init 274 = .ok (.dup, 1) := by decide +kernel
theorem dX6_init_275 : decode cX6_init 275 = .ok (.iconst 2, 1) := by decide +kernel
theorem dX6_init_276 : decode cX6_init 276 = .ok (.bipush (-4), 2) := by decide +kernel
theorem dX6_init_278 : decode cX6_init 278 = .ok (.iastore, 1) := by decide +kernel
theorem dX6_init_279 : decode cX6_init 279 = .ok (.dup, 1) := by decide +kernel
theorem dX6_init_280 : decode cX6_init 280 = .ok (.iconst 3, 1) := by decide +kernel
theorem dX6_init_281 : decode cX6_init 281 = .ok (.bipush (-4), 2) := by decide +kernel
theorem dX6_init_283 : decode cX6_init 283 = .ok (.iastore, 1) := by decide +kernel
theorem dX6_init_284 : decode cX6_init 284 = .ok (.putfield 39, 3) := by decide +kernel
theorem dX6_init_287 : decode cX6_init 287 = .ok (.aload_n 0, 1) := by decide +kernel
theorem dX6_init_288 : decode cX6_init 288 = .ok (.iconst 4, 1) := by decide +kernel
theorem dX6_init_289 : decode cX6_init 289 = .ok (.newarray .int, 2) := by decide +kernel
theorem dX6_init_291 : decode cX6_init 291 = .ok (.putfield 42, 3) := by decide +kernel
theorem dX6_init_294 : decode cX6_init 294 = .ok (.aload_n 0, 1) := by decide +kernel
theorem dX6_init_295 : decode cX6_init 295 = .ok (.sipush 160, 3) := by decide +kernel
theorem dX6_init_298 : decode cX6_init 298 = .ok (.newarray .int, 2) := by decide +kernel
theorem dX6_init_300 : decode cX6_init 300 = .ok (.putfield 45, 3) := by decide +kernel
theorem dX6_init_303 : decode cX6_init 303 = .ok (.return_, 1) := by decide +kernel
theorem dX6_in_0 : decode cX6_in 0 = .ok (.lload_n 0, 1) := by decide +kernel
theorem dX6_in_1 : decode cX6_in 1 = .ok (.lload_n 2, 1) := by decide +kernel
theorem dX6_in_2 : decode cX6_in 2 = .ok (.lcmp, 1) := by decide +kernel
theorem dX6_in_3 : decode cX6_in 3 = .ok (.ifCond .lt 14, 3) := by decide +kernel
theorem dX6_in_6 : decode cX6_in 6 = .ok (.lload_n 0, 1) := by decide +kernel
theorem dX6_in_7 : decode cX6_in 7 = .ok (.lload 4, 2) := by decide +kernel
theorem dX6_in_9 : decode cX6_in 9 = .ok (.lcmp, 1) := by decide +kernel
theorem dX6_in_10 : decode cX6_in 10 = .ok (.ifCond .gt 7, 3) := by decide +kernel
theorem dX6_in_13 : decode cX6_in 13 = .ok (.iconst 1, 1) := by decide +kernel
theorem dX6_in_14 : decode cX6_in 14 = .ok (.goto 4, 3) := by decide +kernel
theorem dX6_in_17 : decode cX6_in 17 = .ok (.iconst 0, 1) := by decide +kernel
theorem dX6_in_18 : decode cX6_in 18 = .ok (.ireturn, 1) := by decide +kernel
theorem dX6_amount_0 : decode cX6_amount 0 = .ok (.iload_n 0, 1) := by decide +kernel
theorem dX6_amount_1 : decode cX6_amount 1 = .ok (.ifCond .ge 8, 3) := by decide +kernel
theorem dX6_amount_4 : decode cX6_amount 4 = .ok (.iload_n 0, 1) := by decide +kernel
theorem dX6_amount_5 : decode cX6_amount 5 = .ok (.ineg, 1) := by decide +kernel
theorem dX6_amount_6 : decode cX6_amount 6 = .ok (.goto 4, 3) := by decide +kernel
theorem dX6_amount_9 : decode cX6_amount 9 = .ok (.iload_n 0, 1) := by decide +kernel
theorem dX6_amount_10 : decode cX6_amount 10 = .ok (.ireturn, 1) := by decide +kernel
set_option maxRecDepth 20000 in
theorem ggX6_feed_X6_in : GoodIn wsX6_feed wsX6_in := goodIn_r _ [7] (by decide +kernel) (by decide +kernel)
set_option maxRecDepth 20000 in
theorem gX6_feed_X6_in : GoodIn wsX6_feed (va_wsS RX6 50 yX6_in wsX6_in) := goodIn_app (goodIn_of _ (by decide +kernel)) ggX6_feed_X6_in
theorem dX6_feed_0 : decode cX6_feed 0 = .ok (.iload_n 1, 1) := by decide +kernel
theorem dX6_feed_1 : decode cX6_feed 1 = .ok (.i2l, 1) := by decide +kernel
theorem dX6_feed_2 : decode cX6_feed 2 = .ok (.lconst 0, 1) := by decide +kernel
theorem dX6_feed_3 : decode cX6_feed 3 = .ok (.ldc2_w 48, 3) := by decide +kernel
theorem dX6_feed_6 : decode cX6_feed 6 = .ok (.invokestatic 50, 3) := by decide +kernel
theorem dX6_feed_9 : decode cX6_feed 9 = .ok (.ifCond .ne 5, 3) := by decide +kernel
theorem dX6_feed_12 : decode cX6_feed 12 = .ok (.iconst (-1), 1) := by decide +kernel
theorem dX6_feed_13 : decode cX6_feed 13 = .ok (.ireturn, 1) := by decide +kernel
theorem dX6_feed_14 : decode cX6_feed 14 = .ok (.aload_n 0, 1) := by decide +kernel
theorem dX6_feed_15 : decode cX6_feed 15 = .ok (.getfield 54, 3) := by decide +kernel
theorem dX6_feed_18 : decode cX6_feed 18 = .ok (.sipush 160, 3) := by decide +kernel
theorem dX6_feed_21 : decode cX6_feed 21 = .ok (.if_icmp .ne 6, 3) := by decide +kernel
theorem dX6_feed_24 : decode cX6_feed 24 = .ok (.bipush (-3), 2) := by decide +kernel
theorem dX6_feed_26 : decode cX6_feed 26 = .ok (.ireturn, 1) := by decide +kernel
theorem dX6_feed_27 : decode cX6_feed 27 = .ok (.aload_n 0, 1) := by decide +kernel
theorem dX6_feed_28 : decode cX6_feed 28 = .ok (.getfield 16, 3) := by decide +kernel
theorem dX6_feed_31 : decode cX6_feed 31 = .ok (.aload_n 0, 1) := by decide +kernel
theorem dX6_feed_32 : decode cX6_feed 32 = .ok (.getfield 54, 3) := by decide +kernel
theorem dX6_feed_35 : decode cX6_feed 35 = .ok (.iload_n 1, 1) := by decide +kernel
theorem dX6_feed_36 : decode cX6_feed 36 = .ok (.iastore, 1) := by decide +kernel
theorem dX6_feed_37 : decode cX6_feed 37 = .ok (.aload_n 0, 1) := by decide +kernel
theorem dX6_feed_38 : decode cX6_feed 38 = .ok (.dup, 1) := by decide +kernel
theorem dX6_feed_39 : decode cX6_feed 39 = .ok (.getfield 54, 3) := by decide +kernel
theorem dX6_feed_42 : decode cX6_feed 42 = .ok (.iconst 1, 1) := by decide +kernel
theorem dX6_feed_43 : decode cX6_feed 43 = .ok (.iadd, 1) := by decide +kernel
theorem dX6_feed_44 : decode cX6_feed 44 = .ok (.putfield 54, 3) := by decide +kernel
theorem dX6_feed_47 : decode cX6_feed 47 = .ok (.aload_n 0, 1) := by decide +kernel
theorem dX6_feed_48 : decode cX6_feed 48 = .ok (.getfield 54, 3) := by decide +kernel
theorem dX6_feed_51 : decode cX6_feed 51 = .ok (.ireturn, 1) := by decide +kernel
set_option maxRecDepth 20000 in
theorem ggX6_end_X6_in : GoodIn wsX6_end wsX6_in := goodIn_r _ [5] (by decide +kernel) (by decide +kernel)
set_option maxRecDepth 20000 in
theorem gX6_end_X6_in : GoodIn wsX6_end (va_wsS RX6 50 yX6_in wsX6_in) := goodIn_app (goodIn_of _ (by decide +kernel)) ggX6_end_X6_in
theorem dX6_end_0 : decode cX6_end 0 = .ok (.iload_n 1, 1) := by decide +kernel
theorem dX6_end_1 : decode cX6_end 1 = .ok (.i2l, 1) := by decide +kernel
theorem dX6_end_2 : decode cX6_end 2 = .ok (.lconst 0, 1) := by decide +kernel
theorem dX6_end_3 : decode cX6_end 3 = .ok (.aload_n 0, 1) := by decide +kernel
theorem dX6_end_4 : decode cX6_end 4 = .ok (.getfield 54, 3) := by decide +kernel
theorem dX6_end_7 : decode cX6_end 7 = .ok (.i2l, 1) := by decide +kernel
theorem dX6_end_8 : decode cX6_end 8 = .ok (.invokestatic 50, 3) := by decide +kernel
theorem dX6_end_11 : decode cX6_end 11 = .ok (.ifCond .ne 5, 3) := by decide +kernel
theorem dX6_end_14 : decode cX6_end 14 = .ok (.iconst (-1), 1) := by decide +kernel
theorem dX6_end_15 : decode cX6_end 15 = .ok (.ireturn, 1) := by decide +kernel
theorem dX6_end_16 : decode cX6_end 16 = .ok (.aload_n 0, 1) := by decide +kernel
theorem dX6_end_17 : decode cX6_end 17 = .ok (.getfield 54, 3) := by decide +kernel
theorem dX6_end_20 : decode cX6_end 20 = .ok (.istore_n 2, 1) := by decide +kernel
theorem dX6_end_21 : decode cX6_end 21 = .ok (.aload_n 0, 1) := by decide +kernel
theorem dX6_end_22 : decode cX6_end 22 = .ok (.iload_n 1, 1) := by decide +kernel
theorem dX6_end_23 : decode cX6_end 23 = .ok (.putfield 54, 3) := by decide +kernel
theorem dX6_end_26 : decode cX6_end 26 = .ok (.iload_n 2, 1) := by decide +kernel
theorem dX6_end_27 : decode cX6_end 27 = .ok (.ireturn, 1) := by decide +kernel
theorem dX6_byteAt_0 : decode cX6_byteAt 0 = .ok (.iload_n 1, 1) := by decide +kernel
theorem dX6_byteAt_1 : decode cX6_byteAt 1 = .ok (.aload_n 0, 1) := by decide +kernel
theorem dX6_byteAt_2 : decode cX6_byteAt 2 = .ok (.getfield 54, 3) := by decide +kernel
theorem dX6_byteAt_5 : decode cX6_byteAt 5 = .ok (.if_icmp .ge 12, 3) := by decide +kernel
theorem dX6_byteAt_8 : decode cX6_byteAt 8 = .ok (.aload_n 0, 1) := by decide +kernel
theorem dX6_byteAt_9 : decode cX6_byteAt 9 = .ok (.getfield 16, 3) := by decide +kernel
theorem dX6_byteAt_12 : decode cX6_byteAt 12 = .ok (.iload_n 1, 1) := by decide +kernel
theorem dX6_byteAt_13 : decode cX6_byteAt 13 = .ok (.iaload, 1) := by decide +kernel
theorem dX6_byteAt_14 : decode cX6_byteAt 14 = .ok (.goto 5, 3) := by decide +kernel
theorem dX6_byteAt_17 : decode cX6_byteAt 17 = .ok (.bipush (-4), 2) := by decide +kernel
theorem dX6_byteAt_19 : decode cX6_byteAt 19 = .ok (.ireturn, 1) := by decide +kernel
theorem dX6_fails_0 : decode cX6_fails 0 = .ok (.aload_n 0, 1) := by decide +kernel
theorem dX6_fails_1 : decode cX6_fails 1 = .ok (.getfield 57, 3) := by decide +kernel
theorem dX6_fails_4 : decode cX6_fails 4 = .ok (.ifCond .ne 16, 3) := by decide +kernel
theorem dX6_fails_7 : decode cX6_fails 7 = .ok (.aload_n 0, 1) := by decide +kernel
theorem dX6_fails_8 : decode cX6_fails 8 = .ok (.iload_n 1, 1) := by decide +kernel
theorem dX6_fails_9 : decode cX6_fails 9 = .ok (.putfield 57, 3) := by decide +kernel
theorem dX6_fails_12 : decode cX6_fails 12 = .ok (.aload_n 0, 1) := by decide +kernel
theorem dX6_fails_13 : decode cX6_fails 13 = .ok (.aload_n 0, 1) := by decide +kernel
theorem dX6_fails_14 : decode cX6_fails 14 = .ok (.getfield 60, 3) := by decide +kernel
theorem dX6_fails_17 : decode cX6_fails 17 = .ok (.putfield 63, 3) := by decide +kernel
theorem dX6_fails_20 : decode cX6_fails 20 = .ok (.return_, 1) := by decide +kernel
set_option maxRecDepth 20000 in
theorem ggX6_nameHere_X6_byteAt : GoodIn wsX6_nameHere wsX6_byteAt := goodIn_r _ [10, 11, 12, 13, 14, 15, 16, 17, 18, 19, 20, 21, 22, 23, 24, 25, 26, 27, 28, 29, 30, 31, 32, 33, 34, 35, 36, 37, 38] (by decide +kernel) (by decide +kernel)
set_option maxRecDepth 20000 in
theorem gX6_nameHere_X6_byteAt : GoodIn wsX6_nameHere (wsV RX6 72 RX6 yX6_byteAt wsX6_byteAt) := goodIn_app (goodIn_of _ (by decide +kernel)) ggX6_nameHere_X6_byteAt
theorem dX6_nameHere_0 : decode cX6_nameHere 0 = .ok (.iconst 0, 1) := by decide +kernel
theorem dX6_nameHere_1 : decode cX6_nameHere 1 = .ok (.istore_n 1, 1) := by decide +kernel
theorem dX6_nameHere_2 : decode cX6_nameHere 2 = .ok (.iload_n 1, 1) := by decide +kernel
theorem dX6_nameHere_3 : decode cX6_nameHere 3 = .ok (.bipush 6, 2) := by decide +kernel
theorem dX6_nameHere_5 : decode cX6_nameHere 5 = .ok (.if_icmp .ge 113, 3) := by decide +kernel
theorem dX6_nameHere_8 : decode cX6_nameHere 8 = .ok (.aload_n 0, 1) := by decide +kernel
theorem dX6_nameHere_9 : decode cX6_nameHere 9 = .ok (.getfield 66, 3) := by decide +kernel
theorem dX6_nameHere_12 : decode cX6_nameHere 12 = .ok (.iconst 1, 1) := by decide +kernel
theorem dX6_nameHere_13 : decode cX6_nameHere 13 = .ok (.if_icmp .ne 105, 3) := by decide +kernel
theorem dX6_nameHere_16 : decode cX6_nameHere 16 = .ok (.aload_n 0, 1) := by decide +kernel
theorem dX6_nameHere_17 : decode cX6_nameHere 17 = .ok (.getfield 69, 3) := by decide +kernel
theorem dX6_nameHere_20 : decode cX6_nameHere 20 = .ok (.aload_n 0, 1) := by decide +kernel
theorem dX6_nameHere_21 : decode cX6_nameHere 21 = .ok (.getfield 60, 3) := by decide +kernel
theorem dX6_nameHere_24 : decode cX6_nameHere 24 = .ok (.isub, 1) := by decide +kernel
theorem dX6_nameHere_25 : decode cX6_nameHere 25 = .ok (.aload_n 0, 1) := by decide +kernel
theorem dX6_nameHere_26 : decode cX6_nameHere 26 = .ok (.getfield 19, 3) := by decide +kernel
theorem dX6_nameHere_29 : decode cX6_nameHere 29 = .ok (.iload_n 1, 1) := by decide +kernel
theorem dX6_nameHere_30 : decode cX6_nameHere 30 = .ok (.iconst 1, 1) := by decide +kernel
theorem dX6_nameHere_31 : decode cX6_nameHere 31 = .ok (.iadd, 1) := by decide +kernel
theorem dX6_nameHere_32 : decode cX6_nameHere 32 = .ok (.iaload, 1) := by decide +kernel
theorem dX6_nameHere_33 : decode cX6_nameHere 33 = .ok (.aload_n 0, 1) := by decide +kernel
theorem dX6_nameHere_34 : decode cX6_nameHere 34 = .ok (.getfield 19, 3) := by decide +kernel
theorem dX6_nameHere_37 : decode cX6_nameHere 37 = .ok (.iload_n 1, 1) := by decide +kernel
theorem dX6_nameHere_38 : decode cX6_nameHere 38 = .ok (.iaload, 1) := by decide +kernel
theorem dX6_nameHere_39 : decode cX6_nameHere 39 = .ok (.isub, 1) := by decide +kernel
theorem dX6_nameHere_40 : decode cX6_nameHere 40 = .ok (.if_icmp .ne 7, 3) := by decide +kernel
theorem dX6_nameHere_43 : decode cX6_nameHere 43 = .ok (.iconst 1, 1) := by decide +kernel
theorem dX6_nameHere_44 : decode cX6_nameHere 44 = .ok (.goto 4, 3) := by decide +kernel
theorem dX6_nameHere_47 : decode cX6_nameHere 47 = .ok (.iconst 0, 1) := by decide +kernel
theorem dX6_nameHere_48 : decode cX6_nameHere 48 = .ok (.istore_n 2, 1) := by decide +kernel
theorem dX6_nameHere_49 : decode cX6_nameHere 49 = .ok (.iconst 0, 1) := by decide +kernel
theorem dX6_nameHere_50 : decode cX6_nameHere 50 = .ok (.istore_n 3, 1) := by decide +kernel
theorem dX6_nameHere_51 : decode cX6_nameHere 51 = .ok (.iload_n 2, 1) := by decide +kernel
theorem dX6_nameHere_52 : decode cX6_nameHere 52 = .ok (.ifCond .eq 54, 3) := by decide +kernel
theorem dX6_nameHere_55 : decode cX6_nameHere 55 = .ok (.iload_n 3, 1) := by decide +kernel
theorem dX6_nameHere_56 : decode cX6_nameHere 56 = .ok (.aload_n 0, 1) := by decide +kernel
theorem dX6_nameHere_57 : decode cX6_nameHere 57 = .ok (.getfield 69, 3) := by decide +kernel
theorem dX6_nameHere_60 : decode cX6_nameHere 60 = .ok (.aload_n 0, 1) := by decide +kernel
theorem dX6_nameHere_61 : decode cX6_nameHere 61 = .ok (.getfield 60, 3) := by decide +kernel
theorem dX6_nameHere_64 : decode cX6_nameHere 64 = .ok (.isub, 1) := by decide +kernel
theorem dX6_nameHere_65 : decode cX6_nameHere 65 = .ok (.if_icmp .ge 41, 3) := by decide +kernel
theorem dX6_nameHere_68 : decode cX6_nameHere 68 = .ok (.aload_n 0, 1) := by decide +kernel
theorem dX6_nameHere_69 : decode cX6_nameHere 69 = .ok (.aload_n 0, 1) := by decide +kernel
theorem dX6_nameHere_70 : decode cX6_nameHere 70 = .ok (.getfield 60, 3) := by decide +kernel
theorem dX6_nameHere_73 : decode cX6_nameHere 73 = .ok (.iload_n 3, 1) := by decide +kernel
theorem dX6_nameHere_74 : decode cX6_nameHere 74 = .ok (.iadd, 1) := by decide +kernel
theorem dX6_nameHere_75 : decode cX6_nameHere 75 = .ok (.invokevirtual 72, 3) := by decide +kernel
theorem dX6_nameHere_78 : decode cX6_nameHere 78 = .ok (.aload_n 0, 1) := by decide +kernel
theorem dX6_nameHere_79 : decode cX6_nameHere 79 = .ok (.getfield 22, 3) := by decide +kernel
theorem dX6_nameHere_82 : decode cX6_nameHere 82 = .ok (.aload_n 0, 1) := by decide +kernel
theorem dX6_nameHere_83 : decode cX6_nameHere 83 = .ok (.getfield 19, 3) := by decide +kernel
theorem dX6_nameHere_86 : decode cX6_nameHere 86 = .ok (.iload_n 1, 1) := by decide +kernel
theorem dX6_nameHere_87 : decode cX6_nameHere 87 = .ok (.iaload, 1) := by decide +kernel
theorem dX6_nameHere_88 : decode cX6_nameHere 88 = .ok (.iload_n 3, 1) := by decide +kernel
theorem dX6_nameHere_89 : decode cX6_nameHere 89 = .ok (.iadd, 1) := by decide +kernel
theorem dX6_nameHere_90 : decode cX6_nameHere 90 = .ok (.iaload, 1) := by decide +kernel
theorem dX6_nameHere_91 : decode cX6_nameHere 91 = .ok (.if_icmp .ne 7, 3) := by decide +kernel
theorem dX6_nameHere_94 : decode cX6_nameHere 94 = .ok (.iconst 1, 1) := by decide +kernel
theorem dX6_nameHere_95 : decode cX6_nameHere 95 = .ok (.goto 4, 3) := by decide +kernel
theorem dX6_nameHere_98 : decode cX6_nameHere 98 = .ok (.iconst 0, 1) := by decide +kernel
theorem dX6_nameHere_99 : decode cX6_nameHere 99 = .ok (.istore_n 2, 1) := by decide +kernel
theorem dX6_nameHere_100 : decode cX6_nameHere 100 = .ok (.iinc 3 1, 3) := by decide +kernel
theorem dX6_nameHere_103 : decode cX6_nameHere 103 = .ok (.goto (-52), 3) := by decide +kernel
theorem dX6_nameHere_106 : decode cX6_nameHere 106 = .ok (.iload_n 2, 1) := by decide +kernel
theorem dX6_nameHere_107 : decode cX6_nameHere 107 = .ok (.ifCond .eq 5, 3) := by decide +kernel
theorem dX6_nameHere_110 : decode cX6_nameHere 110 = .ok (.iload_n 1, 1) := by decide +kernel
theorem dX6_nameHere_111 : decode cX6_nameHere 111 = .ok (.ireturn, 1) := by decide +kernel
theorem dX6_nameHere_112 : decode cX6_nameHere 112 = .ok (.iinc 1 1, 3) := by decide +kernel
theorem dX6_nameHere_115 : decode cX6_nameHere 115 = .ok (.goto (-113), 3) := by decide +kernel
theorem dX6_nameHere_118 : decode cX6_nameHere 118 = .ok (.bipush (-4), 2) := by decide +kernel
theorem dX6_nameHere_120 : decode cX6_nameHere 120 = .ok (.ireturn, 1) := by decide +kernel
set_option maxRecDepth 20000 in
theorem ggX6_readsOn_X6_byteAt : GoodIn wsX6_readsOn wsX6_byteAt := goodIn_r _ [14, 15, 16, 25, 26, 27, 28, 29, 30, 31, 32, 33, 34, 35, 36, 37, 38, 39, 40, 41, 42, 43, 44, 45, 46, 47, 48, 49, 50] (by decide +kernel) (by decide +kernel)
set_option maxRecDepth 20000 in
theorem gX6_readsOn_X6_byteAt : GoodIn wsX6_readsOn (wsV RX6 72 RX6 yX6_byteAt wsX6_byteAt) := goodIn_app (goodIn_of _ (by decide +kernel)) ggX6_readsOn_X6_byteAt
set_option maxRecDepth 20000 in
theorem ggX6_readsOn_X6_in : GoodIn wsX6_readsOn wsX6_in := goodIn_r _ [19] (by decide +kernel) (by decide +kernel)
set_option maxRecDepth 20000 in
theorem gX6_readsOn_X6_in : GoodIn wsX6_readsOn (va_wsS RX6 50 yX6_in wsX6_in) := goodIn_app (goodIn_of _ (by decide +kernel)) ggX6_readsOn_X6_in
set_option maxRecDepth 20000 in
theorem ggX6_readsOn_X6_fails : GoodIn wsX6_readsOn wsX6_fails := goodIn_r _ [23, 1, 3, 24, 25, 26, 27, 28, 29, 30, 31, 32, 33, 34, 35, 36, 37, 38, 39, 40, 41, 42, 43, 44, 45, 46, 47, 48, 49, 50] (by decide +kernel) (by decide +kernel)
set_option maxRecDepth 20000 in
theorem gX6_readsOn_X6_fails : GoodIn wsX6_readsOn (wsV RX6 87 RX6 yX6_fails wsX6_fails) := goodIn_app (goodIn_of _ (by decide +kernel)) ggX6_readsOn_X6_fails
theorem dX6_readsOn_0 : decode cX6_readsOn 0 = .ok (.aload_n 0, 1) := by decide +kernel
theorem dX6_readsOn_1 : decode cX6_readsOn 1 = .ok (.getfield 57, 3) := by decide +kernel
theorem dX6_readsOn_4 : decode cX6_readsOn 4 = .ok (.ifCond .le 4, 3) := by decide +kernel
theorem dX6_readsOn_7 : decode cX6_readsOn 7 = .ok (.return_, 1) := by decide +kernel
theorem dX6_readsOn_8 : decode cX6_readsOn 8 = .ok (.aload_n 0, 1) := by decide +kernel
theorem dX6_readsOn_9 : decode cX6_readsOn 9 = .ok (.aload_n 0, 1) := by decide +kernel
theorem dX6_readsOn_10 : decode cX6_readsOn 10 = .ok (.getfield 69, 3) := by decide +kernel
theorem dX6_readsOn_13 : decode cX6_readsOn 13 = .ok (.invokevirtual 72, 3) := by decide +kernel
theorem dX6_readsOn_16 : decode cX6_readsOn 16 = .ok (.bipush 32, 2) := by decide +kernel
theorem dX6_readsOn_18 : decode cX6_readsOn 18 = .ok (.if_icmp .ne 16, 3) := by decide +kernel
theorem dX6_readsOn_21 : decode cX6_readsOn 21 = .ok (.aload_n 0, 1) := by decide +kernel
theorem dX6_readsOn_22 : decode cX6_readsOn 22 = .ok (.dup, 1) := by decide +kernel
theorem dX6_readsOn_23 : decode cX6_readsOn 23 = .ok (.getfield 69, 3) := by decide +kernel
theorem dX6_readsOn_26 : decode cX6_readsOn 26 = .ok (.iconst 1, 1) := by decide +kernel
theorem dX6_readsOn_27 : decode cX6_readsOn 27 = .ok (.iadd, 1) := by decide +kernel
theorem dX6_readsOn_28 : decode cX6_readsOn 28 = .ok (.putfield 69, 3) := by decide +kernel
theorem dX6_readsOn_31 : decode cX6_readsOn 31 = .ok (.goto (-23), 3) := by decide +kernel
theorem dX6_readsOn_34 : decode cX6_readsOn 34 = .ok (.aload_n 0, 1) := by decide +kernel
theorem dX6_readsOn_35 : decode cX6_readsOn 35 = .ok (.aload_n 0, 1) := by decide +kernel
theorem dX6_readsOn_36 : decode cX6_readsOn 36 = .ok (.getfield 69, 3) := by decide +kernel
theorem dX6_readsOn_39 : decode cX6_readsOn 39 = .ok (.putfield 60, 3) := by decide +kernel
theorem dX6_readsOn_42 : decode cX6_readsOn 42 = .ok (.aload_n 0, 1) := by decide +kernel
theorem dX6_readsOn_43 : decode cX6_readsOn 43 = .ok (.aload_n 0, 1) := by decide +kernel
theorem dX6_readsOn_44 : decode cX6_readsOn 44 = .ok (.getfield 69, 3) := by decide +kernel
theorem dX6_readsOn_47 : decode cX6_readsOn 47 = .ok (.invokevirtual 72, 3) := by decide +kernel
theorem dX6_readsOn_50 : decode cX6_readsOn 50 = .ok (.istore_n 1, 1) := by decide +kernel
theorem dX6_readsOn_51 : decode cX6_readsOn 51 = .ok (.aload_n 0, 1) := by decide +kernel
theorem dX6_readsOn_52 : decode cX6_readsOn 52 = .ok (.iconst 0, 1) := by decide +kernel
theorem dX6_readsOn_53 : decode cX6_readsOn 53 = .ok (.putfield 76, 3) := by decide +kernel
theorem dX6_readsOn_56 : decode cX6_readsOn 56 = .ok (.iload_n 1, 1) := by decide +kernel
theorem dX6_readsOn_57 : decode cX6_readsOn 57 = .ok (.bipush (-4), 2) := by decide +kernel
theorem dX6_readsOn_59 : decode cX6_readsOn 59 = .ok (.if_icmp .ne 11, 3) := by decide +kernel
theorem dX6_readsOn_62 : decode cX6_readsOn 62 = .ok (.aload_n 0, 1) := by decide +kernel
theorem dX6_readsOn_63 : decode cX6_readsOn 63 = .ok (.iconst 0, 1) := by decide +kernel
theorem dX6_readsOn_64 : decode cX6_readsOn 64 = .ok (.putfield 66, 3) := by decide +kernel
theorem dX6_readsOn_67 : decode cX6_readsOn 67 = .ok (.goto 202, 3) := by decide +kernel
theorem dX6_readsOn_70 : decode cX6_readsOn 70 = .ok (.iload_n 1, 1) := by decide +kernel
theorem dX6_readsOn_71 : decode cX6_readsOn 71 = .ok (.i2l, 1) := by decide +kernel
theorem dX6_readsOn_72 : decode cX6_readsOn 72 = .ok (.ldc2_w 79, 3) := by decide +kernel
theorem dX6_readsOn_75 : decode cX6_readsOn 75 = .ok (.ldc2_w 81, 3) := by decide +kernel
theorem dX6_readsOn_78 : decode cX6_readsOn 78 = .ok (.invokestatic 50, 3) := by decide +kernel
theorem dX6_readsOn_81 : decode cX6_readsOn 81 = .ok (.ifCond .eq 45, 3) := by decide +kernel
theorem dX6_readsOn_84 : decode cX6_readsOn 84 = .ok (.aload_n 0, 1) := by decide +kernel
theorem dX6_readsOn_85 : decode cX6_readsOn 85 = .ok (.aload_n 0, 1) := by decide +kernel
theorem dX6_readsOn_86 : decode cX6_readsOn 86 = .ok (.getfield 69, 3) := by decide +kernel
theorem dX6_readsOn_89 : decode cX6_readsOn 89 = .ok (.invokevirtual 72, 3) := by decide +kernel
theorem dX6_readsOn_92 : decode cX6_readsOn 92 = .ok (.i2l, 1) := by decide +kernel
theorem dX6_readsOn_93 : decode cX6_readsOn 93 = .ok (.ldc2_w 79, 3) := by decide +kernel
theorem dX6_readsOn_96 : decode cX6_readsOn 96 = .ok (.ldc2_w 81, 3) := by decide +kernel
theorem dX6_readsOn_99 : decode cX6_readsOn 99 = .ok (.invokestatic 50, 3) := by decide +kernel
theorem dX6_readsOn_102 : decode cX6_readsOn 102 = .ok (.ifCond .eq 16, 3) := by decide +kernel
theorem dX6_readsOn_105 : decode cX6_readsOn 105 = .ok (.aload_n 0, 1) := by decide +kernel
theorem dX6_readsOn_106 : decode cX6_readsOn 106 = .ok (.dup, 1) := by decide +kernel
theorem dX6_readsOn_107 : decode cX6_readsOn 107 = .ok (.getfield 69, 3) := by decide +kernel
theorem dX6_readsOn_110 : decode cX6_readsOn 110 = .ok (.iconst 1, 1) := by decide +kernel
theorem dX6_readsOn_111 : decode cX6_readsOn 111 = .ok (.iadd, 1) := by decide +kernel
theorem dX6_readsOn_112 : decode cX6_readsOn 112 = .ok (.putfield 69, 3) := by decide +kernel
theorem dX6_readsOn_115 : decode cX6_readsOn 115 = .ok (.goto (-31), 3) := by decide +kernel
theorem dX6_readsOn_118 : decode cX6_readsOn 118 = .ok (.aload_n 0, 1) := by decide +kernel
theorem dX6_readsOn_119 : decode cX6_readsOn 119 = .ok (.iconst 1, 1) := by decide +kernel
theorem dX6_readsOn_120 : decode cX6_readsOn 120 = .ok (.putfield 66, 3) := by decide +kernel
theorem dX6_readsOn_123 : decode cX6_readsOn 123 = .ok (.goto 146, 3) := by decide +kernel
theorem dX6_readsOn_126 : decode cX6_readsOn 126 = .ok (.iload_n 1, 1) := by decide +kernel
theorem dX6_readsOn_127 : decode cX6_readsOn 127 = .ok (.i2l, 1) := by decide +kernel
theorem dX6_readsOn_128 : decode cX6_readsOn 128 = .ok (.ldc2_w 83, 3) := by decide +kernel
theorem dX6_readsOn_131 : decode cX6_readsOn 131 = .ok (.ldc2_w 85, 3) := by decide +kernel
theorem dX6_readsOn_134 : decode cX6_readsOn 134 = .ok (.invokestatic 50, 3) := by decide +kernel
theorem dX6_readsOn_137 : decode cX6_readsOn 137 = .ok (.ifCond .eq 106, 3) := by decide +kernel
theorem dX6_readsOn_140 : decode cX6_readsOn 140 = .ok (.aload_n 0, 1) := by decide +kernel
theorem dX6_readsOn_141 : decode cX6_readsOn 141 = .ok (.aload_n 0, 1) := by decide +kernel
theorem dX6_readsOn_142 : decode cX6_readsOn 142 = .ok (.getfield 69, 3) := by decide +kernel
theorem dX6_readsOn_145 : decode cX6_readsOn 145 = .ok (.invokevirtual 72, 3) := by decide +kernel
theorem dX6_readsOn_148 : decode cX6_readsOn 148 = .ok (.i2l, 1) := by decide +kernel
theorem dX6_readsOn_149 : decode cX6_readsOn 149 = .ok (.ldc2_w 83, 3) := by decide +kernel
theorem dX6_readsOn_152 : decode cX6_readsOn 152 = .ok (.ldc2_w 85, 3) := by decide +kernel
theorem dX6_readsOn_155 : decode cX6_readsOn 155 = .ok (.invokestatic 50, 3) := by decide +kernel
theorem dX6_readsOn_158 : decode cX6_readsOn 158 = .ok (.ifCond .eq 59, 3) := by decide +kernel
theorem dX6_readsOn_161 : decode cX6_readsOn 161 = .ok (.aload_n 0, 1) := by decide +kernel
theorem dX6_readsOn_162 : decode cX6_readsOn 162 = .ok (.aload_n 0, 1) := by decide +kernel
theorem dX6_readsOn_163 : decode cX6_readsOn 163 = .ok (.getfield 69, 3) := by decide +kernel
theorem dX6_readsOn_166 : decode cX6_readsOn 166 = .ok (.aload_n 0, 1) := by decide +kernel
theorem dX6_readsOn_167 : decode cX6_readsOn 167 = .ok (.getfield 60, 3) := by decide +kernel
theorem dX6_readsOn_170 : decode cX6_readsOn 170 = .ok (.isub, 1) := by decide +kernel
theorem dX6_readsOn_171 : decode cX6_readsOn 171 = .ok (.iconst 2, 1) := by decide +kernel
theorem dX6_readsOn_172 : decode cX6_readsOn 172 = .ok (.if_icmp .ge 25, 3) := by decide +kernel
theorem dX6_readsOn_175 : decode cX6_readsOn 175 = .ok (.bipush 10, 2) := by decide +kernel
theorem dX6_readsOn_177 : decode cX6_readsOn 177 = .ok (.aload_n 0, 1) := by decide +kernel
theorem dX6_readsOn_178 : decode cX6_readsOn 178 = .ok (.getfield 76, 3) := by decide +kernel
theorem dX6_readsOn_181 : decode cX6_readsOn 181 = .ok (.imul, 1) := by decide +kernel
theorem dX6_readsOn_182 : decode cX6_readsOn 182 = .ok (.aload_n 0, 1) := by decide +kernel
theorem dX6_readsOn_183 : decode cX6_readsOn 183 = .ok (.aload_n 0, 1) := by decide +kernel
theorem dX6_readsOn_184 : decode cX6_readsOn 184 = .ok (.getfield 69, 3) := by decide +kernel
theorem dX6_readsOn_187 : decode cX6_readsOn 187 = .ok (.invokevirtual 72, 3) := by decide +kernel
theorem dX6_readsOn_190 : decode cX6_readsOn 190 = .ok (.iadd, 1) := by decide +kernel
theorem dX6_readsOn_191 : decode cX6_readsOn 191 = .ok (.bipush 48, 2) := by decide +kernel
theorem dX6_readsOn_193 : decode cX6_readsOn 193 = .ok (.isub, 1) := by decide +kernel
theorem dX6_readsOn_194 : decode cX6_readsOn 194 = .ok (.goto 7, 3) := by decide +kernel
theorem dX6_readsOn_197 : decode cX6_readsOn 197 = .ok (.aload_n 0, 1) := by decide +kernel
theorem dX6_readsOn_198 : decode cX6_readsOn 198 = .ok (.getfield 76, 3) := by decide +kernel
theorem dX6_readsOn_201 : decode cX6_readsOn 201 = .ok (.putfield 76, 3) := by decide +kernel
theorem dX6_readsOn_204 : decode cX6_readsOn 204 = .ok (.aload_n 0, 1) := by decide +kernel
theorem dX6_readsOn_205 : decode cX6_readsOn 205 = .ok (.dup, 1) := by decide +kernel
theorem dX6_readsOn_206 : decode cX6_readsOn 206 = .ok (.getfield 69, 3) := by decide +kernel
theorem dX6_readsOn_209 : decode cX6_readsOn 209 = .ok (.iconst 1, 1) := by decide +kernel
theorem dX6_readsOn_210 : decode cX6_readsOn 210 = .ok (.iadd, 1) := by decide +kernel
theorem dX6_readsOn_211 : decode cX6_readsOn 211 = .ok (.putfield 69, 3) := by decide +kernel
theorem dX6_readsOn_214 : decode cX6_readsOn 214 = .ok (.goto (-74), 3) := by decide +kernel
theorem dX6_readsOn_217 : decode cX6_readsOn 217 = .ok (.aload_n 0, 1) := by decide +kernel
theorem dX6_readsOn_218 : decode cX6_readsOn 218 = .ok (.iconst 2, 1) := by decide +kernel
theorem dX6_readsOn_219 : decode cX6_readsOn 219 = .ok (.putfield 66, 3) := by decide +kernel
theorem dX6_readsOn_222 : decode cX6_readsOn 222 = .ok (.aload_n 0, 1) := by decide +kernel
theorem dX6_readsOn_223 : decode cX6_readsOn 223 = .ok (.getfield 69, 3) := by decide +kernel
theorem dX6_readsOn_226 : decode cX6_readsOn 226 = .ok (.aload_n 0, 1) := by decide +kernel
theorem dX6_readsOn_227 : decode cX6_readsOn 227 = .ok (.getfield 60, 3) := by decide +kernel
theorem dX6_readsOn_230 : decode cX6_readsOn 230 = .ok (.isub, 1) := by decide +kernel
theorem dX6_readsOn_231 : decode cX6_readsOn 231 = .ok (.iconst 2, 1) := by decide +kernel
theorem dX6_readsOn_232 : decode cX6_readsOn 232 = .ok (.if_icmp .le 37, 3) := by decide +kernel
theorem dX6_readsOn_235 : decode cX6_readsOn 235 = .ok (.aload_n 0, 1) := by decide +kernel
theorem dX6_readsOn_236 : decode cX6_readsOn 236 = .ok (.iconst 1, 1) := by decide +kernel
theorem dX6_readsOn_237 : decode cX6_readsOn 237 = .ok (.invokevirtual 87, 3) := by decide +kernel
theorem dX6_readsOn_240 : decode cX6_readsOn 240 = .ok (.goto 29, 3) := by decide +kernel
theorem dX6_readsOn_243 : decode cX6_readsOn 243 = .ok (.aload_n 0, 1) := by decide +kernel
theorem dX6_readsOn_244 : decode cX6_readsOn 244 = .ok (.iconst 3, 1) := by decide +kernel
theorem dX6_readsOn_245 : decode cX6_readsOn 245 = .ok (.putfield 66, 3) := by decide +kernel
theorem dX6_readsOn_248 : decode cX6_readsOn 248 = .ok (.aload_n 0, 1) := by decide +kernel
theorem dX6_readsOn_249 : decode cX6_readsOn 249 = .ok (.dup, 1) := by decide +kernel
theorem dX6_readsOn_250 : decode cX6_readsOn 250 = .ok (.getfield 69, 3) := by decide +kernel
theorem dX6_readsOn_253 : decode cX6_readsOn 253 = .ok (.iconst 1, 1) := by decide +kernel
theorem dX6_readsOn_254 : decode cX6_readsOn 254 = .ok (.iadd, 1) := by decide +kernel
theorem dX6_readsOn_255 : decode cX6_readsOn 255 = .ok (.putfield 69, 3) := by decide +kernel
theorem dX6_readsOn_258 : decode cX6_readsOn 258 = .ok (.iload_n 1, 1) := by decide +kernel
theorem dX6_readsOn_259 : decode cX6_readsOn 259 = .ok (.bipush 59, 2) := by decide +kernel
theorem dX6_readsOn_261 : decode cX6_readsOn 261 = .ok (.if_icmp .eq 8, 3) := by decide +kernel
theorem dX6_readsOn_264 : decode cX6_readsOn 264 = .ok (.aload_n 0, 1) := by decide +kernel
theorem dX6_readsOn_265 : decode cX6_readsOn 265 = .ok (.iconst 1, 1) := by decide +kernel
theorem dX6_readsOn_266 : decode cX6_readsOn 266 = .ok (.invokevirtual 87, 3) := by decide +kernel
theorem dX6_readsOn_269 : decode cX6_readsOn 269 = .ok (.return_, 1) := by decide +kernel
set_option maxRecDepth 20000 in
theorem ggX6_number_X6_fails : GoodIn wsX6_number wsX6_fails := goodIn_r _ [8, 1, 9, 10, 29, 30, 31, 32, 33, 34, 35, 36, 37, 38, 39, 40, 41, 42, 43, 44, 45, 46, 47, 48, 49, 50, 51, 52, 53, 54] (by decide +kernel) (by decide +kernel)
set_option maxRecDepth 20000 in
theorem gX6_number_X6_fails : GoodIn wsX6_number (wsV RX6 87 RX6 yX6_fails wsX6_fails) := goodIn_app (goodIn_of _ (by decide +kernel)) ggX6_number_X6_fails
set_option maxRecDepth 20000 in
theorem ggX6_number_X6_in : GoodIn wsX6_number wsX6_in := goodIn_r _ [13] (by decide +kernel) (by decide +kernel)
set_option maxRecDepth 20000 in
theorem gX6_number_X6_in : GoodIn wsX6_number (va_wsS RX6 50 yX6_in wsX6_in) := goodIn_app (goodIn_of _ (by decide +kernel)) ggX6_number_X6_in
set_option maxRecDepth 20000 in
theorem ggX6_number_X6_readsOn : GoodIn wsX6_number wsX6_readsOn := goodIn_r _ [17, 1, 18, 9, 3, 2, 19, 20, 21, 22, 23, 24, 25, 7, 26, 27, 28, 11, 12, 13, 4, 5, 6, 8, 10, 29, 30, 31, 32, 33, 34, 35, 36, 37, 38, 39, 40, 41, 42, 43, 44, 45, 46, 47, 48, 49, 50, 51, 52, 53, 54] (by decide +kernel) (by decide +kernel)
set_option maxRecDepth 20000 in
theorem gX6_number_X6_readsOn : GoodIn wsX6_number (wsV RX6 91 RX6 yX6_readsOn wsX6_readsOn) := goodIn_app (goodIn_of _ (by decide +kernel)) ggX6_number_X6_readsOn
theorem dX6_number_0 : decode cX6_number 0 = .ok (.aload_n 0, 1) := by decide +kernel
theorem dX6_number_1 : decode cX6_number 1 = .ok (.getfield 57, 3) := by decide +kernel
theorem dX6_number_4 : decode cX6_number 4 = .ok (.ifCond .ne 16, 3) := by decide +kernel
theorem dX6_number_7 : decode cX6_number 7 = .ok (.aload_n 0, 1) := by decide +kernel
theorem dX6_number_8 : decode cX6_number 8 = .ok (.getfield 66, 3) := by decide +kernel
theorem dX6_number_11 : decode cX6_number 11 = .ok (.iconst 2, 1) := by decide +kernel
theorem dX6_number_12 : decode cX6_number 12 = .ok (.if_icmp .eq 8, 3) := by decide +kernel
theorem dX6_number_15 : decode cX6_number 15 = .ok (.aload_n 0, 1) := by decide +kernel
theorem dX6_number_16 : decode cX6_number 16 = .ok (.iconst 2, 1) := by decide +kernel
theorem dX6_number_17 : decode cX6_number 17 = .ok (.invokevirtual 87, 3) := by decide +kernel
theorem dX6_number_20 : decode cX6_number 20 = .ok (.aload_n 0, 1) := by decide +kernel
theorem dX6_number_21 : decode cX6_number 21 = .ok (.getfield 57, 3) := by decide +kernel
theorem dX6_number_24 : decode cX6_number 24 = .ok (.ifCond .ne 23, 3) := by decide +kernel
theorem dX6_number_27 : decode cX6_number 27 = .ok (.aload_n 0, 1) := by decide +kernel
theorem dX6_number_28 : decode cX6_number 28 = .ok (.getfield 76, 3) := by decide +kernel
theorem dX6_number_31 : decode cX6_number 31 = .ok (.i2l, 1) := by decide +kernel
theorem dX6_number_32 : decode cX6_number 32 = .ok (.iload_n 1, 1) := by decide +kernel
theorem dX6_number_33 : decode cX6_number 33 = .ok (.i2l, 1) := by decide +kernel
theorem dX6_number_34 : decode cX6_number 34 = .ok (.iload_n 2, 1) := by decide +kernel
theorem dX6_number_35 : decode cX6_number 35 = .ok (.i2l, 1) := by decide +kernel
theorem dX6_number_36 : decode cX6_number 36 = .ok (.invokestatic 50, 3) := by decide +kernel
theorem dX6_number_39 : decode cX6_number 39 = .ok (.ifCond .ne 8, 3) := by decide +kernel
theorem dX6_number_42 : decode cX6_number 42 = .ok (.aload_n 0, 1) := by decide +kernel
theorem dX6_number_43 : decode cX6_number 43 = .ok (.iconst 3, 1) := by decide +kernel
theorem dX6_number_44 : decode cX6_number 44 = .ok (.invokevirtual 87, 3) := by decide +kernel
theorem dX6_number_47 : decode cX6_number 47 = .ok (.aload_n 0, 1) := by decide +kernel
theorem dX6_number_48 : decode cX6_number 48 = .ok (.getfield 57, 3) := by decide +kernel
theorem dX6_number_51 : decode cX6_number 51 = .ok (.ifCond .ne 10, 3) := by decide +kernel
theorem dX6_number_54 : decode cX6_number 54 = .ok (.aload_n 0, 1) := by decide +kernel
theorem dX6_number_55 : decode cX6_number 55 = .ok (.getfield 76, 3) := by decide +kernel
theorem dX6_number_58 : decode cX6_number 58 = .ok (.goto 4, 3) := by decide +kernel
theorem dX6_number_61 : decode cX6_number 61 = .ok (.iload_n 1, 1) := by decide +kernel
theorem dX6_number_62 : decode cX6_number 62 = .ok (.istore_n 3, 1) := by decide +kernel
theorem dX6_number_63 : decode cX6_number 63 = .ok (.aload_n 0, 1) := by decide +kernel
theorem dX6_number_64 : decode cX6_number 64 = .ok (.invokevirtual 91, 3) := by decide +kernel
theorem dX6_number_67 : decode cX6_number 67 = .ok (.iload_n 3, 1) := by decide +kernel
theorem dX6_number_68 : decode cX6_number 68 = .ok (.ireturn, 1) := by decide +kernel
set_option maxRecDepth 20000 in
theorem ggX6_readMore_X6_number : GoodIn wsX6_readMore wsX6_number := goodIn_r _ [6, 7, 8, 9, 10, 11, 12, 5, 13, 14, 15, 16, 17, 18, 19, 20, 21, 22, 23, 24, 25, 26, 27, 28, 29, 30, 31, 32, 33, 34, 35, 36, 37, 38, 39, 40, 41, 42, 43, 44, 45, 46, 47, 48, 49, 50, 51, 52, 53, 54, 55, 56, 57, 58, 59] (by decide +kernel) (by decide +kernel)
set_option maxRecDepth 20000 in
theorem gX6_readMore_X6_number : GoodIn wsX6_readMore (wsV RX6 94 RX6 yX6_number wsX6_number) := goodIn_app (goodIn_of _ (by decide +kernel)) ggX6_readMore_X6_number
theorem dX6_readMore_0 : decode cX6_readMore 0 = .ok (.iload_n 1, 1) := by decide +kernel
theorem dX6_readMore_1 : decode cX6_readMore 1 = .ok (.iconst 3, 1) := by decide +kernel
theorem dX6_readMore_2 : decode cX6_readMore 2 = .ok (.if_icmp .gt 51, 3) := by decide +kernel
theorem dX6_readMore_5 : decode cX6_readMore 5 = .ok (.aload_n 0, 1) := by decide +kernel
theorem dX6_readMore_6 : decode cX6_readMore 6 = .ok (.getfield 13, 3) := by decide +kernel
theorem dX6_readMore_9 : decode cX6_readMore 9 = .ok (.bipush 35, 2) := by decide +kernel
theorem dX6_readMore_11 : decode cX6_readMore 11 = .ok (.iaload, 1) := by decide +kernel
theorem dX6_readMore_12 : decode cX6_readMore 12 = .ok (.istore_n 2, 1) := by decide +kernel
theorem dX6_readMore_13 : decode cX6_readMore 13 = .ok (.aload_n 0, 1) := by decide +kernel
theorem dX6_readMore_14 : decode cX6_readMore 14 = .ok (.getfield 13, 3) := by decide +kernel
theorem dX6_readMore_17 : decode cX6_readMore 17 = .ok (.bipush 23, 2) := by decide +kernel
theorem dX6_readMore_19 : decode cX6_readMore 19 = .ok (.iload_n 2, 1) := by decide +kernel
theorem dX6_readMore_20 : decode cX6_readMore 20 = .ok (.iadd, 1) := by decide +kernel
theorem dX6_readMore_21 : decode cX6_readMore 21 = .ok (.iload_n 1, 1) := by decide +kernel
theorem dX6_readMore_22 : decode cX6_readMore 22 = .ok (.iastore, 1) := by decide +kernel
theorem dX6_readMore_23 : decode cX6_readMore 23 = .ok (.aload_n 0, 1) := by decide +kernel
theorem dX6_readMore_24 : decode cX6_readMore 24 = .ok (.getfield 13, 3) := by decide +kernel
theorem dX6_readMore_27 : decode cX6_readMore 27 = .ok (.bipush 27, 2) := by decide +kernel
theorem dX6_readMore_29 : decode cX6_readMore 29 = .ok (.iload_n 2, 1) := by decide +kernel
theorem dX6_readMore_30 : decode cX6_readMore 30 = .ok (.iadd, 1) := by decide +kernel
theorem dX6_readMore_31 : decode cX6_readMore 31 = .ok (.aload_n 0, 1) := by decide +kernel
theorem dX6_readMore_32 : decode cX6_readMore 32 = .ok (.iconst 1, 1) := by decide +kernel
theorem dX6_readMore_33 : decode cX6_readMore 33 = .ok (.bipush 9, 2) := by decide +kernel
theorem dX6_readMore_35 : decode cX6_readMore 35 = .ok (.invokevirtual 94, 3) := by decide +kernel
theorem dX6_readMore_38 : decode cX6_readMore 38 = .ok (.iastore, 1) := by decide +kernel
theorem dX6_readMore_39 : decode cX6_readMore 39 = .ok (.aload_n 0, 1) := by decide +kernel
theorem dX6_readMore_40 : decode cX6_readMore 40 = .ok (.getfield 13, 3) := by decide +kernel
theorem dX6_readMore_43 : decode cX6_readMore 43 = .ok (.bipush 35, 2) := by decide +kernel
theorem dX6_readMore_45 : decode cX6_readMore 45 = .ok (.dup2, 1) := by decide +kernel
theorem dX6_readMore_46 : decode cX6_readMore 46 = .ok (.iaload, 1) := by decide +kernel
theorem dX6_readMore_47 : decode cX6_readMore 47 = .ok (.iconst 1, 1) := by decide +kernel
theorem dX6_readMore_48 : decode cX6_readMore 48 = .ok (.iadd, 1) := by decide +kernel
theorem dX6_readMore_49 : decode cX6_readMore 49 = .ok (.iastore, 1) := by decide +kernel
theorem dX6_readMore_50 : decode cX6_readMore 50 = .ok (.goto 87, 3) := by decide +kernel
theorem dX6_readMore_53 : decode cX6_readMore 53 = .ok (.iload_n 1, 1) := by decide +kernel
theorem dX6_readMore_54 : decode cX6_readMore 54 = .ok (.iconst 4, 1) := by decide +kernel
theorem dX6_readMore_55 : decode cX6_readMore 55 = .ok (.if_icmp .ne 54, 3) := by decide +kernel
theorem dX6_readMore_58 : decode cX6_readMore 58 = .ok (.aload_n 0, 1) := by decide +kernel
theorem dX6_readMore_59 : decode cX6_readMore 59 = .ok (.getfield 13, 3) := by decide +kernel
theorem dX6_readMore_62 : decode cX6_readMore 62 = .ok (.bipush 20, 2) := by decide +kernel
theorem dX6_readMore_64 : decode cX6_readMore 64 = .ok (.iaload, 1) := by decide +kernel
theorem dX6_readMore_65 : decode cX6_readMore 65 = .ok (.istore_n 2, 1) := by decide +kernel
theorem dX6_readMore_66 : decode cX6_readMore 66 = .ok (.aload_n 0, 1) := by decide +kernel
theorem dX6_readMore_67 : decode cX6_readMore 67 = .ok (.getfield 13, 3) := by decide +kernel
theorem dX6_readMore_70 : decode cX6_readMore 70 = .ok (.iload_n 2, 1) := by decide +kernel
theorem dX6_readMore_71 : decode cX6_readMore 71 = .ok (.aload_n 0, 1) := by decide +kernel
theorem dX6_readMore_72 : decode cX6_readMore 72 = .ok (.iconst 0, 1) := by decide +kernel
theorem dX6_readMore_73 : decode cX6_readMore 73 = .ok (.bipush 20, 2) := by decide +kernel
theorem dX6_readMore_75 : decode cX6_readMore 75 = .ok (.invokevirtual 94, 3) := by decide +kernel
theorem dX6_readMore_78 : decode cX6_readMore 78 = .ok (.iastore, 1) := by decide +kernel
theorem dX6_readMore_79 : decode cX6_readMore 79 = .ok (.aload_n 0, 1) := by decide +kernel
theorem dX6_readMore_80 : decode cX6_readMore 80 = .ok (.getfield 13, 3) := by decide +kernel
theorem dX6_readMore_83 : decode cX6_readMore 83 = .ok (.bipush 10, 2) := by decide +kernel
theorem dX6_readMore_85 : decode cX6_readMore 85 = .ok (.iload_n 2, 1) := by decide +kernel
theorem dX6_readMore_86 : decode cX6_readMore 86 = .ok (.iadd, 1) := by decide +kernel
theorem dX6_readMore_87 : decode cX6_readMore 87 = .ok (.aload_n 0, 1) := by decide +kernel
theorem dX6_readMore_88 : decode cX6_readMore 88 = .ok (.iconst 0, 1) := by decide +kernel
theorem dX6_readMore_89 : decode cX6_readMore 89 = .ok (.bipush 20, 2) := by decide +kernel
theorem dX6_readMore_91 : decode cX6_readMore 91 = .ok (.invokevirtual 94, 3) := by decide +kernel
theorem dX6_readMore_94 : decode cX6_readMore 94 = .ok (.iastore, 1) := by decide +kernel
theorem dX6_readMore_95 : decode cX6_readMore 95 = .ok (.aload_n 0, 1) := by decide +kernel
theorem dX6_readMore_96 : decode cX6_readMore 96 = .ok (.getfield 13, 3) := by decide +kernel
theorem dX6_readMore_99 : decode cX6_readMore 99 = .ok (.bipush 20, 2) := by decide +kernel
theorem dX6_readMore_101 : decode cX6_readMore 101 = .ok (.dup2, 1) := by decide +kernel
theorem dX6_readMore_102 : decode cX6_readMore 102 = .ok (.iaload, 1) := by decide +kernel
theorem dX6_readMore_103 : decode cX6_readMore 103 = .ok (.iconst 1, 1) := by decide +kernel
theorem dX6_readMore_104 : decode cX6_readMore 104 = .ok (.iadd, 1) := by decide +kernel
theorem dX6_readMore_105 : decode cX6_readMore 105 = .ok (.iastore, 1) := by decide +kernel
theorem dX6_readMore_106 : decode cX6_readMore 106 = .ok (.goto 31, 3) := by decide +kernel
theorem dX6_readMore_109 : decode cX6_readMore 109 = .ok (.aload_n 0, 1) := by decide +kernel
theorem dX6_readMore_110 : decode cX6_readMore 110 = .ok (.getfield 13, 3) := by decide +kernel
theorem dX6_readMore_113 : decode cX6_readMore 113 = .ok (.bipush 21, 2) := by decide +kernel
theorem dX6_readMore_115 : decode cX6_readMore 115 = .ok (.aload_n 0, 1) := by decide +kernel
theorem dX6_readMore_116 : decode cX6_readMore 116 = .ok (.iconst 0, 1) := by decide +kernel
theorem dX6_readMore_117 : decode cX6_readMore 117 = .ok (.bipush 20, 2) := by decide +kernel
theorem dX6_readMore_119 : decode cX6_readMore 119 = .ok (.invokevirtual 94, 3) := by decide +kernel
theorem dX6_readMore_122 : decode cX6_readMore 122 = .ok (.iastore, 1) := by decide +kernel
theorem dX6_readMore_123 : decode cX6_readMore 123 = .ok (.aload_n 0, 1) := by decide +kernel
theorem dX6_readMore_124 : decode cX6_readMore 124 = .ok (.getfield 13, 3) := by decide +kernel
theorem dX6_readMore_127 : decode cX6_readMore 127 = .ok (.bipush 22, 2) := by decide +kernel
theorem dX6_readMore_129 : decode cX6_readMore 129 = .ok (.aload_n 0, 1) := by decide +kernel
theorem dX6_readMore_130 : decode cX6_readMore 130 = .ok (.iconst 0, 1) := by decide +kernel
theorem dX6_readMore_131 : decode cX6_readMore 131 = .ok (.bipush 20, 2) := by decide +kernel
theorem dX6_readMore_133 : decode cX6_readMore 133 = .ok (.invokevirtual 94, 3) := by decide +kernel
theorem dX6_readMore_136 : decode cX6_readMore 136 = .ok (.iastore, 1) := by decide +kernel
theorem dX6_readMore_137 : decode cX6_readMore 137 = .ok (.return_, 1) := by decide +kernel
set_option maxRecDepth 20000 in
theorem ggX6_readLine_X6_nameHere : GoodIn wsX6_readLine wsX6_nameHere := goodIn_r _ [10, 5, 11, 12, 13, 14, 15, 16, 17, 9, 18, 19, 20, 46, 47, 48, 49, 50, 51, 52, 53, 54, 55, 56, 57, 58, 59, 60, 61, 62, 63, 64, 65, 66, 67, 68, 69, 70, 71] (by decide +kernel) (by decide +kernel)
set_option maxRecDepth 20000 in
theorem gX6_readLine_X6_nameHere : GoodIn wsX6_readLine (wsV RX6 98 RX6 yX6_nameHere wsX6_nameHere) := goodIn_app (goodIn_of _ (by decide +kernel)) ggX6_readLine_X6_nameHere
set_option maxRecDepth 20000 in
theorem ggX6_readLine_X6_in : GoodIn wsX6_readLine wsX6_in := goodIn_r _ [23] (by decide +kernel) (by decide +kernel)
set_option maxRecDepth 20000 in
theorem gX6_readLine_X6_in : GoodIn wsX6_readLine (va_wsS RX6 50 yX6_in wsX6_in) := goodIn_app (goodIn_of _ (by decide +kernel)) ggX6_readLine_X6_in
set_option maxRecDepth 20000 in
theorem ggX6_readLine_X6_fails : GoodIn wsX6_readLine wsX6_fails := goodIn_r _ [27, 4, 12, 28, 46, 47, 48, 49, 50, 51, 52, 53, 54, 55, 56, 57, 58, 59, 60, 61, 62, 63, 64, 65, 66, 67, 68, 69, 70, 71] (by decide +kernel) (by decide +kernel)
set_option maxRecDepth 20000 in
theorem gX6_readLine_X6_fails : GoodIn wsX6_readLine (wsV RX6 87 RX6 yX6_fails wsX6_fails) := goodIn_app (goodIn_of _ (by decide +kernel)) ggX6_readLine_X6_fails
set_option maxRecDepth 20000 in
theorem ggX6_readLine_X6_readsOn : GoodIn wsX6_readLine wsX6_readsOn := goodIn_r _ [32, 4, 11, 12, 33, 5, 34, 35, 36, 37, 15, 16, 17, 9, 18, 19, 20, 21, 22, 23, 24, 25, 26, 27, 28, 46, 47, 48, 49, 50, 51, 52, 53, 54, 55, 56, 57, 58, 59, 60, 61, 62, 63, 64, 65, 66, 67, 68, 69, 70, 71] (by decide +kernel) (by decide +kernel)
set_option maxRecDepth 20000 in
theorem gX6_readLine_X6_readsOn : GoodIn wsX6_readLine (wsV RX6 91 RX6 yX6_readsOn wsX6_readsOn) := goodIn_app (goodIn_of _ (by decide +kernel)) ggX6_readLine_X6_readsOn
set_option maxRecDepth 20000 in
theorem ggX6_readLine_X6_readMore : GoodIn wsX6_readLine wsX6_readMore := goodIn_r _ [41, 2, 42, 43, 44, 9, 45, 4, 5, 33, 24, 25, 26, 27, 12, 28, 21, 22, 23, 29, 30, 31, 32, 11, 34, 35, 36, 37, 15, 16, 17, 18, 19, 20, 46, 47, 48, 49, 50, 51, 52, 53, 54, 55, 56, 57, 58, 59, 60, 61, 62, 63, 64, 65, 66, 67, 68, 69, 70, 71] (by decide +kernel) (by decide +kernel)
set_option maxRecDepth 20000 in
theorem gX6_readLine_X6_readMore : GoodIn wsX6_readLine (wsV RX6 108 RX6 yX6_readMore wsX6_readMore) := goodIn_app (goodIn_of _ (by decide +kernel)) ggX6_readLine_X6_readMore
theorem dX6_readLine_0 : decode cX6_readLine 0 = .ok (.aload_n 0, 1) := by decide +kernel
theorem dX6_readLine_1 : decode cX6_readLine 1 = .ok (.invokevirtual 98, 3) := by decide +kernel
theorem dX6_readLine_4 : decode cX6_readLine 4 = .ok (.istore_n 1, 1) := by decide +kernel
theorem dX6_readLine_5 : decode cX6_readLine 5 = .ok (.iload_n 1, 1) := by decide +kernel
theorem dX6_readLine_6 : decode cX6_readLine 6 = .ok (.i2l, 1) := by decide +kernel
theorem dX6_readLine_7 : decode cX6_readLine 7 = .ok (.lconst 0, 1) := by decide +kernel
theorem dX6_readLine_8 : decode cX6_readLine 8 = .ok (.ldc2_w 102, 3) := by decide +kernel
theorem dX6_readLine_11 : decode cX6_readLine 11 = .ok (.invokestatic 50, 3) := by decide +kernel
theorem dX6_readLine_14 : decode cX6_readLine 14 = .ok (.ifCond .ne 9, 3) := by decide +kernel
theorem dX6_readLine_17 : decode cX6_readLine 17 = .ok (.aload_n 0, 1) := by decide +kernel
theorem dX6_readLine_18 : decode cX6_readLine 18 = .ok (.iconst 2, 1) := by decide +kernel
theorem dX6_readLine_19 : decode cX6_readLine 19 = .ok (.invokevirtual 87, 3) := by decide +kernel
theorem dX6_readLine_22 : decode cX6_readLine 22 = .ok (.return_, 1) := by decide +kernel
theorem dX6_readLine_23 : decode cX6_readLine 23 = .ok (.iload_n 1, 1) := by decide +kernel
theorem dX6_readLine_24 : decode cX6_readLine 24 = .ok (.iconst 3, 1) := by decide +kernel
theorem dX6_readLine_25 : decode cX6_readLine 25 = .ok (.if_icmp .gt 14, 3) := by decide +kernel
theorem dX6_readLine_28 : decode cX6_readLine 28 = .ok (.aload_n 0, 1) := by decide +kernel
theorem dX6_readLine_29 : decode cX6_readLine 29 = .ok (.getfield 13, 3) := by decide +kernel
theorem dX6_readLine_32 : decode cX6_readLine 32 = .ok (.bipush 35, 2) := by decide +kernel
theorem dX6_readLine_34 : decode cX6_readLine 34 = .ok (.iaload, 1) := by decide +kernel
theorem dX6_readLine_35 : decode cX6_readLine 35 = .ok (.iconst 4, 1) := by decide +kernel
theorem dX6_readLine_36 : decode cX6_readLine 36 = .ok (.if_icmp .eq 20, 3) := by decide +kernel
theorem dX6_readLine_39 : decode cX6_readLine 39 = .ok (.iload_n 1, 1) := by decide +kernel
theorem dX6_readLine_40 : decode cX6_readLine 40 = .ok (.iconst 4, 1) := by decide +kernel
theorem dX6_readLine_41 : decode cX6_readLine 41 = .ok (.if_icmp .ne 20, 3) := by decide +kernel
theorem dX6_readLine_44 : decode cX6_readLine 44 = .ok (.aload_n 0, 1) := by decide +kernel
theorem dX6_readLine_45 : decode cX6_readLine 45 = .ok (.getfield 13, 3) := by decide +kernel
theorem dX6_readLine_48 : decode cX6_readLine 48 = .ok (.bipush 20, 2) := by decide +kernel
theorem dX6_readLine_50 : decode cX6_readLine 50 = .ok (.iaload, 1) := by decide +kernel
theorem dX6_readLine_51 : decode cX6_readLine 51 = .ok (.bipush 10, 2) := by decide +kernel
theorem dX6_readLine_53 : decode cX6_readLine 53 = .ok (.if_icmp .ne 8, 3) := by decide +kernel
theorem dX6_readLine_56 : decode cX6_readLine 56 = .ok (.aload_n 0, 1) := by decide +kernel
theorem dX6_readLine_57 : decode cX6_readLine 57 = .ok (.iconst 5, 1) := by decide +kernel
theorem dX6_readLine_58 : decode cX6_readLine 58 = .ok (.invokevirtual 87, 3) := by decide +kernel
theorem dX6_readLine_61 : decode cX6_readLine 61 = .ok (.iload_n 1, 1) := by decide +kernel
theorem dX6_readLine_62 : decode cX6_readLine 62 = .ok (.iconst 5, 1) := by decide +kernel
theorem dX6_readLine_63 : decode cX6_readLine 63 = .ok (.if_icmp .ne 15, 3) := by decide +kernel
theorem dX6_readLine_66 : decode cX6_readLine 66 = .ok (.aload_n 0, 1) := by decide +kernel
theorem dX6_readLine_67 : decode cX6_readLine 67 = .ok (.getfield 104, 3) := by decide +kernel
theorem dX6_readLine_70 : decode cX6_readLine 70 = .ok (.ifCond .eq 8, 3) := by decide +kernel
theorem dX6_readLine_73 : decode cX6_readLine 73 = .ok (.aload_n 0, 1) := by decide +kernel
theorem dX6_readLine_74 : decode cX6_readLine 74 = .ok (.iconst 4, 1) := by decide +kernel
theorem dX6_readLine_75 : decode cX6_readLine 75 = .ok (.invokevirtual 87, 3) := by decide +kernel
theorem dX6_readLine_78 : decode cX6_readLine 78 = .ok (.aload_n 0, 1) := by decide +kernel
theorem dX6_readLine_79 : decode cX6_readLine 79 = .ok (.aload_n 0, 1) := by decide +kernel
theorem dX6_readLine_80 : decode cX6_readLine 80 = .ok (.getfield 104, 3) := by decide +kernel
theorem dX6_readLine_83 : decode cX6_readLine 83 = .ok (.ifCond .ne 8, 3) := by decide +kernel
theorem dX6_readLine_86 : decode cX6_readLine 86 = .ok (.iload_n 1, 1) := by decide +kernel
theorem dX6_readLine_87 : decode cX6_readLine 87 = .ok (.iconst 5, 1) := by decide +kernel
theorem dX6_readLine_88 : decode cX6_readLine 88 = .ok (.if_icmp .ne 7, 3) := by decide +kernel
theorem dX6_readLine_91 : decode cX6_readLine 91 = .ok (.iconst 1, 1) := by decide +kernel
theorem dX6_readLine_92 : decode cX6_readLine 92 = .ok (.goto 4, 3) := by decide +kernel
theorem dX6_readLine_95 : decode cX6_readLine 95 = .ok (.iconst 0, 1) := by decide +kernel
theorem dX6_readLine_96 : decode cX6_readLine 96 = .ok (.putfield 104, 3) := by decide +kernel
theorem dX6_readLine_99 : decode cX6_readLine 99 = .ok (.aload_n 0, 1) := by decide +kernel
theorem dX6_readLine_100 : decode cX6_readLine 100 = .ok (.invokevirtual 91, 3) := by decide +kernel
theorem dX6_readLine_103 : decode cX6_readLine 103 = .ok (.aload_n 0, 1) := by decide +kernel
theorem dX6_readLine_104 : decode cX6_readLine 104 = .ok (.getfield 57, 3) := by decide +kernel
theorem dX6_readLine_107 : decode cX6_readLine 107 = .ok (.ifCond .le 4, 3) := by decide +kernel
theorem dX6_readLine_110 : decode cX6_readLine 110 = .ok (.return_, 1) := by decide +kernel
theorem dX6_readLine_111 : decode cX6_readLine 111 = .ok (.aload_n 0, 1) := by decide +kernel
theorem dX6_readLine_112 : decode cX6_readLine 112 = .ok (.iload_n 1, 1) := by decide +kernel
theorem dX6_readLine_113 : decode cX6_readLine 113 = .ok (.invokevirtual 108, 3) := by decide +kernel
theorem dX6_readLine_116 : decode cX6_readLine 116 = .ok (.aload_n 0, 1) := by decide +kernel
theorem dX6_readLine_117 : decode cX6_readLine 117 = .ok (.getfield 57, 3) := by decide +kernel
theorem dX6_readLine_120 : decode cX6_readLine 120 = .ok (.ifCond .ne 16, 3) := by decide +kernel
theorem dX6_readLine_123 : decode cX6_readLine 123 = .ok (.aload_n 0, 1) := by decide +kernel
theorem dX6_readLine_124 : decode cX6_readLine 124 = .ok (.getfield 66, 3) := by decide +kernel
theorem dX6_readLine_127 : decode cX6_readLine 127 = .ok (.iconst 3, 1) := by decide +kernel
theorem dX6_readLine_128 : decode cX6_readLine 128 = .ok (.if_icmp .eq 8, 3) := by decide +kernel
theorem dX6_readLine_131 : decode cX6_readLine 131 = .ok (.aload_n 0, 1) := by decide +kernel
theorem dX6_readLine_132 : decode cX6_readLine 132 = .ok (.iconst 2, 1) := by decide +kernel
theorem dX6_readLine_133 : decode cX6_readLine 133 = .ok (.invokevirtual 87, 3) := by decide +kernel
theorem dX6_readLine_136 : decode cX6_readLine 136 = .ok (.aload_n 0, 1) := by decide +kernel
theorem dX6_readLine_137 : decode cX6_readLine 137 = .ok (.invokevirtual 91, 3) := by decide +kernel
theorem dX6_readLine_140 : decode cX6_readLine 140 = .ok (.return_, 1) := by decide +kernel
set_option maxRecDepth 20000 in
theorem ggX6_text_X6_readsOn : GoodIn wsX6_text wsX6_readsOn := goodIn_r _ [16, 1, 2, 17, 18, 5, 19, 20, 21, 22, 23, 24, 25, 15, 26, 6, 27, 28, 29, 30, 31, 32, 33, 34, 8, 54, 55, 56, 57, 58, 59, 60, 61, 62, 63, 64, 65, 66, 67, 68, 69, 70, 71, 72, 73, 74, 75, 76, 77, 78, 79] (by decide +kernel) (by decide +kernel)
set_option maxRecDepth 20000 in
theorem gX6_text_X6_readsOn : GoodIn wsX6_text (wsV RX6 91 RX6 yX6_readsOn wsX6_readsOn) := goodIn_app (goodIn_of _ (by decide +kernel)) ggX6_text_X6_readsOn
set_option maxRecDepth 20000 in
theorem ggX6_text_X6_readLine : GoodIn wsX6_text wsX6_readLine := goodIn_r _ [38, 39, 4, 3, 1, 5, 40, 41, 42, 15, 43, 2, 17, 44, 45, 23, 24, 25, 26, 6, 27, 28, 29, 30, 31, 32, 33, 34, 8, 12, 13, 14, 16, 18, 19, 20, 21, 22, 46, 47, 48, 49, 50, 51, 52, 53, 54, 55, 56, 57, 58, 59, 60, 61, 62, 63, 64, 65, 66, 67, 68, 69, 70, 71, 72, 73, 74, 75, 76, 77, 78, 79] (by decide +kernel) (by decide +kernel)
set_option maxRecDepth 20000 in
theorem gX6_text_X6_readLine : GoodIn wsX6_text (wsV RX6 111 RX6 yX6_readLine wsX6_readLine) := goodIn_app (goodIn_of _ (by decide +kernel)) ggX6_text_X6_readLine
theorem dX6_text_0 : decode cX6_text 0 = .ok (.aload_n 0, 1) := by decide +kernel
theorem dX6_text_1 : decode cX6_text 1 = .ok (.iconst 0, 1) := by decide +kernel
theorem dX6_text_2 : decode cX6_text 2 = .ok (.putfield 57, 3) := by decide +kernel
theorem dX6_text_5 : decode cX6_text 5 = .ok (.aload_n 0, 1) := by decide +kernel
theorem dX6_text_6 : decode cX6_text 6 = .ok (.iconst 0, 1) := by decide +kernel
theorem dX6_text_7 : decode cX6_text 7 = .ok (.putfield 69, 3) := by decide +kernel
theorem dX6_text_10 : decode cX6_text 10 = .ok (.aload_n 0, 1) := by decide +kernel
theorem dX6_text_11 : decode cX6_text 11 = .ok (.iconst 0, 1) := by decide +kernel
theorem dX6_text_12 : decode cX6_text 12 = .ok (.putfield 104, 3) := by decide +kernel
theorem dX6_text_15 : decode cX6_text 15 = .ok (.iconst 0, 1) := by decide +kernel
theorem dX6_text_16 : decode cX6_text 16 = .ok (.istore_n 1, 1) := by decide +kernel
theorem dX6_text_17 : decode cX6_text 17 = .ok (.iconst 0, 1) := by decide +kernel
theorem dX6_text_18 : decode cX6_text 18 = .ok (.istore_n 2, 1) := by decide +kernel
theorem dX6_text_19 : decode cX6_text 19 = .ok (.iload_n 2, 1) := by decide +kernel
theorem dX6_text_20 : decode cX6_text 20 = .ok (.bipush 37, 2) := by decide +kernel
theorem dX6_text_22 : decode cX6_text 22 = .ok (.if_icmp .ge 16, 3) := by decide +kernel
theorem dX6_text_25 : decode cX6_text 25 = .ok (.aload_n 0, 1) := by decide +kernel
theorem dX6_text_26 : decode cX6_text 26 = .ok (.getfield 13, 3) := by decide +kernel
theorem dX6_text_29 : decode cX6_text 29 = .ok (.iload_n 2, 1) := by decide +kernel
theorem dX6_text_30 : decode cX6_text 30 = .ok (.iconst 0, 1) := by decide +kernel
theorem dX6_text_31 : decode cX6_text 31 = .ok (.iastore, 1) := by decide +kernel
theorem dX6_text_32 : decode cX6_text 32 = .ok (.iinc 2 1, 3) := by decide +kernel
theorem dX6_text_35 : decode cX6_text 35 = .ok (.goto (-16), 3) := by decide +kernel
theorem dX6_text_38 : decode cX6_text 38 = .ok (.aload_n 0, 1) := by decide +kernel
theorem dX6_text_39 : decode cX6_text 39 = .ok (.invokevirtual 91, 3) := by decide +kernel
theorem dX6_text_42 : decode cX6_text 42 = .ok (.aload_n 0, 1) := by decide +kernel
theorem dX6_text_43 : decode cX6_text 43 = .ok (.getfield 57, 3) := by decide +kernel
theorem dX6_text_46 : decode cX6_text 46 = .ok (.ifCond .ne 20, 3) := by decide +kernel
theorem dX6_text_49 : decode cX6_text 49 = .ok (.aload_n 0, 1) := by decide +kernel
theorem dX6_text_50 : decode cX6_text 50 = .ok (.getfield 66, 3) := by decide +kernel
theorem dX6_text_53 : decode cX6_text 53 = .ok (.ifCond .eq 13, 3) := by decide +kernel
theorem dX6_text_56 : decode cX6_text 56 = .ok (.aload_n 0, 1) := by decide +kernel
theorem dX6_text_57 : decode cX6_text 57 = .ok (.invokevirtual 111, 3) := by decide +kernel
theorem dX6_text_60 : decode cX6_text 60 = .ok (.iinc 1 1, 3) := by decide +kernel
theorem dX6_text_63 : decode cX6_text 63 = .ok (.goto (-21), 3) := by decide +kernel
theorem dX6_text_66 : decode cX6_text 66 = .ok (.aload_n 0, 1) := by decide +kernel
theorem dX6_text_67 : decode cX6_text 67 = .ok (.iconst 0, 1) := by decide +kernel
theorem dX6_text_68 : decode cX6_text 68 = .ok (.putfield 54, 3) := by decide +kernel
theorem dX6_text_71 : decode cX6_text 71 = .ok (.aload_n 0, 1) := by decide +kernel
theorem dX6_text_72 : decode cX6_text 72 = .ok (.aload_n 0, 1) := by decide +kernel
theorem dX6_text_73 : decode cX6_text 73 = .ok (.getfield 57, 3) := by decide +kernel
theorem dX6_text_76 : decode cX6_text 76 = .ok (.putfield 114, 3) := by decide +kernel
theorem dX6_text_79 : decode cX6_text 79 = .ok (.aload_n 0, 1) := by decide +kernel
theorem dX6_text_80 : decode cX6_text 80 = .ok (.getfield 57, 3) := by decide +kernel
theorem dX6_text_83 : decode cX6_text 83 = .ok (.ifCond .le 11, 3) := by decide +kernel
theorem dX6_text_86 : decode cX6_text 86 = .ok (.bipush (-10), 2) := by decide +kernel
theorem dX6_text_88 : decode cX6_text 88 = .ok (.aload_n 0, 1) := by decide +kernel
theorem dX6_text_89 : decode cX6_text 89 = .ok (.getfield 63, 3) := by decide +kernel
theorem dX6_text_92 : decode cX6_text 92 = .ok (.isub, 1) := by decide +kernel
theorem dX6_text_93 : decode cX6_text 93 = .ok (.ireturn, 1) := by decide +kernel
theorem dX6_text_94 : decode cX6_text 94 = .ok (.iconst 0, 1) := by decide +kernel
theorem dX6_text_95 : decode cX6_text 95 = .ok (.istore_n 2, 1) := by decide +kernel
theorem dX6_text_96 : decode cX6_text 96 = .ok (.iload_n 2, 1) := by decide +kernel
theorem dX6_text_97 : decode cX6_text 97 = .ok (.bipush 37, 2) := by decide +kernel
theorem dX6_text_99 : decode cX6_text 99 = .ok (.if_icmp .ge 21, 3) := by decide +kernel
theorem dX6_text_102 : decode cX6_text 102 = .ok (.aload_n 0, 1) := by decide +kernel
theorem dX6_text_103 : decode cX6_text 103 = .ok (.getfield 7, 3) := by decide +kernel
theorem dX6_text_106 : decode cX6_text 106 = .ok (.iload_n 2, 1) := by decide +kernel
theorem dX6_text_107 : decode cX6_text 107 = .ok (.aload_n 0, 1) := by decide +kernel
theorem dX6_text_108 : decode cX6_text 108 = .ok (.getfield 13, 3) := by decide +kernel
theorem dX6_text_111 : decode cX6_text 111 = .ok (.iload_n 2, 1) := by decide +kernel
theorem dX6_text_112 : decode cX6_text 112 = .ok (.iaload, 1) := by decide +kernel
theorem dX6_text_113 : decode cX6_text 113 = .ok (.iastore, 1) := by decide +kernel
theorem dX6_text_114 : decode cX6_text 114 = .ok (.iinc 2 1, 3) := by decide +kernel
theorem dX6_text_117 : decode cX6_text 117 = .ok (.goto (-21), 3) := by decide +kernel
theorem dX6_text_120 : decode cX6_text 120 = .ok (.aload_n 0, 1) := by decide +kernel
theorem dX6_text_121 : decode cX6_text 121 = .ok (.iconst 0, 1) := by decide +kernel
theorem dX6_text_122 : decode cX6_text 122 = .ok (.putfield 117, 3) := by decide +kernel
theorem dX6_text_125 : decode cX6_text 125 = .ok (.aload_n 0, 1) := by decide +kernel
theorem dX6_text_126 : decode cX6_text 126 = .ok (.getfield 35, 3) := by decide +kernel
theorem dX6_text_129 : decode cX6_text 129 = .ok (.iconst 0, 1) := by decide +kernel
theorem dX6_text_130 : decode cX6_text 130 = .ok (.iconst 0, 1) := by decide +kernel
theorem dX6_text_131 : decode cX6_text 131 = .ok (.bastore, 1) := by decide +kernel
theorem dX6_text_132 : decode cX6_text 132 = .ok (.aload_n 0, 1) := by decide +kernel
theorem dX6_text_133 : decode cX6_text 133 = .ok (.getfield 35, 3) := by decide +kernel
theorem dX6_text_136 : decode cX6_text 136 = .ok (.iconst 1, 1) := by decide +kernel
theorem dX6_text_137 : decode cX6_text 137 = .ok (.iconst 0, 1) := by decide +kernel
theorem dX6_text_138 : decode cX6_text 138 = .ok (.bastore, 1) := by decide +kernel
theorem dX6_text_139 : decode cX6_text 139 = .ok (.iload_n 1, 1) := by decide +kernel
theorem dX6_text_140 : decode cX6_text 140 = .ok (.ireturn, 1) := by decide +kernel
theorem dX6_fault_0 : decode cX6_fault 0 = .ok (.aload_n 0, 1) := by decide +kernel
theorem dX6_fault_1 : decode cX6_fault 1 = .ok (.getfield 114, 3) := by decide +kernel
theorem dX6_fault_4 : decode cX6_fault 4 = .ok (.ireturn, 1) := by decide +kernel
set_option maxRecDepth 20000 in
theorem ggX6_isCorner_X6_in : GoodIn wsX6_isCorner wsX6_in := goodIn_r _ [5] (by decide +kernel) (by decide +kernel)
set_option maxRecDepth 20000 in
theorem gX6_isCorner_X6_in : GoodIn wsX6_isCorner (va_wsS RX6 50 yX6_in wsX6_in) := goodIn_app (goodIn_of _ (by decide +kernel)) ggX6_isCorner_X6_in
theorem dX6_isCorner_0 : decode cX6_isCorner 0 = .ok (.iload_n 1, 1) := by decide +kernel
theorem dX6_isCorner_1 : decode cX6_isCorner 1 = .ok (.i2l, 1) := by decide +kernel
theorem dX6_isCorner_2 : decode cX6_isCorner 2 = .ok (.lconst 0, 1) := by decide +kernel
theorem dX6_isCorner_3 : decode cX6_isCorner 3 = .ok (.aload_n 0, 1) := by decide +kernel
theorem dX6_isCorner_4 : decode cX6_isCorner 4 = .ok (.getfield 7, 3) := by decide +kernel
theorem dX6_isCorner_7 : decode cX6_isCorner 7 = .ok (.bipush 20, 2) := by decide +kernel
theorem dX6_isCorner_9 : decode cX6_isCorner 9 = .ok (.iaload, 1) := by decide +kernel
theorem dX6_isCorner_10 : decode cX6_isCorner 10 = .ok (.iconst 1, 1) := by decide +kernel
theorem dX6_isCorner_11 : decode cX6_isCorner 11 = .ok (.isub, 1) := by decide +kernel
theorem dX6_isCorner_12 : decode cX6_isCorner 12 = .ok (.i2l, 1) := by decide +kernel
theorem dX6_isCorner_13 : decode cX6_isCorner 13 = .ok (.invokestatic 50, 3) := by decide +kernel
theorem dX6_isCorner_16 : decode cX6_isCorner 16 = .ok (.ireturn, 1) := by decide +kernel
set_option maxRecDepth 20000 in
theorem ggX6_isWheel_X6_in : GoodIn wsX6_isWheel wsX6_in := goodIn_r _ [5] (by decide +kernel) (by decide +kernel)
set_option maxRecDepth 20000 in
theorem gX6_isWheel_X6_in : GoodIn wsX6_isWheel (va_wsS RX6 50 yX6_in wsX6_in) := goodIn_app (goodIn_of _ (by decide +kernel)) ggX6_isWheel_X6_in
theorem dX6_isWheel_0 : decode cX6_isWheel 0 = .ok (.iload_n 1, 1) := by decide +kernel
theorem dX6_isWheel_1 : decode cX6_isWheel 1 = .ok (.i2l, 1) := by decide +kernel
theorem dX6_isWheel_2 : decode cX6_isWheel 2 = .ok (.lconst 0, 1) := by decide +kernel
theorem dX6_isWheel_3 : decode cX6_isWheel 3 = .ok (.aload_n 0, 1) := by decide +kernel
theorem dX6_isWheel_4 : decode cX6_isWheel 4 = .ok (.getfield 7, 3) := by decide +kernel
theorem dX6_isWheel_7 : decode cX6_isWheel 7 = .ok (.bipush 35, 2) := by decide +kernel
theorem dX6_isWheel_9 : decode cX6_isWheel 9 = .ok (.iaload, 1) := by decide +kernel
theorem dX6_isWheel_10 : decode cX6_isWheel 10 = .ok (.iconst 1, 1) := by decide +kernel
theorem dX6_isWheel_11 : decode cX6_isWheel 11 = .ok (.isub, 1) := by decide +kernel
theorem dX6_isWheel_12 : decode cX6_isWheel 12 = .ok (.i2l, 1) := by decide +kernel
theorem dX6_isWheel_13 : decode cX6_isWheel 13 = .ok (.invokestatic 50, 3) := by decide +kernel
theorem dX6_isWheel_16 : decode cX6_isWheel 16 = .ok (.ireturn, 1) := by decide +kernel
set_option maxRecDepth 20000 in
theorem ggX6_isPoint_X6_in : GoodIn wsX6_isPoint wsX6_in := goodIn_r _ [5] (by decide +kernel) (by decide +kernel)
set_option maxRecDepth 20000 in
theorem gX6_isPoint_X6_in : GoodIn wsX6_isPoint (va_wsS RX6 50 yX6_in wsX6_in) := goodIn_app (goodIn_of _ (by decide +kernel)) ggX6_isPoint_X6_in
theorem dX6_isPoint_0 : decode cX6_isPoint 0 = .ok (.iload_n 0, 1) := by decide +kernel
theorem dX6_isPoint_1 : decode cX6_isPoint 1 = .ok (.i2l, 1) := by decide +kernel
theorem dX6_isPoint_2 : decode cX6_isPoint 2 = .ok (.lconst 0, 1) := by decide +kernel
theorem dX6_isPoint_3 : decode cX6_isPoint 3 = .ok (.ldc2_w 120, 3) := by decide +kernel
theorem dX6_isPoint_6 : decode cX6_isPoint 6 = .ok (.invokestatic 50, 3) := by decide +kernel
theorem dX6_isPoint_9 : decode cX6_isPoint 9 = .ok (.ifCond .eq 19, 3) := by decide +kernel
theorem dX6_isPoint_12 : decode cX6_isPoint 12 = .ok (.iload_n 1, 1) := by decide +kernel
theorem dX6_isPoint_13 : decode cX6_isPoint 13 = .ok (.i2l, 1) := by decide +kernel
theorem dX6_isPoint_14 : decode cX6_isPoint 14 = .ok (.lconst 0, 1) := by decide +kernel
theorem dX6_isPoint_15 : decode cX6_isPoint 15 = .ok (.ldc2_w 120, 3) := by decide +kernel
theorem dX6_isPoint_18 : decode cX6_isPoint 18 = .ok (.invokestatic 50, 3) := by decide +kernel
theorem dX6_isPoint_21 : decode cX6_isPoint 21 = .ok (.ifCond .eq 7, 3) := by decide +kernel
theorem dX6_isPoint_24 : decode cX6_isPoint 24 = .ok (.iconst 1, 1) := by decide +kernel
theorem dX6_isPoint_25 : decode cX6_isPoint 25 = .ok (.goto 4, 3) := by decide +kernel
theorem dX6_isPoint_28 : decode cX6_isPoint 28 = .ok (.iconst 0, 1) := by decide +kernel
theorem dX6_isPoint_29 : decode cX6_isPoint 29 = .ok (.ireturn, 1) := by decide +kernel
set_option maxRecDepth 20000 in
theorem ggX6_isLong_X6_in : GoodIn wsX6_isLong wsX6_in := goodIn_r _ [5] (by decide +kernel) (by decide +kernel)
set_option maxRecDepth 20000 in
theorem gX6_isLong_X6_in : GoodIn wsX6_isLong (va_wsS RX6 50 yX6_in wsX6_in) := goodIn_app (goodIn_of _ (by decide +kernel)) ggX6_isLong_X6_in
theorem dX6_isLong_0 : decode cX6_isLong 0 = .ok (.iload_n 0, 1) := by decide +kernel
theorem dX6_isLong_1 : decode cX6_isLong 1 = .ok (.i2l, 1) := by decide +kernel
theorem dX6_isLong_2 : decode cX6_isLong 2 = .ok (.lconst 0, 1) := by decide +kernel
theorem dX6_isLong_3 : decode cX6_isLong 3 = .ok (.ldc2_w 122, 3) := by decide +kernel
theorem dX6_isLong_6 : decode cX6_isLong 6 = .ok (.invokestatic 50, 3) := by decide +kernel
theorem dX6_isLong_9 : decode cX6_isLong 9 = .ok (.ireturn, 1) := by decide +kernel
set_option maxRecDepth 20000 in
theorem ggX6_isReading_X6_in : GoodIn wsX6_isReading wsX6_in := goodIn_r _ [6] (by decide +kernel) (by decide +kernel)
set_option maxRecDepth 20000 in
theorem gX6_isReading_X6_in : GoodIn wsX6_isReading (va_wsS RX6 50 yX6_in wsX6_in) := goodIn_app (goodIn_of _ (by decide +kernel)) ggX6_isReading_X6_in
theorem dX6_isReading_0 : decode cX6_isReading 0 = .ok (.iload_n 0, 1) := by decide +kernel
theorem dX6_isReading_1 : decode cX6_isReading 1 = .ok (.i2l, 1) := by decide +kernel
theorem dX6_isReading_2 : decode cX6_isReading 2 = .ok (.ldc2_w 124, 3) := by decide +kernel
theorem dX6_isReading_5 : decode cX6_isReading 5 = .ok (.ldc2_w 126, 3) := by decide +kernel
theorem dX6_isReading_8 : decode cX6_isReading 8 = .ok (.invokestatic 50, 3) := by decide +kernel
theorem dX6_isReading_11 : decode cX6_isReading 11 = .ok (.ireturn, 1) := by decide +kernel
theorem dX6_sweepOn_0 : decode cX6_sweepOn 0 = .ok (.aload_n 0, 1) := by decide +kernel
theorem dX6_sweepOn_1 : decode cX6_sweepOn 1 = .ok (.getfield 7, 3) := by decide +kernel
theorem dX6_sweepOn_4 : decode cX6_sweepOn 4 = .ok (.iload_n 1, 1) := by decide +kernel
theorem dX6_sweepOn_5 : decode cX6_sweepOn 5 = .ok (.bipush 21, 2) := by decide +kernel
theorem dX6_sweepOn_7 : decode cX6_sweepOn 7 = .ok (.iadd, 1) := by decide +kernel
theorem dX6_sweepOn_8 : decode cX6_sweepOn 8 = .ok (.iaload, 1) := by decide +kernel
theorem dX6_sweepOn_9 : decode cX6_sweepOn 9 = .ok (.istore 4, 2) := by decide +kernel
theorem dX6_sweepOn_11 : decode cX6_sweepOn 11 = .ok (.aload_n 0, 1) := by decide +kernel
theorem dX6_sweepOn_12 : decode cX6_sweepOn 12 = .ok (.getfield 7, 3) := by decide +kernel
theorem dX6_sweepOn_15 : decode cX6_sweepOn 15 = .ok (.iload_n 1, 1) := by decide +kernel
theorem dX6_sweepOn_16 : decode cX6_sweepOn 16 = .ok (.bipush 21, 2) := by decide +kernel
theorem dX6_sweepOn_18 : decode cX6_sweepOn 18 = .ok (.iadd, 1) := by decide +kernel
theorem dX6_sweepOn_19 : decode cX6_sweepOn 19 = .ok (.iconst 1, 1) := by decide +kernel
theorem dX6_sweepOn_20 : decode cX6_sweepOn 20 = .ok (.iadd, 1) := by decide +kernel
theorem dX6_sweepOn_21 : decode cX6_sweepOn 21 = .ok (.iaload, 1) := by decide +kernel
theorem dX6_sweepOn_22 : decode cX6_sweepOn 22 = .ok (.istore 5, 2) := by decide +kernel
theorem dX6_sweepOn_24 : decode cX6_sweepOn 24 = .ok (.aload_n 0, 1) := by decide +kernel
theorem dX6_sweepOn_25 : decode cX6_sweepOn 25 = .ok (.getfield 7, 3) := by decide +kernel
theorem dX6_sweepOn_28 : decode cX6_sweepOn 28 = .ok (.iload_n 1, 1) := by decide +kernel
theorem dX6_sweepOn_29 : decode cX6_sweepOn 29 = .ok (.iload_n 2, 1) := by decide +kernel
theorem dX6_sweepOn_30 : decode cX6_sweepOn 30 = .ok (.iadd, 1) := by decide +kernel
theorem dX6_sweepOn_31 : decode cX6_sweepOn 31 = .ok (.iaload, 1) := by decide +kernel
theorem dX6_sweepOn_32 : decode cX6_sweepOn 32 = .ok (.iload 4, 2) := by decide +kernel
theorem dX6_sweepOn_34 : decode cX6_sweepOn 34 = .ok (.isub, 1) := by decide +kernel
theorem dX6_sweepOn_35 : decode cX6_sweepOn 35 = .ok (.aload_n 0, 1) := by decide +kernel
theorem dX6_sweepOn_36 : decode cX6_sweepOn 36 = .ok (.getfield 7, 3) := by decide +kernel
theorem dX6_sweepOn_39 : decode cX6_sweepOn 39 = .ok (.iload_n 1, 1) := by decide +kernel
theorem dX6_sweepOn_40 : decode cX6_sweepOn 40 = .ok (.bipush 10, 2) := by decide +kernel
theorem dX6_sweepOn_42 : decode cX6_sweepOn 42 = .ok (.iadd, 1) := by decide +kernel
theorem dX6_sweepOn_43 : decode cX6_sweepOn 43 = .ok (.iload_n 3, 1) := by decide +kernel
theorem dX6_sweepOn_44 : decode cX6_sweepOn 44 = .ok (.iadd, 1) := by decide +kernel
theorem dX6_sweepOn_45 : decode cX6_sweepOn 45 = .ok (.iaload, 1) := by decide +kernel
theorem dX6_sweepOn_46 : decode cX6_sweepOn 46 = .ok (.iload 5, 2) := by decide +kernel
theorem dX6_sweepOn_48 : decode cX6_sweepOn 48 = .ok (.isub, 1) := by decide +kernel
theorem dX6_sweepOn_49 : decode cX6_sweepOn 49 = .ok (.imul, 1) := by decide +kernel
theorem dX6_sweepOn_50 : decode cX6_sweepOn 50 = .ok (.aload_n 0, 1) := by decide +kernel
theorem dX6_sweepOn_51 : decode cX6_sweepOn 51 = .ok (.getfield 7, 3) := by decide +kernel
theorem dX6_sweepOn_54 : decode cX6_sweepOn 54 = .ok (.iload_n 1, 1) := by decide +kernel
theorem dX6_sweepOn_55 : decode cX6_sweepOn 55 = .ok (.iload_n 3, 1) := by decide +kernel
theorem dX6_sweepOn_56 : decode cX6_sweepOn 56 = .ok (.iadd, 1) := by decide +kernel
theorem dX6_sweepOn_57 : decode cX6_sweepOn 57 = .ok (.iaload, 1) := by decide +kernel
theorem dX6_sweepOn_58 : decode cX6_sweepOn 58 = .ok (.iload 4, 2) := by decide +kernel
theorem dX6_sweepOn_60 : decode cX6_sweepOn 60 = .ok (.isub, 1) := by decide +kernel
theorem dX6_sweepOn_61 : decode cX6_sweepOn 61 = .ok (.aload_n 0, 1) := by decide +kernel
theorem dX6_sweepOn_62 : decode cX6_sweepOn 62 = .ok (.getfield 7, 3) := by decide +kernel
theorem dX6_sweepOn_65 : decode cX6_sweepOn 65 = .ok (.iload_n 1, 1) := by decide +kernel
theorem dX6_sweepOn_66 : decode cX6_sweepOn 66 = .ok (.bipush 10, 2) := by decide +kernel
theorem dX6_sweepOn_68 : decode cX6_sweepOn 68 = .ok (.iadd, 1) := by decide +kernel
theorem dX6_sweepOn_69 : decode cX6_sweepOn 69 = .ok (.iload_n 2, 1) := by decide +kernel
theorem dX6_sweepOn_70 : decode cX6_sweepOn 70 = .ok (.iadd, 1) := by decide +kernel
theorem dX6_sweepOn_71 : decode cX6_sweepOn 71 = .ok (.iaload, 1) := by decide +kernel
theorem dX6_sweepOn_72 : decode cX6_sweepOn 72 = .ok (.iload 5, 2) := by decide +kernel
theorem dX6_sweepOn_74 : decode cX6_sweepOn 74 = .ok (.isub, 1) := by decide +kernel
theorem dX6_sweepOn_75 : decode cX6_sweepOn 75 = .ok (.imul, 1) := by decide +kernel
theorem dX6_sweepOn_76 : decode cX6_sweepOn 76 = .ok (.isub, 1) := by decide +kernel
theorem dX6_sweepOn_77 : decode cX6_sweepOn 77 = .ok (.ireturn, 1) := by decide +kernel
theorem dX6_behindOn_0 : decode cX6_behindOn 0 = .ok (.iload_n 2, 1) := by decide +kernel
theorem dX6_behindOn_1 : decode cX6_behindOn 1 = .ok (.iconst 1, 1) := by decide +kernel
theorem dX6_behindOn_2 : decode cX6_behindOn 2 = .ok (.iadd, 1) := by decide +kernel
theorem dX6_behindOn_3 : decode cX6_behindOn 3 = .ok (.aload_n 0, 1) := by decide +kernel
theorem dX6_behindOn_4 : decode cX6_behindOn 4 = .ok (.getfield 7, 3) := by decide +kernel
theorem dX6_behindOn_7 : decode cX6_behindOn 7 = .ok (.iload_n 1, 1) := by decide +kernel
theorem dX6_behindOn_8 : decode cX6_behindOn 8 = .ok (.bipush 20, 2) := by decide +kernel
theorem dX6_behindOn_10 : decode cX6_behindOn 10 = .ok (.iadd, 1) := by decide +kernel
theorem dX6_behindOn_11 : decode cX6_behindOn 11 = .ok (.iaload, 1) := by decide +kernel
theorem dX6_behindOn_12 : decode cX6_behindOn 12 = .ok (.irem, 1) := by decide +kernel
theorem dX6_behindOn_13 : decode cX6_behindOn 13 = .ok (.ireturn, 1) := by decide +kernel
set_option maxRecDepth 20000 in
theorem ggX6_areaOn_X6_behindOn : GoodIn wsX6_areaOn wsX6_behindOn := goodIn_r _ [7, 1, 12, 13, 14, 15, 16, 17, 18, 19, 20, 21, 22, 23, 24, 25, 26, 27, 28, 29, 30, 31, 32, 33, 34, 35, 36, 37] (by decide +kernel) (by decide +kernel)
set_option maxRecDepth 20000 in
theorem gX6_areaOn_X6_behindOn : GoodIn wsX6_areaOn (wsV RX6 128 RX6 yX6_behindOn wsX6_behindOn) := goodIn_app (goodIn_of _ (by decide +kernel)) ggX6_areaOn_X6_behindOn
set_option maxRecDepth 20000 in
theorem ggX6_areaOn_X6_sweepOn : GoodIn wsX6_areaOn wsX6_sweepOn := goodIn_r _ [11, 1, 12, 13, 14, 15, 16, 17, 18, 19, 20, 21, 22, 23, 24, 25, 26, 27, 28, 29, 30, 31, 32, 33, 34, 35, 36, 37] (by decide +kernel) (by decide +kernel)
set_option maxRecDepth 20000 in
theorem gX6_areaOn_X6_sweepOn : GoodIn wsX6_areaOn (wsV RX6 131 RX6 yX6_sweepOn wsX6_sweepOn) := goodIn_app (goodIn_of _ (by decide +kernel)) ggX6_areaOn_X6_sweepOn
theorem dX6_areaOn_0 : decode cX6_areaOn 0 = .ok (.iconst 0, 1) := by decide +kernel
theorem dX6_areaOn_1 : decode cX6_areaOn 1 = .ok (.istore_n 2, 1) := by decide +kernel
theorem dX6_areaOn_2 : decode cX6_areaOn 2 = .ok (.iconst 0, 1) := by decide +kernel
theorem dX6_areaOn_3 : decode cX6_areaOn 3 = .ok (.istore_n 3, 1) := by decide +kernel
theorem dX6_areaOn_4 : decode cX6_areaOn 4 = .ok (.iload_n 3, 1) := by decide +kernel
theorem dX6_areaOn_5 : decode cX6_areaOn 5 = .ok (.aload_n 0, 1) := by decide +kernel
theorem dX6_areaOn_6 : decode cX6_areaOn 6 = .ok (.getfield 7, 3) := by decide +kernel
theorem dX6_areaOn_9 : decode cX6_areaOn 9 = .ok (.iload_n 1, 1) := by decide +kernel
theorem dX6_areaOn_10 : decode cX6_areaOn 10 = .ok (.bipush 20, 2) := by decide +kernel
theorem dX6_areaOn_12 : decode cX6_areaOn 12 = .ok (.iadd, 1) := by decide +kernel
theorem dX6_areaOn_13 : decode cX6_areaOn 13 = .ok (.iaload, 1) := by decide +kernel
theorem dX6_areaOn_14 : decode cX6_areaOn 14 = .ok (.if_icmp .ge 59, 3) := by decide +kernel
theorem dX6_areaOn_17 : decode cX6_areaOn 17 = .ok (.iload_n 3, 1) := by decide +kernel
theorem dX6_areaOn_18 : decode cX6_areaOn 18 = .ok (.aload_n 0, 1) := by decide +kernel
theorem dX6_areaOn_19 : decode cX6_areaOn 19 = .ok (.getfield 25, 3) := by decide +kernel
theorem dX6_areaOn_22 : decode cX6_areaOn 22 = .ok (.if_icmp .eq 45, 3) := by decide +kernel
theorem dX6_areaOn_25 : decode cX6_areaOn 25 = .ok (.aload_n 0, 1) := by decide +kernel
theorem dX6_areaOn_26 : decode cX6_areaOn 26 = .ok (.iload_n 1, 1) := by decide +kernel
theorem dX6_areaOn_27 : decode cX6_areaOn 27 = .ok (.iload_n 3, 1) := by decide +kernel
theorem dX6_areaOn_28 : decode cX6_areaOn 28 = .ok (.invokevirtual 128, 3) := by decide +kernel
theorem dX6_areaOn_31 : decode cX6_areaOn 31 = .ok (.istore 4, 2) := by decide +kernel
theorem dX6_areaOn_33 : decode cX6_areaOn 33 = .ok (.iload 4, 2) := by decide +kernel
theorem dX6_areaOn_35 : decode cX6_areaOn 35 = .ok (.aload_n 0, 1) := by decide +kernel
theorem dX6_areaOn_36 : decode cX6_areaOn 36 = .ok (.getfield 25, 3) := by decide +kernel
theorem dX6_areaOn_39 : decode cX6_areaOn 39 = .ok (.if_icmp .ne 13, 3) := by decide +kernel
theorem dX6_areaOn_42 : decode cX6_areaOn 42 = .ok (.aload_n 0, 1) := by decide +kernel
theorem dX6_areaOn_43 : decode cX6_areaOn 43 = .ok (.iload_n 1, 1) := by decide +kernel
theorem dX6_areaOn_44 : decode cX6_areaOn 44 = .ok (.iload 4, 2) := by decide +kernel
theorem dX6_areaOn_46 : decode cX6_areaOn 46 = .ok (.invokevirtual 128, 3) := by decide +kernel
theorem dX6_areaOn_49 : decode cX6_areaOn 49 = .ok (.goto 5, 3) := by decide +kernel
theorem dX6_areaOn_52 : decode cX6_areaOn 52 = .ok (.iload 4, 2) := by decide +kernel
theorem dX6_areaOn_54 : decode cX6_areaOn 54 = .ok (.istore 4, 2) := by decide +kernel
theorem dX6_areaOn_56 : decode cX6_areaOn 56 = .ok (.iload_n 2, 1) := by decide +kernel
theorem dX6_areaOn_57 : decode cX6_areaOn 57 = .ok (.aload_n 0, 1) := by decide +kernel
theorem dX6_areaOn_58 : decode cX6_areaOn 58 = .ok (.iload_n 1, 1) := by decide +kernel
theorem dX6_areaOn_59 : decode cX6_areaOn 59 = .ok (.iload_n 3, 1) := by decide +kernel
theorem dX6_areaOn_60 : decode cX6_areaOn 60 = .ok (.iload 4, 2) := by decide +kernel
theorem dX6_areaOn_62 : decode cX6_areaOn 62 = .ok (.invokevirtual 131, 3) := by decide +kernel
theorem dX6_areaOn_65 : decode cX6_areaOn 65 = .ok (.iadd, 1) := by decide +kernel
theorem dX6_areaOn_66 : decode cX6_areaOn 66 = .ok (.istore_n 2, 1) := by decide +kernel
theorem dX6_areaOn_67 : decode cX6_areaOn 67 = .ok (.iinc 3 1, 3) := by decide +kernel
theorem dX6_areaOn_70 : decode cX6_areaOn 70 = .ok (.goto (-66), 3) := by decide +kernel
theorem dX6_areaOn_73 : decode cX6_areaOn 73 = .ok (.iload_n 2, 1) := by decide +kernel
theorem dX6_areaOn_74 : decode cX6_areaOn 74 = .ok (.ireturn, 1) := by decide +kernel
set_option maxRecDepth 20000 in
theorem ggX6_rollsOn_X6_amount : GoodIn wsX6_rollsOn wsX6_amount := goodIn_r _ [5] (by decide +kernel) (by decide +kernel)
set_option maxRecDepth 20000 in
theorem gX6_rollsOn_X6_amount : GoodIn wsX6_rollsOn (va_wsS RX6 135 yX6_amount wsX6_amount) := goodIn_app (goodIn_of _ (by decide +kernel)) ggX6_rollsOn_X6_amount
theorem dX6_rollsOn_0 : decode cX6_rollsOn 0 = .ok (.aload_n 0, 1) := by decide +kernel
theorem dX6_rollsOn_1 : decode cX6_rollsOn 1 = .ok (.getfield 7, 3) := by decide +kernel
theorem dX6_rollsOn_4 : decode cX6_rollsOn 4 = .ok (.iload_n 1, 1) := by decide +kernel
theorem dX6_rollsOn_5 : decode cX6_rollsOn 5 = .ok (.bipush 23, 2) := by decide +kernel
theorem dX6_rollsOn_7 : decode cX6_rollsOn 7 = .ok (.iadd, 1) := by decide +kernel
theorem dX6_rollsOn_8 : decode cX6_rollsOn 8 = .ok (.iload_n 2, 1) := by decide +kernel
theorem dX6_rollsOn_9 : decode cX6_rollsOn 9 = .ok (.iadd, 1) := by decide +kernel
theorem dX6_rollsOn_10 : decode cX6_rollsOn 10 = .ok (.iaload, 1) := by decide +kernel
theorem dX6_rollsOn_11 : decode cX6_rollsOn 11 = .ok (.istore 4, 2) := by decide +kernel
theorem dX6_rollsOn_13 : decode cX6_rollsOn 13 = .ok (.aload_n 0, 1) := by decide +kernel
theorem dX6_rollsOn_14 : decode cX6_rollsOn 14 = .ok (.getfield 7, 3) := by decide +kernel
theorem dX6_rollsOn_17 : decode cX6_rollsOn 17 = .ok (.iload_n 1, 1) := by decide +kernel
theorem dX6_rollsOn_18 : decode cX6_rollsOn 18 = .ok (.bipush 27, 2) := by decide +kernel
theorem dX6_rollsOn_20 : decode cX6_rollsOn 20 = .ok (.iadd, 1) := by decide +kernel
theorem dX6_rollsOn_21 : decode cX6_rollsOn 21 = .ok (.iload_n 2, 1) := by decide +kernel
theorem dX6_rollsOn_22 : decode cX6_rollsOn 22 = .ok (.iadd, 1) := by decide +kernel
theorem dX6_rollsOn_23 : decode cX6_rollsOn 23 = .ok (.iaload, 1) := by decide +kernel
theorem dX6_rollsOn_24 : decode cX6_rollsOn 24 = .ok (.istore 5, 2) := by decide +kernel
theorem dX6_rollsOn_26 : decode cX6_rollsOn 26 = .ok (.iload 4, 2) := by decide +kernel
theorem dX6_rollsOn_28 : decode cX6_rollsOn 28 = .ok (.iconst 1, 1) := by decide +kernel
theorem dX6_rollsOn_29 : decode cX6_rollsOn 29 = .ok (.if_icmp .ne 11, 3) := by decide +kernel
theorem dX6_rollsOn_32 : decode cX6_rollsOn 32 = .ok (.iload_n 3, 1) := by decide +kernel
theorem dX6_rollsOn_33 : decode cX6_rollsOn 33 = .ok (.iload 5, 2) := by decide +kernel
theorem dX6_rollsOn_35 : decode cX6_rollsOn 35 = .ok (.idiv, 1) := by decide +kernel
theorem dX6_rollsOn_36 : decode cX6_rollsOn 36 = .ok (.iload 5, 2) := by decide +kernel
theorem dX6_rollsOn_38 : decode cX6_rollsOn 38 = .ok (.imul, 1) := by decide +kernel
theorem dX6_rollsOn_39 : decode cX6_rollsOn 39 = .ok (.ireturn, 1) := by decide +kernel
theorem dX6_rollsOn_40 : decode cX6_rollsOn 40 = .ok (.iload 4, 2) := by decide +kernel
theorem dX6_rollsOn_42 : decode cX6_rollsOn 42 = .ok (.iconst 1, 1) := by decide +kernel
theorem dX6_rollsOn_43 : decode cX6_rollsOn 43 = .ok (.if_icmp .le 12, 3) := by decide +kernel
theorem dX6_rollsOn_46 : decode cX6_rollsOn 46 = .ok (.iload_n 3, 1) := by decide +kernel
theorem dX6_rollsOn_47 : decode cX6_rollsOn 47 = .ok (.invokestatic 135, 3) := by decide +kernel
theorem dX6_rollsOn_50 : decode cX6_rollsOn 50 = .ok (.iload 5, 2) := by decide +kernel
theorem dX6_rollsOn_52 : decode cX6_rollsOn 52 = .ok (.if_icmp .lt 13, 3) := by decide +kernel
theorem dX6_rollsOn_55 : decode cX6_rollsOn 55 = .ok (.iload 4, 2) := by decide +kernel
theorem dX6_rollsOn_57 : decode cX6_rollsOn 57 = .ok (.iconst 3, 1) := by decide +kernel
theorem dX6_rollsOn_58 : decode cX6_rollsOn 58 = .ok (.if_icmp .ne 11, 3) := by decide +kernel
theorem dX6_rollsOn_61 : decode cX6_rollsOn 61 = .ok (.iload_n 3, 1) := by decide +kernel
theorem dX6_rollsOn_62 : decode cX6_rollsOn 62 = .ok (.ifCond .ge 7, 3) := by decide +kernel
theorem dX6_rollsOn_65 : decode cX6_rollsOn 65 = .ok (.iconst 1, 1) := by decide +kernel
theorem dX6_rollsOn_66 : decode cX6_rollsOn 66 = .ok (.goto 4, 3) := by decide +kernel
theorem dX6_rollsOn_69 : decode cX6_rollsOn 69 = .ok (.iconst 0, 1) := by decide +kernel
theorem dX6_rollsOn_70 : decode cX6_rollsOn 70 = .ok (.istore 6, 2) := by decide +kernel
theorem dX6_rollsOn_72 : decode cX6_rollsOn 72 = .ok (.iload 6, 2) := by decide +kernel
theorem dX6_rollsOn_74 : decode cX6_rollsOn 74 = .ok (.ifCond .eq 7, 3) := by decide +kernel
theorem dX6_rollsOn_77 : decode cX6_rollsOn 77 = .ok (.iconst 0, 1) := by decide +kernel
theorem dX6_rollsOn_78 : decode cX6_rollsOn 78 = .ok (.goto 4, 3) := by decide +kernel
theorem dX6_rollsOn_81 : decode cX6_rollsOn 81 = .ok (.iload_n 3, 1) := by decide +kernel
theorem dX6_rollsOn_82 : decode cX6_rollsOn 82 = .ok (.ireturn, 1) := by decide +kernel
set_option maxRecDepth 20000 in
theorem ggX6_errorOn_X6_behindOn : GoodIn wsX6_errorOn wsX6_behindOn := goodIn_r _ [6, 1, 23, 24, 25, 26, 27, 28, 29, 30, 31, 32, 33, 34, 35, 36, 37, 38, 39, 40, 41, 42, 43, 44, 45, 46, 47, 48] (by decide +kernel) (by decide +kernel)
set_option maxRecDepth 20000 in
theorem gX6_errorOn_X6_behindOn : GoodIn wsX6_errorOn (wsV RX6 128 RX6 yX6_behindOn wsX6_behindOn) := goodIn_app (goodIn_of _ (by decide +kernel)) ggX6_errorOn_X6_behindOn
set_option maxRecDepth 20000 in
theorem ggX6_errorOn_X6_sweepOn : GoodIn wsX6_errorOn wsX6_sweepOn := goodIn_r _ [10, 1, 23, 24, 25, 26, 27, 28, 29, 30, 31, 32, 33, 34, 35, 36, 37, 38, 39, 40, 41, 42, 43, 44, 45, 46, 47, 48] (by decide +kernel) (by decide +kernel)
set_option maxRecDepth 20000 in
theorem gX6_errorOn_X6_sweepOn : GoodIn wsX6_errorOn (wsV RX6 131 RX6 yX6_sweepOn wsX6_sweepOn) := goodIn_app (goodIn_of _ (by decide +kernel)) ggX6_errorOn_X6_sweepOn
set_option maxRecDepth 20000 in
theorem ggX6_errorOn_X6_rollsOn : GoodIn wsX6_errorOn wsX6_rollsOn := goodIn_r _ [14, 1, 15, 16, 5, 17, 23, 24, 25, 26, 27, 28, 29, 30, 31, 32, 33, 34, 35, 36, 37, 38, 39, 40, 41, 42, 43, 44, 45, 46, 47, 48] (by decide +kernel) (by decide +kernel)
set_option maxRecDepth 20000 in
theorem gX6_errorOn_X6_rollsOn : GoodIn wsX6_errorOn (wsV RX6 138 RX6 yX6_rollsOn wsX6_rollsOn) := goodIn_app (goodIn_of _ (by decide +kernel)) ggX6_errorOn_X6_rollsOn
set_option maxRecDepth 20000 in
theorem ggX6_errorOn_X6_areaOn : GoodIn wsX6_errorOn wsX6_areaOn := goodIn_r _ [21, 1, 22, 2, 3, 4, 5, 6, 7, 8, 9, 10, 23, 24, 25, 26, 27, 28, 29, 30, 31, 32, 33, 34, 35, 36, 37, 38, 39, 40, 41, 42, 43, 44, 45, 46, 47, 48] (by decide +kernel) (by decide +kernel)
set_option maxRecDepth 20000 in
theorem gX6_errorOn_X6_areaOn : GoodIn wsX6_errorOn (wsV RX6 141 RX6 yX6_areaOn wsX6_areaOn) := goodIn_app (goodIn_of _ (by decide +kernel)) ggX6_errorOn_X6_areaOn
set_option maxRecDepth 20000 in
theorem ggX6_errorOn_X6_amount : GoodIn wsX6_errorOn wsX6_amount := goodIn_r _ [17] (by decide +kernel) (by decide +kernel)
set_option maxRecDepth 20000 in
theorem gX6_errorOn_X6_amount : GoodIn wsX6_errorOn (va_wsS RX6 135 yX6_amount wsX6_amount) := goodIn_app (goodIn_of _ (by decide +kernel)) ggX6_errorOn_X6_amount
theorem dX6_errorOn_0 : decode cX6_errorOn 0 = .ok (.iconst 0, 1) := by decide +kernel
theorem dX6_errorOn_1 : decode cX6_errorOn 1 = .ok (.istore_n 3, 1) := by decide +kernel
theorem dX6_errorOn_2 : decode cX6_errorOn 2 = .ok (.iconst 0, 1) := by decide +kernel
theorem dX6_errorOn_3 : decode cX6_errorOn 3 = .ok (.istore 4, 2) := by decide +kernel
theorem dX6_errorOn_5 : decode cX6_errorOn 5 = .ok (.iload 4, 2) := by decide +kernel
theorem dX6_errorOn_7 : decode cX6_errorOn 7 = .ok (.aload_n 0, 1) := by decide +kernel
theorem dX6_errorOn_8 : decode cX6_errorOn 8 = .ok (.getfield 7, 3) := by decide +kernel
theorem dX6_errorOn_11 : decode cX6_errorOn 11 = .ok (.iload_n 1, 1) := by decide +kernel
theorem dX6_errorOn_12 : decode cX6_errorOn 12 = .ok (.bipush 20, 2) := by decide +kernel
theorem dX6_errorOn_14 : decode cX6_errorOn 14 = .ok (.iadd, 1) := by decide +kernel
theorem dX6_errorOn_15 : decode cX6_errorOn 15 = .ok (.iaload, 1) := by decide +kernel
theorem dX6_errorOn_16 : decode cX6_errorOn 16 = .ok (.if_icmp .ge 32, 3) := by decide +kernel
theorem dX6_errorOn_19 : decode cX6_errorOn 19 = .ok (.iload_n 3, 1) := by decide +kernel
theorem dX6_errorOn_20 : decode cX6_errorOn 20 = .ok (.aload_n 0, 1) := by decide +kernel
theorem dX6_errorOn_21 : decode cX6_errorOn 21 = .ok (.iload_n 1, 1) := by decide +kernel
theorem dX6_errorOn_22 : decode cX6_errorOn 22 = .ok (.iload_n 2, 1) := by decide +kernel
theorem dX6_errorOn_23 : decode cX6_errorOn 23 = .ok (.aload_n 0, 1) := by decide +kernel
theorem dX6_errorOn_24 : decode cX6_errorOn 24 = .ok (.iload_n 1, 1) := by decide +kernel
theorem dX6_errorOn_25 : decode cX6_errorOn 25 = .ok (.iload 4, 2) := by decide +kernel
theorem dX6_errorOn_27 : decode cX6_errorOn 27 = .ok (.aload_n 0, 1) := by decide +kernel
theorem dX6_errorOn_28 : decode cX6_errorOn 28 = .ok (.iload_n 1, 1) := by decide +kernel
theorem dX6_errorOn_29 : decode cX6_errorOn 29 = .ok (.iload 4, 2) := by decide +kernel
theorem dX6_errorOn_31 : decode cX6_errorOn 31 = .ok (.invokevirtual 128, 3) := by decide +kernel
theorem dX6_errorOn_34 : decode cX6_errorOn 34 = .ok (.invokevirtual 131, 3) := by decide +kernel
theorem dX6_errorOn_37 : decode cX6_errorOn 37 = .ok (.invokevirtual 138, 3) := by decide +kernel
theorem dX6_errorOn_40 : decode cX6_errorOn 40 = .ok (.iadd, 1) := by decide +kernel
theorem dX6_errorOn_41 : decode cX6_errorOn 41 = .ok (.istore_n 3, 1) := by decide +kernel
theorem dX6_errorOn_42 : decode cX6_errorOn 42 = .ok (.iinc 4 1, 3) := by decide +kernel
theorem dX6_errorOn_45 : decode cX6_errorOn 45 = .ok (.goto (-40), 3) := by decide +kernel
theorem dX6_errorOn_48 : decode cX6_errorOn 48 = .ok (.iload_n 3, 1) := by decide +kernel
theorem dX6_errorOn_49 : decode cX6_errorOn 49 = .ok (.aload_n 0, 1) := by decide +kernel
theorem dX6_errorOn_50 : decode cX6_errorOn 50 = .ok (.iload_n 1, 1) := by decide +kernel
theorem dX6_errorOn_51 : decode cX6_errorOn 51 = .ok (.invokevirtual 141, 3) := by decide +kernel
theorem dX6_errorOn_54 : decode cX6_errorOn 54 = .ok (.isub, 1) := by decide +kernel
theorem dX6_errorOn_55 : decode cX6_errorOn 55 = .ok (.invokestatic 135, 3) := by decide +kernel
theorem dX6_errorOn_58 : decode cX6_errorOn 58 = .ok (.ireturn, 1) := by decide +kernel
theorem dX6_starts_0 : decode cX6_starts 0 = .ok (.aload_n 0, 1) := by decide +kernel
theorem dX6_starts_1 : decode cX6_starts 1 = .ok (.iconst 0, 1) := by decide +kernel
theorem dX6_starts_2 : decode cX6_starts 2 = .ok (.putfield 144, 3) := by decide +kernel
theorem dX6_starts_5 : decode cX6_starts 5 = .ok (.aload_n 0, 1) := by decide +kernel
theorem dX6_starts_6 : decode cX6_starts 6 = .ok (.iconst 0, 1) := by decide +kernel
theorem dX6_starts_7 : decode cX6_starts 7 = .ok (.putfield 147, 3) := by decide +kernel
theorem dX6_starts_10 : decode cX6_starts 10 = .ok (.aload_n 0, 1) := by decide +kernel
theorem dX6_starts_11 : decode cX6_starts 11 = .ok (.ldc 150, 2) := by decide +kernel
theorem dX6_starts_13 : decode cX6_starts 13 = .ok (.putfield 151, 3) := by decide +kernel
theorem dX6_starts_16 : decode cX6_starts 16 = .ok (.return_, 1) := by decide +kernel
set_option maxRecDepth 20000 in
theorem ggX6_edgeOn_X6_behindOn : GoodIn wsX6_edgeOn wsX6_behindOn := goodIn_r _ [9, 1, 21, 22, 23, 24, 25, 26, 27, 28, 29, 30, 31, 32, 33, 34, 35, 36, 37, 38, 39, 40, 41, 42, 43, 44, 45, 46] (by decide +kernel) (by decide +kernel)
set_option maxRecDepth 20000 in
theorem gX6_edgeOn_X6_behindOn : GoodIn wsX6_edgeOn (wsV RX6 128 RX6 yX6_behindOn wsX6_behindOn) := goodIn_app (goodIn_of _ (by decide +kernel)) ggX6_edgeOn_X6_behindOn
set_option maxRecDepth 20000 in
theorem ggX6_edgeOn_X6_sweepOn : GoodIn wsX6_edgeOn wsX6_sweepOn := goodIn_r _ [13, 1, 21, 22, 23, 24, 25, 26, 27, 28, 29, 30, 31, 32, 33, 34, 35, 36, 37, 38, 39, 40, 41, 42, 43, 44, 45, 46] (by decide +kernel) (by decide +kernel)
set_option maxRecDepth 20000 in
theorem gX6_edgeOn_X6_sweepOn : GoodIn wsX6_edgeOn (wsV RX6 131 RX6 yX6_sweepOn wsX6_sweepOn) := goodIn_app (goodIn_of _ (by decide +kernel)) ggX6_edgeOn_X6_sweepOn
set_option maxRecDepth 20000 in
theorem ggX6_edgeOn_X6_rollsOn : GoodIn wsX6_edgeOn wsX6_rollsOn := goodIn_r _ [17, 1, 18, 19, 8, 20, 21, 22, 23, 24, 25, 26, 27, 28, 29, 30, 31, 32, 33, 34, 35, 36, 37, 38, 39, 40, 41, 42, 43, 44, 45, 46] (by decide +kernel) (by decide +kernel)
set_option maxRecDepth 20000 in
theorem gX6_edgeOn_X6_rollsOn : GoodIn wsX6_edgeOn (wsV RX6 138 RX6 yX6_rollsOn wsX6_rollsOn) := goodIn_app (goodIn_of _ (by decide +kernel)) ggX6_edgeOn_X6_rollsOn
set_option maxRecDepth 20000 in
theorem ggX6_edgeOn_X6_amount : GoodIn wsX6_edgeOn wsX6_amount := goodIn_r _ [20] (by decide +kernel) (by decide +kernel)
set_option maxRecDepth 20000 in
theorem gX6_edgeOn_X6_amount : GoodIn wsX6_edgeOn (va_wsS RX6 135 yX6_amount wsX6_amount) := goodIn_app (goodIn_of _ (by decide +kernel)) ggX6_edgeOn_X6_amount
theorem dX6_edgeOn_0 : decode cX6_edgeOn 0 = .ok (.aload_n 0, 1) := by decide +kernel
theorem dX6_edgeOn_1 : decode cX6_edgeOn 1 = .ok (.iload_n 1, 1) := by decide +kernel
theorem dX6_edgeOn_2 : decode cX6_edgeOn 2 = .ok (.iload_n 2, 1) := by decide +kernel
theorem dX6_edgeOn_3 : decode cX6_edgeOn 3 = .ok (.aload_n 0, 1) := by decide +kernel
theorem dX6_edgeOn_4 : decode cX6_edgeOn 4 = .ok (.iload_n 1, 1) := by decide +kernel
theorem dX6_edgeOn_5 : decode cX6_edgeOn 5 = .ok (.iload_n 2, 1) := by decide +kernel
theorem dX6_edgeOn_6 : decode cX6_edgeOn 6 = .ok (.invokevirtual 128, 3) := by decide +kernel
theorem dX6_edgeOn_9 : decode cX6_edgeOn 9 = .ok (.invokevirtual 131, 3) := by decide +kernel
theorem dX6_edgeOn_12 : decode cX6_edgeOn 12 = .ok (.istore_n 3, 1) := by decide +kernel
theorem dX6_edgeOn_13 : decode cX6_edgeOn 13 = .ok (.iconst 0, 1) := by decide +kernel
theorem dX6_edgeOn_14 : decode cX6_edgeOn 14 = .ok (.istore 4, 2) := by decide +kernel
theorem dX6_edgeOn_16 : decode cX6_edgeOn 16 = .ok (.iconst 0, 1) := by decide +kernel
theorem dX6_edgeOn_17 : decode cX6_edgeOn 17 = .ok (.istore 5, 2) := by decide +kernel
theorem dX6_edgeOn_19 : decode cX6_edgeOn 19 = .ok (.iload 5, 2) := by decide +kernel
theorem dX6_edgeOn_21 : decode cX6_edgeOn 21 = .ok (.aload_n 0, 1) := by decide +kernel
theorem dX6_edgeOn_22 : decode cX6_edgeOn 22 = .ok (.getfield 7, 3) := by decide +kernel
theorem dX6_edgeOn_25 : decode cX6_edgeOn 25 = .ok (.iload_n 1, 1) := by decide +kernel
theorem dX6_edgeOn_26 : decode cX6_edgeOn 26 = .ok (.bipush 35, 2) := by decide +kernel
theorem dX6_edgeOn_28 : decode cX6_edgeOn 28 = .ok (.iadd, 1) := by decide +kernel
theorem dX6_edgeOn_29 : decode cX6_edgeOn 29 = .ok (.iaload, 1) := by decide +kernel
theorem dX6_edgeOn_30 : decode cX6_edgeOn 30 = .ok (.if_icmp .ge 67, 3) := by decide +kernel
theorem dX6_edgeOn_33 : decode cX6_edgeOn 33 = .ok (.aload_n 0, 1) := by decide +kernel
theorem dX6_edgeOn_34 : decode cX6_edgeOn 34 = .ok (.iload_n 1, 1) := by decide +kernel
theorem dX6_edgeOn_35 : decode cX6_edgeOn 35 = .ok (.iload 5, 2) := by decide +kernel
theorem dX6_edgeOn_37 : decode cX6_edgeOn 37 = .ok (.iload_n 3, 1) := by decide +kernel
theorem dX6_edgeOn_38 : decode cX6_edgeOn 38 = .ok (.invokevirtual 138, 3) := by decide +kernel
theorem dX6_edgeOn_41 : decode cX6_edgeOn 41 = .ok (.istore 6, 2) := by decide +kernel
theorem dX6_edgeOn_43 : decode cX6_edgeOn 43 = .ok (.aload_n 0, 1) := by decide +kernel
theorem dX6_edgeOn_44 : decode cX6_edgeOn 44 = .ok (.getfield 7, 3) := by decide +kernel
theorem dX6_edgeOn_47 : decode cX6_edgeOn 47 = .ok (.iload_n 1, 1) := by decide +kernel
theorem dX6_edgeOn_48 : decode cX6_edgeOn 48 = .ok (.bipush 31, 2) := by decide +kernel
theorem dX6_edgeOn_50 : decode cX6_edgeOn 50 = .ok (.iadd, 1) := by decide +kernel
theorem dX6_edgeOn_51 : decode cX6_edgeOn 51 = .ok (.iload 5, 2) := by decide +kernel
theorem dX6_edgeOn_53 : decode cX6_edgeOn 53 = .ok (.iadd, 1) := by decide +kernel
theorem dX6_edgeOn_54 : decode cX6_edgeOn 54 = .ok (.dup2, 1) := by decide +kernel
theorem dX6_edgeOn_55 : decode cX6_edgeOn 55 = .ok (.iaload, 1) := by decide +kernel
theorem dX6_edgeOn_56 : decode cX6_edgeOn 56 = .ok (.iload 6, 2) := by decide +kernel
theorem dX6_edgeOn_58 : decode cX6_edgeOn 58 = .ok (.iadd, 1) := by decide +kernel
theorem dX6_edgeOn_59 : decode cX6_edgeOn 59 = .ok (.iastore, 1) := by decide +kernel
theorem dX6_edgeOn_60 : decode cX6_edgeOn 60 = .ok (.aload_n 0, 1) := by decide +kernel
theorem dX6_edgeOn_61 : decode cX6_edgeOn 61 = .ok (.dup, 1) := by decide +kernel
theorem dX6_edgeOn_62 : decode cX6_edgeOn 62 = .ok (.getfield 144, 3) := by decide +kernel
theorem dX6_edgeOn_65 : decode cX6_edgeOn 65 = .ok (.iload 6, 2) := by decide +kernel
theorem dX6_edgeOn_67 : decode cX6_edgeOn 67 = .ok (.invokestatic 135, 3) := by decide +kernel
theorem dX6_edgeOn_70 : decode cX6_edgeOn 70 = .ok (.iadd, 1) := by decide +kernel
theorem dX6_edgeOn_71 : decode cX6_edgeOn 71 = .ok (.putfield 144, 3) := by decide +kernel
theorem dX6_edgeOn_74 : decode cX6_edgeOn 74 = .ok (.iload 4, 2) := by decide +kernel
theorem dX6_edgeOn_76 : decode cX6_edgeOn 76 = .ok (.ifCond .ne 8, 3) := by decide +kernel
theorem dX6_edgeOn_79 : decode cX6_edgeOn 79 = .ok (.iload 6, 2) := by decide +kernel
theorem dX6_edgeOn_81 : decode cX6_edgeOn 81 = .ok (.ifCond .ne 7, 3) := by decide +kernel
theorem dX6_edgeOn_84 : decode cX6_edgeOn 84 = .ok (.iconst 1, 1) := by decide +kernel
theorem dX6_edgeOn_85 : decode cX6_edgeOn 85 = .ok (.goto 4, 3) := by decide +kernel
theorem dX6_edgeOn_88 : decode cX6_edgeOn 88 = .ok (.iconst 0, 1) := by decide +kernel
theorem dX6_edgeOn_89 : decode cX6_edgeOn 89 = .ok (.istore 4, 2) := by decide +kernel
theorem dX6_edgeOn_91 : decode cX6_edgeOn 91 = .ok (.iinc 5 1, 3) := by decide +kernel
theorem dX6_edgeOn_94 : decode cX6_edgeOn 94 = .ok (.goto (-75), 3) := by decide +kernel
theorem dX6_edgeOn_97 : decode cX6_edgeOn 97 = .ok (.aload_n 0, 1) := by decide +kernel
theorem dX6_edgeOn_98 : decode cX6_edgeOn 98 = .ok (.dup, 1) := by decide +kernel
theorem dX6_edgeOn_99 : decode cX6_edgeOn 99 = .ok (.getfield 147, 3) := by decide +kernel
theorem dX6_edgeOn_102 : decode cX6_edgeOn 102 = .ok (.iload 4, 2) := by decide +kernel
theorem dX6_edgeOn_104 : decode cX6_edgeOn 104 = .ok (.ifCond .eq 7, 3) := by decide +kernel
theorem dX6_edgeOn_107 : decode cX6_edgeOn 107 = .ok (.iconst 1, 1) := by decide +kernel
theorem dX6_edgeOn_108 : decode cX6_edgeOn 108 = .ok (.goto 4, 3) := by decide +kernel
theorem dX6_edgeOn_111 : decode cX6_edgeOn 111 = .ok (.iconst 0, 1) := by decide +kernel
theorem dX6_edgeOn_112 : decode cX6_edgeOn 112 = .ok (.iadd, 1) := by decide +kernel
theorem dX6_edgeOn_113 : decode cX6_edgeOn 113 = .ok (.putfield 147, 3) := by decide +kernel
theorem dX6_edgeOn_116 : decode cX6_edgeOn 116 = .ok (.aload_n 0, 1) := by decide +kernel
theorem dX6_edgeOn_117 : decode cX6_edgeOn 117 = .ok (.iload_n 3, 1) := by decide +kernel
theorem dX6_edgeOn_118 : decode cX6_edgeOn 118 = .ok (.aload_n 0, 1) := by decide +kernel
theorem dX6_edgeOn_119 : decode cX6_edgeOn 119 = .ok (.getfield 151, 3) := by decide +kernel
theorem dX6_edgeOn_122 : decode cX6_edgeOn 122 = .ok (.if_icmp .le 7, 3) := by decide +kernel
theorem dX6_edgeOn_125 : decode cX6_edgeOn 125 = .ok (.iload_n 3, 1) := by decide +kernel
theorem dX6_edgeOn_126 : decode cX6_edgeOn 126 = .ok (.goto 7, 3) := by decide +kernel
theorem dX6_edgeOn_129 : decode cX6_edgeOn 129 = .ok (.aload_n 0, 1) := by decide +kernel
theorem dX6_edgeOn_130 : decode cX6_edgeOn 130 = .ok (.getfield 151, 3) := by decide +kernel
theorem dX6_edgeOn_133 : decode cX6_edgeOn 133 = .ok (.putfield 151, 3) := by decide +kernel
theorem dX6_edgeOn_136 : decode cX6_edgeOn 136 = .ok (.return_, 1) := by decide +kernel
set_option maxRecDepth 20000 in
theorem ggX6_tracesOn_X6_edgeOn : GoodIn wsX6_tracesOn wsX6_edgeOn := goodIn_r _ [6, 1, 7, 8, 9, 10, 11, 12, 5, 13, 14, 15, 16, 17, 18, 19, 20, 21, 22, 23, 24, 25, 26, 27, 28, 29, 30, 31, 32, 33, 34, 35, 36, 37, 38, 39, 40, 41, 42, 43, 44, 45, 46, 47, 48, 49, 50] (by decide +kernel) (by decide +kernel)
set_option maxRecDepth 20000 in
theorem gX6_tracesOn_X6_edgeOn : GoodIn wsX6_tracesOn (wsV RX6 154 RX6 yX6_edgeOn wsX6_edgeOn) := goodIn_app (goodIn_of _ (by decide +kernel)) ggX6_tracesOn_X6_edgeOn
theorem dX6_tracesOn_0 : decode cX6_tracesOn 0 = .ok (.aload_n 0, 1) := by decide +kernel
theorem dX6_tracesOn_1 : decode cX6_tracesOn 1 = .ok (.getfield 7, 3) := by decide +kernel
theorem dX6_tracesOn_4 : decode cX6_tracesOn 4 = .ok (.iload_n 1, 1) := by decide +kernel
theorem dX6_tracesOn_5 : decode cX6_tracesOn 5 = .ok (.bipush 20, 2) := by decide +kernel
theorem dX6_tracesOn_7 : decode cX6_tracesOn 7 = .ok (.iadd, 1) := by decide +kernel
theorem dX6_tracesOn_8 : decode cX6_tracesOn 8 = .ok (.iaload, 1) := by decide +kernel
theorem dX6_tracesOn_9 : decode cX6_tracesOn 9 = .ok (.istore_n 3, 1) := by decide +kernel
theorem dX6_tracesOn_10 : decode cX6_tracesOn 10 = .ok (.iload_n 3, 1) := by decide +kernel
theorem dX6_tracesOn_11 : decode cX6_tracesOn 11 = .ok (.ifCond .le 23, 3) := by decide +kernel
theorem dX6_tracesOn_14 : decode cX6_tracesOn 14 = .ok (.iload_n 2, 1) := by decide +kernel
theorem dX6_tracesOn_15 : decode cX6_tracesOn 15 = .ok (.ifCond .ne 19, 3) := by decide +kernel
theorem dX6_tracesOn_18 : decode cX6_tracesOn 18 = .ok (.aload_n 0, 1) := by decide +kernel
theorem dX6_tracesOn_19 : decode cX6_tracesOn 19 = .ok (.iload_n 1, 1) := by decide +kernel
theorem dX6_tracesOn_20 : decode cX6_tracesOn 20 = .ok (.aload_n 0, 1) := by decide +kernel
theorem dX6_tracesOn_21 : decode cX6_tracesOn 21 = .ok (.getfield 7, 3) := by decide +kernel
theorem dX6_tracesOn_24 : decode cX6_tracesOn 24 = .ok (.iload_n 1, 1) := by decide +kernel
theorem dX6_tracesOn_25 : decode cX6_tracesOn 25 = .ok (.bipush 36, 2) := by decide +kernel
theorem dX6_tracesOn_27 : decode cX6_tracesOn 27 = .ok (.iadd, 1) := by decide +kernel
theorem dX6_tracesOn_28 : decode cX6_tracesOn 28 = .ok (.iaload, 1) := by decide +kernel
theorem dX6_tracesOn_29 : decode cX6_tracesOn 29 = .ok (.iload_n 3, 1) := by decide +kernel
theorem dX6_tracesOn_30 : decode cX6_tracesOn 30 = .ok (.irem, 1) := by decide +kernel
theorem dX6_tracesOn_31 : decode cX6_tracesOn 31 = .ok (.invokevirtual 154, 3) := by decide +kernel
theorem dX6_tracesOn_34 : decode cX6_tracesOn 34 = .ok (.aload_n 0, 1) := by decide +kernel
theorem dX6_tracesOn_35 : decode cX6_tracesOn 35 = .ok (.getfield 7, 3) := by decide +kernel
theorem dX6_tracesOn_38 : decode cX6_tracesOn 38 = .ok (.iload_n 1, 1) := by decide +kernel
theorem dX6_tracesOn_39 : decode cX6_tracesOn 39 = .ok (.bipush 36, 2) := by decide +kernel
theorem dX6_tracesOn_41 : decode cX6_tracesOn 41 = .ok (.iadd, 1) := by decide +kernel
theorem dX6_tracesOn_42 : decode cX6_tracesOn 42 = .ok (.dup2, 1) := by decide +kernel
theorem dX6_tracesOn_43 : decode cX6_tracesOn 43 = .ok (.iaload, 1) := by decide +kernel
theorem dX6_tracesOn_44 : decode cX6_tracesOn 44 = .ok (.iconst 1, 1) := by decide +kernel
theorem dX6_tracesOn_45 : decode cX6_tracesOn 45 = .ok (.iadd, 1) := by decide +kernel
theorem dX6_tracesOn_46 : decode cX6_tracesOn 46 = .ok (.iastore, 1) := by decide +kernel
theorem dX6_tracesOn_47 : decode cX6_tracesOn 47 = .ok (.return_, 1) := by decide +kernel
set_option maxRecDepth 20000 in
theorem ggX6_rule_X6_areaOn : GoodIn wsX6_rule wsX6_areaOn := goodIn_r _ [7, 1, 8, 9, 10, 11, 6, 12, 13, 14, 15, 16, 17, 18, 19, 20, 21, 22, 23, 24, 25, 26, 27, 28, 29, 30, 31, 32, 33, 34, 35, 36, 37, 38, 39, 40, 41, 42] (by decide +kernel) (by decide +kernel)
set_option maxRecDepth 20000 in
theorem gX6_rule_X6_areaOn : GoodIn wsX6_rule (wsV RX6 141 RX6 yX6_areaOn wsX6_areaOn) := goodIn_app (goodIn_of _ (by decide +kernel)) ggX6_rule_X6_areaOn
theorem dX6_rule_0 : decode cX6_rule 0 = .ok (.aload_n 0, 1) := by decide +kernel
theorem dX6_rule_1 : decode cX6_rule 1 = .ok (.getfield 7, 3) := by decide +kernel
theorem dX6_rule_4 : decode cX6_rule 4 = .ok (.bipush 20, 2) := by decide +kernel
theorem dX6_rule_6 : decode cX6_rule 6 = .ok (.iaload, 1) := by decide +kernel
theorem dX6_rule_7 : decode cX6_rule 7 = .ok (.istore_n 2, 1) := by decide +kernel
theorem dX6_rule_8 : decode cX6_rule 8 = .ok (.iload_n 1, 1) := by decide +kernel
theorem dX6_rule_9 : decode cX6_rule 9 = .ok (.tableswitch 105 0 6 #[43, 45, 53, 61, 70, 89, 97], 43) := by decide +kernel
theorem dX6_rule_52 : decode cX6_rule 52 = .ok (.iload_n 2, 1) := by decide +kernel
theorem dX6_rule_53 : decode cX6_rule 53 = .ok (.ireturn, 1) := by decide +kernel
theorem dX6_rule_54 : decode cX6_rule 54 = .ok (.aload_n 0, 1) := by decide +kernel
theorem dX6_rule_55 : decode cX6_rule 55 = .ok (.getfield 7, 3) := by decide +kernel
theorem dX6_rule_58 : decode cX6_rule 58 = .ok (.bipush 35, 2) := by decide +kernel
theorem dX6_rule_60 : decode cX6_rule 60 = .ok (.iaload, 1) := by decide +kernel
theorem dX6_rule_61 : decode cX6_rule 61 = .ok (.ireturn, 1) := by decide +kernel
theorem dX6_rule_62 : decode cX6_rule 62 = .ok (.aload_n 0, 1) := by decide +kernel
theorem dX6_rule_63 : decode cX6_rule 63 = .ok (.getfield 7, 3) := by decide +kernel
theorem dX6_rule_66 : decode cX6_rule 66 = .ok (.bipush 36, 2) := by decide +kernel
theorem dX6_rule_68 : decode cX6_rule 68 = .ok (.iaload, 1) := by decide +kernel
theorem dX6_rule_69 : decode cX6_rule 69 = .ok (.ireturn, 1) := by decide +kernel
theorem dX6_rule_70 : decode cX6_rule 70 = .ok (.ldc 158, 2) := by decide +kernel
theorem dX6_rule_72 : decode cX6_rule 72 = .ok (.aload_n 0, 1) := by decide +kernel
theorem dX6_rule_73 : decode cX6_rule 73 = .ok (.iconst 0, 1) := by decide +kernel
theorem dX6_rule_74 : decode cX6_rule 74 = .ok (.invokevirtual 141, 3) := by decide +kernel
theorem dX6_rule_77 : decode cX6_rule 77 = .ok (.iadd, 1) := by decide +kernel
theorem dX6_rule_78 : decode cX6_rule 78 = .ok (.ireturn, 1) := by decide +kernel
theorem dX6_rule_79 : decode cX6_rule 79 = .ok (.iload_n 2, 1) := by decide +kernel
theorem dX6_rule_80 : decode cX6_rule 80 = .ok (.ifCond .ne 8, 3) := by decide +kernel
theorem dX6_rule_83 : decode cX6_rule 83 = .ok (.bipush (-4), 2) := by decide +kernel
theorem dX6_rule_85 : decode cX6_rule 85 = .ok (.goto 12, 3) := by decide +kernel
theorem dX6_rule_88 : decode cX6_rule 88 = .ok (.aload_n 0, 1) := by decide +kernel
theorem dX6_rule_89 : decode cX6_rule 89 = .ok (.getfield 7, 3) := by decide +kernel
theorem dX6_rule_92 : decode cX6_rule 92 = .ok (.bipush 36, 2) := by decide +kernel
theorem dX6_rule_94 : decode cX6_rule 94 = .ok (.iaload, 1) := by decide +kernel
theorem dX6_rule_95 : decode cX6_rule 95 = .ok (.iload_n 2, 1) := by decide +kernel
theorem dX6_rule_96 : decode cX6_rule 96 = .ok (.irem, 1) := by decide +kernel
theorem dX6_rule_97 : decode cX6_rule 97 = .ok (.ireturn, 1) := by decide +kernel
theorem dX6_rule_98 : decode cX6_rule 98 = .ok (.aload_n 0, 1) := by decide +kernel
theorem dX6_rule_99 : decode cX6_rule 99 = .ok (.getfield 7, 3) := by decide +kernel
theorem dX6_rule_102 : decode cX6_rule 102 = .ok (.bipush 21, 2) := by decide +kernel
theorem dX6_rule_104 : decode cX6_rule 104 = .ok (.iaload, 1) := by decide +kernel
theorem dX6_rule_105 : decode cX6_rule 105 = .ok (.ireturn, 1) := by decide +kernel
theorem dX6_rule_106 : decode cX6_rule 106 = .ok (.aload_n 0, 1) := by decide +kernel
theorem dX6_rule_107 : decode cX6_rule 107 = .ok (.getfield 7, 3) := by decide +kernel
theorem dX6_rule_110 : decode cX6_rule 110 = .ok (.bipush 22, 2) := by decide +kernel
theorem dX6_rule_112 : decode cX6_rule 112 = .ok (.iaload, 1) := by decide +kernel
theorem dX6_rule_113 : decode cX6_rule 113 = .ok (.ireturn, 1) := by decide +kernel
theorem dX6_rule_114 : decode cX6_rule 114 = .ok (.iconst (-1), 1) := by decide +kernel
theorem dX6_rule_115 : decode cX6_rule 115 = .ok (.ireturn, 1) := by decide +kernel
set_option maxRecDepth 20000 in
theorem ggX6_corner_X6_isCorner : GoodIn wsX6_corner wsX6_isCorner := goodIn_r _ [7, 2, 8, 9, 6, 10, 19, 20, 21, 22, 23, 24, 25, 26, 27, 28, 29, 30, 31, 32, 33, 34, 35, 36, 37, 38, 39, 40, 41, 42, 43, 44] (by decide +kernel) (by decide +kernel)
set_option maxRecDepth 20000 in
theorem gX6_corner_X6_isCorner : GoodIn wsX6_corner (wsV RX6 159 RX6 yX6_isCorner wsX6_isCorner) := goodIn_app (goodIn_of _ (by decide +kernel)) ggX6_corner_X6_isCorner
set_option maxRecDepth 20000 in
theorem ggX6_corner_X6_in : GoodIn wsX6_corner wsX6_in := goodIn_r _ [10] (by decide +kernel) (by decide +kernel)
set_option maxRecDepth 20000 in
theorem gX6_corner_X6_in : GoodIn wsX6_corner (va_wsS RX6 50 yX6_in wsX6_in) := goodIn_app (goodIn_of _ (by decide +kernel)) ggX6_corner_X6_in
set_option maxRecDepth 20000 in
theorem ggX6_corner_X6_behindOn : GoodIn wsX6_corner wsX6_behindOn := goodIn_r _ [14, 2, 19, 20, 21, 22, 23, 24, 25, 26, 27, 28, 29, 30, 31, 32, 33, 34, 35, 36, 37, 38, 39, 40, 41, 42, 43, 44] (by decide +kernel) (by decide +kernel)
set_option maxRecDepth 20000 in
theorem gX6_corner_X6_behindOn : GoodIn wsX6_corner (wsV RX6 128 RX6 yX6_behindOn wsX6_behindOn) := goodIn_app (goodIn_of _ (by decide +kernel)) ggX6_corner_X6_behindOn
set_option maxRecDepth 20000 in
theorem ggX6_corner_X6_sweepOn : GoodIn wsX6_corner wsX6_sweepOn := goodIn_r _ [18, 2, 19, 20, 21, 22, 23, 24, 25, 26, 27, 28, 29, 30, 31, 32, 33, 34, 35, 36, 37, 38, 39, 40, 41, 42, 43, 44] (by decide +kernel) (by decide +kernel)
set_option maxRecDepth 20000 in
theorem gX6_corner_X6_sweepOn : GoodIn wsX6_corner (wsV RX6 131 RX6 yX6_sweepOn wsX6_sweepOn) := goodIn_app (goodIn_of _ (by decide +kernel)) ggX6_corner_X6_sweepOn
theorem dX6_corner_0 : decode cX6_corner 0 = .ok (.aload_n 0, 1) := by decide +kernel
theorem dX6_corner_1 : decode cX6_corner 1 = .ok (.iload_n 1, 1) := by decide +kernel
theorem dX6_corner_2 : decode cX6_corner 2 = .ok (.invokevirtual 159, 3) := by decide +kernel
theorem dX6_corner_5 : decode cX6_corner 5 = .ok (.ifCond .eq 15, 3) := by decide +kernel
theorem dX6_corner_8 : decode cX6_corner 8 = .ok (.iload_n 2, 1) := by decide +kernel
theorem dX6_corner_9 : decode cX6_corner 9 = .ok (.i2l, 1) := by decide +kernel
theorem dX6_corner_10 : decode cX6_corner 10 = .ok (.lconst 0, 1) := by decide +kernel
theorem dX6_corner_11 : decode cX6_corner 11 = .ok (.ldc2_w 163, 3) := by decide +kernel
theorem dX6_corner_14 : decode cX6_corner 14 = .ok (.invokestatic 50, 3) := by decide +kernel
theorem dX6_corner_17 : decode cX6_corner 17 = .ok (.ifCond .ne 5, 3) := by decide +kernel
theorem dX6_corner_20 : decode cX6_corner 20 = .ok (.iconst (-1), 1) := by decide +kernel
theorem dX6_corner_21 : decode cX6_corner 21 = .ok (.ireturn, 1) := by decide +kernel
theorem dX6_corner_22 : decode cX6_corner 22 = .ok (.iload_n 2, 1) := by decide +kernel
theorem dX6_corner_23 : decode cX6_corner 23 = .ok (.iconst 2, 1) := by decide +kernel
theorem dX6_corner_24 : decode cX6_corner 24 = .ok (.if_icmp .ge 17, 3) := by decide +kernel
theorem dX6_corner_27 : decode cX6_corner 27 = .ok (.aload_n 0, 1) := by decide +kernel
theorem dX6_corner_28 : decode cX6_corner 28 = .ok (.getfield 7, 3) := by decide +kernel
theorem dX6_corner_31 : decode cX6_corner 31 = .ok (.bipush 10, 2) := by decide +kernel
theorem dX6_corner_33 : decode cX6_corner 33 = .ok (.iload_n 2, 1) := by decide +kernel
theorem dX6_corner_34 : decode cX6_corner 34 = .ok (.imul, 1) := by decide +kernel
theorem dX6_corner_35 : decode cX6_corner 35 = .ok (.iload_n 1, 1) := by decide +kernel
theorem dX6_corner_36 : decode cX6_corner 36 = .ok (.iadd, 1) := by decide +kernel
theorem dX6_corner_37 : decode cX6_corner 37 = .ok (.iaload, 1) := by decide +kernel
theorem dX6_corner_38 : decode cX6_corner 38 = .ok (.goto 19, 3) := by decide +kernel
theorem dX6_corner_41 : decode cX6_corner 41 = .ok (.sipush 10000, 3) := by decide +kernel
theorem dX6_corner_44 : decode cX6_corner 44 = .ok (.aload_n 0, 1) := by decide +kernel
theorem dX6_corner_45 : decode cX6_corner 45 = .ok (.iconst 0, 1) := by decide +kernel
theorem dX6_corner_46 : decode cX6_corner 46 = .ok (.iload_n 1, 1) := by decide +kernel
theorem dX6_corner_47 : decode cX6_corner 47 = .ok (.aload_n 0, 1) := by decide +kernel
theorem dX6_corner_48 : decode cX6_corner 48 = .ok (.iconst 0, 1) := by decide +kernel
theorem dX6_corner_49 : decode cX6_corner 49 = .ok (.iload_n 1, 1) := by decide +kernel
theorem dX6_corner_50 : decode cX6_corner 50 = .ok (.invokevirtual 128, 3) := by decide +kernel
theorem dX6_corner_53 : decode cX6_corner 53 = .ok (.invokevirtual 131, 3) := by decide +kernel
theorem dX6_corner_56 : decode cX6_corner 56 = .ok (.iadd, 1) := by decide +kernel
theorem dX6_corner_57 : decode cX6_corner 57 = .ok (.ireturn, 1) := by decide +kernel
theorem dX6_showsOn_0 : decode cX6_showsOn 0 = .ok (.aload_n 0, 1) := by decide +kernel
theorem dX6_showsOn_1 : decode cX6_showsOn 1 = .ok (.getfield 7, 3) := by decide +kernel
theorem dX6_showsOn_4 : decode cX6_showsOn 4 = .ok (.iload_n 1, 1) := by decide +kernel
theorem dX6_showsOn_5 : decode cX6_showsOn 5 = .ok (.bipush 23, 2) := by decide +kernel
theorem dX6_showsOn_7 : decode cX6_showsOn 7 = .ok (.iadd, 1) := by decide +kernel
theorem dX6_showsOn_8 : decode cX6_showsOn 8 = .ok (.iload_n 2, 1) := by decide +kernel
theorem dX6_showsOn_9 : decode cX6_showsOn 9 = .ok (.iadd, 1) := by decide +kernel
theorem dX6_showsOn_10 : decode cX6_showsOn 10 = .ok (.iaload, 1) := by decide +kernel
theorem dX6_showsOn_11 : decode cX6_showsOn 11 = .ok (.istore_n 3, 1) := by decide +kernel
theorem dX6_showsOn_12 : decode cX6_showsOn 12 = .ok (.aload_n 0, 1) := by decide +kernel
theorem dX6_showsOn_13 : decode cX6_showsOn 13 = .ok (.getfield 7, 3) := by decide +kernel
theorem dX6_showsOn_16 : decode cX6_showsOn 16 = .ok (.iload_n 1, 1) := by decide +kernel
theorem dX6_showsOn_17 : decode cX6_showsOn 17 = .ok (.bipush 31, 2) := by decide +kernel
theorem dX6_showsOn_19 : decode cX6_showsOn 19 = .ok (.iadd, 1) := by decide +kernel
theorem dX6_showsOn_20 : decode cX6_showsOn 20 = .ok (.iload_n 2, 1) := by decide +kernel
theorem dX6_showsOn_21 : decode cX6_showsOn 21 = .ok (.iadd, 1) := by decide +kernel
theorem dX6_showsOn_22 : decode cX6_showsOn 22 = .ok (.iaload, 1) := by decide +kernel
theorem dX6_showsOn_23 : decode cX6_showsOn 23 = .ok (.istore 4, 2) := by decide +kernel
theorem dX6_showsOn_25 : decode cX6_showsOn 25 = .ok (.iload_n 3, 1) := by decide +kernel
theorem dX6_showsOn_26 : decode cX6_showsOn 26 = .ok (.iconst 1, 1) := by decide +kernel
theorem dX6_showsOn_27 : decode cX6_showsOn 27 = .ok (.if_icmp .ne 20, 3) := by decide +kernel
theorem dX6_showsOn_30 : decode cX6_showsOn 30 = .ok (.iload 4, 2) := by decide +kernel
theorem dX6_showsOn_32 : decode cX6_showsOn 32 = .ok (.aload_n 0, 1) := by decide +kernel
theorem dX6_showsOn_33 : decode cX6_showsOn 33 = .ok (.getfield 7, 3) := by decide +kernel
theorem dX6_showsOn_36 : decode cX6_showsOn 36 = .ok (.iload_n 1, 1) := by decide +kernel
theorem dX6_showsOn_37 : decode cX6_showsOn 37 = .ok (.bipush 27, 2) := by decide +kernel
theorem dX6_showsOn_39 : decode cX6_showsOn 39 = .ok (.iadd, 1) := by decide +kernel
theorem dX6_showsOn_40 : decode cX6_showsOn 40 = .ok (.iload_n 2, 1) := by decide +kernel
theorem dX6_showsOn_41 : decode cX6_showsOn 41 = .ok (.iadd, 1) := by decide +kernel
theorem dX6_showsOn_42 : decode cX6_showsOn 42 = .ok (.iaload, 1) := by decide +kernel
theorem dX6_showsOn_43 : decode cX6_showsOn 43 = .ok (.idiv, 1) := by decide +kernel
theorem dX6_showsOn_44 : decode cX6_showsOn 44 = .ok (.goto 17, 3) := by decide +kernel
theorem dX6_showsOn_47 : decode cX6_showsOn 47 = .ok (.iload_n 3, 1) := by decide +kernel
theorem dX6_showsOn_48 : decode cX6_showsOn 48 = .ok (.iconst 3, 1) := by decide +kernel
theorem dX6_showsOn_49 : decode cX6_showsOn 49 = .ok (.if_icmp .ne 10, 3) := by decide +kernel
theorem dX6_showsOn_52 : decode cX6_showsOn 52 = .ok (.iconst 2, 1) := by decide +kernel
theorem dX6_showsOn_53 : decode cX6_showsOn 53 = .ok (.iload 4, 2) := by decide +kernel
theorem dX6_showsOn_55 : decode cX6_showsOn 55 = .ok (.imul, 1) := by decide +kernel
theorem dX6_showsOn_56 : decode cX6_showsOn 56 = .ok (.goto 5, 3) := by decide +kernel
theorem dX6_showsOn_59 : decode cX6_showsOn 59 = .ok (.iload 4, 2) := by decide +kernel
theorem dX6_showsOn_61 : decode cX6_showsOn 61 = .ok (.ireturn, 1) := by decide +kernel
set_option maxRecDepth 20000 in
theorem ggX6_wheel_X6_isWheel : GoodIn wsX6_wheel wsX6_isWheel := goodIn_r _ [7, 1, 8, 9, 6, 10, 39, 40, 41, 42, 43, 44, 45, 46, 47, 48, 49, 50, 51, 52, 53, 54, 55, 56, 57, 58, 59, 60, 61, 62, 63, 64] (by decide +kernel) (by decide +kernel)
set_option maxRecDepth 20000 in
theorem gX6_wheel_X6_isWheel : GoodIn wsX6_wheel (wsV RX6 165 RX6 yX6_isWheel wsX6_isWheel) := goodIn_app (goodIn_of _ (by decide +kernel)) ggX6_wheel_X6_isWheel
set_option maxRecDepth 20000 in
theorem ggX6_wheel_X6_showsOn : GoodIn wsX6_wheel wsX6_showsOn := goodIn_r _ [14, 1, 39, 40, 41, 42, 43, 44, 45, 46, 47, 48, 49, 50, 51, 52, 53, 54, 55, 56, 57, 58, 59, 60, 61, 62, 63, 64] (by decide +kernel) (by decide +kernel)
set_option maxRecDepth 20000 in
theorem gX6_wheel_X6_showsOn : GoodIn wsX6_wheel (wsV RX6 169 RX6 yX6_showsOn wsX6_showsOn) := goodIn_app (goodIn_of _ (by decide +kernel)) ggX6_wheel_X6_showsOn
set_option maxRecDepth 20000 in
theorem ggX6_wheel_X6_errorOn : GoodIn wsX6_wheel wsX6_errorOn := goodIn_r _ [18, 1, 19, 20, 21, 6, 22, 23, 24, 25, 26, 27, 28, 29, 30, 31, 32, 33, 34, 35, 36, 37, 38, 39, 40, 41, 42, 43, 44, 45, 46, 47, 48, 49, 50, 51, 52, 53, 54, 55, 56, 57, 58, 59, 60, 61, 62, 63, 64] (by decide +kernel) (by decide +kernel)
set_option maxRecDepth 20000 in
theorem gX6_wheel_X6_errorOn : GoodIn wsX6_wheel (wsV RX6 172 RX6 yX6_errorOn wsX6_errorOn) := goodIn_app (goodIn_of _ (by decide +kernel)) ggX6_wheel_X6_errorOn
theorem dX6_wheel_0 : decode cX6_wheel 0 = .ok (.aload_n 0, 1) := by decide +kernel
theorem dX6_wheel_1 : decode cX6_wheel 1 = .ok (.iload_n 1, 1) := by decide +kernel
theorem dX6_wheel_2 : decode cX6_wheel 2 = .ok (.invokevirtual 165, 3) := by decide +kernel
theorem dX6_wheel_5 : decode cX6_wheel 5 = .ok (.ifCond .ne 5, 3) := by decide +kernel
theorem dX6_wheel_8 : decode cX6_wheel 8 = .ok (.iconst (-1), 1) := by decide +kernel
theorem dX6_wheel_9 : decode cX6_wheel 9 = .ok (.ireturn, 1) := by decide +kernel
theorem dX6_wheel_10 : decode cX6_wheel 10 = .ok (.iload_n 2, 1) := by decide +kernel
theorem dX6_wheel_11 : decode cX6_wheel 11 = .ok (.tableswitch 83 0 4 #[33, 43, 53, 66, 76], 33) := by decide +kernel
theorem dX6_wheel_44 : decode cX6_wheel 44 = .ok (.aload_n 0, 1) := by decide +kernel
theorem dX6_wheel_45 : decode cX6_wheel 45 = .ok (.getfield 7, 3) := by decide +kernel
theorem dX6_wheel_48 : decode cX6_wheel 48 = .ok (.bipush 23, 2) := by decide +kernel
theorem dX6_wheel_50 : decode cX6_wheel 50 = .ok (.iload_n 1, 1) := by decide +kernel
theorem dX6_wheel_51 : decode cX6_wheel 51 = .ok (.iadd, 1) := by decide +kernel
theorem dX6_wheel_52 : decode cX6_wheel 52 = .ok (.iaload, 1) := by decide +kernel
theorem dX6_wheel_53 : decode cX6_wheel 53 = .ok (.ireturn, 1) := by decide +kernel
theorem dX6_wheel_54 : decode cX6_wheel 54 = .ok (.aload_n 0, 1) := by decide +kernel
theorem dX6_wheel_55 : decode cX6_wheel 55 = .ok (.getfield 7, 3) := by decide +kernel
theorem dX6_wheel_58 : decode cX6_wheel 58 = .ok (.bipush 27, 2) := by decide +kernel
theorem dX6_wheel_60 : decode cX6_wheel 60 = .ok (.iload_n 1, 1) := by decide +kernel
theorem dX6_wheel_61 : decode cX6_wheel 61 = .ok (.iadd, 1) := by decide +kernel
theorem dX6_wheel_62 : decode cX6_wheel 62 = .ok (.iaload, 1) := by decide +kernel
theorem dX6_wheel_63 : decode cX6_wheel 63 = .ok (.ireturn, 1) := by decide +kernel
theorem dX6_wheel_64 : decode cX6_wheel 64 = .ok (.ldc 168, 2) := by decide +kernel
theorem dX6_wheel_66 : decode cX6_wheel 66 = .ok (.aload_n 0, 1) := by decide +kernel
theorem dX6_wheel_67 : decode cX6_wheel 67 = .ok (.getfield 7, 3) := by decide +kernel
theorem dX6_wheel_70 : decode cX6_wheel 70 = .ok (.bipush 31, 2) := by decide +kernel
theorem dX6_wheel_72 : decode cX6_wheel 72 = .ok (.iload_n 1, 1) := by decide +kernel
theorem dX6_wheel_73 : decode cX6_wheel 73 = .ok (.iadd, 1) := by decide +kernel
theorem dX6_wheel_74 : decode cX6_wheel 74 = .ok (.iaload, 1) := by decide +kernel
theorem dX6_wheel_75 : decode cX6_wheel 75 = .ok (.iadd, 1) := by decide +kernel
theorem dX6_wheel_76 : decode cX6_wheel 76 = .ok (.ireturn, 1) := by decide +kernel
theorem dX6_wheel_77 : decode cX6_wheel 77 = .ok (.ldc 168, 2) := by decide +kernel
theorem dX6_wheel_79 : decode cX6_wheel 79 = .ok (.aload_n 0, 1) := by decide +kernel
theorem dX6_wheel_80 : decode cX6_wheel 80 = .ok (.iconst 0, 1) := by decide +kernel
theorem dX6_wheel_81 : decode cX6_wheel 81 = .ok (.iload_n 1, 1) := by decide +kernel
theorem dX6_wheel_82 : decode cX6_wheel 82 = .ok (.invokevirtual 169, 3) := by decide +kernel
theorem dX6_wheel_85 : decode cX6_wheel 85 = .ok (.iadd, 1) := by decide +kernel
theorem dX6_wheel_86 : decode cX6_wheel 86 = .ok (.ireturn, 1) := by decide +kernel
theorem dX6_wheel_87 : decode cX6_wheel 87 = .ok (.aload_n 0, 1) := by decide +kernel
theorem dX6_wheel_88 : decode cX6_wheel 88 = .ok (.iconst 0, 1) := by decide +kernel
theorem dX6_wheel_89 : decode cX6_wheel 89 = .ok (.iload_n 1, 1) := by decide +kernel
theorem dX6_wheel_90 : decode cX6_wheel 90 = .ok (.invokevirtual 172, 3) := by decide +kernel
theorem dX6_wheel_93 : decode cX6_wheel 93 = .ok (.ireturn, 1) := by decide +kernel
theorem dX6_wheel_94 : decode cX6_wheel 94 = .ok (.iconst (-1), 1) := by decide +kernel
theorem dX6_wheel_95 : decode cX6_wheel 95 = .ok (.ireturn, 1) := by decide +kernel
theorem dX6_puts_0 : decode cX6_puts 0 = .ok (.iload_n 1, 1) := by decide +kernel
theorem dX6_puts_1 : decode cX6_puts 1 = .ok (.ifCond .ne 5, 3) := by decide +kernel
theorem dX6_puts_4 : decode cX6_puts 4 = .ok (.iconst (-1), 1) := by decide +kernel
theorem dX6_puts_5 : decode cX6_puts 5 = .ok (.ireturn, 1) := by decide +kernel
theorem dX6_puts_6 : decode cX6_puts 6 = .ok (.aload_n 0, 1) := by decide +kernel
theorem dX6_puts_7 : decode cX6_puts 7 = .ok (.getfield 7, 3) := by decide +kernel
theorem dX6_puts_10 : decode cX6_puts 10 = .ok (.iload_n 2, 1) := by decide +kernel
theorem dX6_puts_11 : decode cX6_puts 11 = .ok (.iaload, 1) := by decide +kernel
theorem dX6_puts_12 : decode cX6_puts 12 = .ok (.istore 4, 2) := by decide +kernel
theorem dX6_puts_14 : decode cX6_puts 14 = .ok (.aload_n 0, 1) := by decide +kernel
theorem dX6_puts_15 : decode cX6_puts 15 = .ok (.getfield 7, 3) := by decide +kernel
theorem dX6_puts_18 : decode cX6_puts 18 = .ok (.iload_n 2, 1) := by decide +kernel
theorem dX6_puts_19 : decode cX6_puts 19 = .ok (.iload_n 3, 1) := by decide +kernel
theorem dX6_puts_20 : decode cX6_puts 20 = .ok (.iastore, 1) := by decide +kernel
theorem dX6_puts_21 : decode cX6_puts 21 = .ok (.iload 4, 2) := by decide +kernel
theorem dX6_puts_23 : decode cX6_puts 23 = .ok (.ireturn, 1) := by decide +kernel
set_option maxRecDepth 20000 in
theorem ggX6_alter_X6_in : GoodIn wsX6_alter wsX6_in := goodIn_r _ [6] (by decide +kernel) (by decide +kernel)
set_option maxRecDepth 20000 in
theorem gX6_alter_X6_in : GoodIn wsX6_alter (va_wsS RX6 50 yX6_in wsX6_in) := goodIn_app (goodIn_of _ (by decide +kernel)) ggX6_alter_X6_in
set_option maxRecDepth 20000 in
theorem ggX6_alter_X6_isWheel : GoodIn wsX6_alter wsX6_isWheel := goodIn_r _ [10, 11, 3, 4, 5, 6, 16, 17, 18, 19, 20, 21, 22, 23, 24, 25, 26, 27, 28, 29, 30, 31, 32, 33, 34, 35, 36, 37, 38, 39, 40, 41] (by decide +kernel) (by decide +kernel)
set_option maxRecDepth 20000 in
theorem gX6_alter_X6_isWheel : GoodIn wsX6_alter (wsV RX6 165 RX6 yX6_isWheel wsX6_isWheel) := goodIn_app (goodIn_of _ (by decide +kernel)) ggX6_alter_X6_isWheel
set_option maxRecDepth 20000 in
theorem ggX6_alter_X6_puts : GoodIn wsX6_alter wsX6_puts := goodIn_r _ [15, 11, 16, 17, 18, 19, 20, 21, 22, 23, 24, 25, 26, 27, 28, 29, 30, 31, 32, 33, 34, 35, 36, 37, 38, 39, 40, 41] (by decide +kernel) (by decide +kernel)
set_option maxRecDepth 20000 in
theorem gX6_alter_X6_puts : GoodIn wsX6_alter (wsV RX6 179 RX6 yX6_puts wsX6_puts) := goodIn_app (goodIn_of _ (by decide +kernel)) ggX6_alter_X6_puts
theorem dX6_alter_0 : decode cX6_alter 0 = .ok (.iload_n 2, 1) := by decide +kernel
theorem dX6_alter_1 : decode cX6_alter 1 = .ok (.ifCond .ne 15, 3) := by decide +kernel
theorem dX6_alter_4 : decode cX6_alter 4 = .ok (.iload_n 3, 1) := by decide +kernel
theorem dX6_alter_5 : decode cX6_alter 5 = .ok (.i2l, 1) := by decide +kernel
theorem dX6_alter_6 : decode cX6_alter 6 = .ok (.lconst 0, 1) := by decide +kernel
theorem dX6_alter_7 : decode cX6_alter 7 = .ok (.ldc2_w 175, 3) := by decide +kernel
theorem dX6_alter_10 : decode cX6_alter 10 = .ok (.invokestatic 50, 3) := by decide +kernel
theorem dX6_alter_13 : decode cX6_alter 13 = .ok (.goto 25, 3) := by decide +kernel
theorem dX6_alter_16 : decode cX6_alter 16 = .ok (.iload_n 2, 1) := by decide +kernel
theorem dX6_alter_17 : decode cX6_alter 17 = .ok (.iconst 1, 1) := by decide +kernel
theorem dX6_alter_18 : decode cX6_alter 18 = .ok (.if_icmp .ne 19, 3) := by decide +kernel
theorem dX6_alter_21 : decode cX6_alter 21 = .ok (.iload_n 3, 1) := by decide +kernel
theorem dX6_alter_22 : decode cX6_alter 22 = .ok (.i2l, 1) := by decide +kernel
theorem dX6_alter_23 : decode cX6_alter 23 = .ok (.lconst 1, 1) := by decide +kernel
theorem dX6_alter_24 : decode cX6_alter 24 = .ok (.ldc2_w 177, 3) := by decide +kernel
theorem dX6_alter_27 : decode cX6_alter 27 = .ok (.invokestatic 50, 3) := by decide +kernel
theorem dX6_alter_30 : decode cX6_alter 30 = .ok (.ifCond .eq 7, 3) := by decide +kernel
theorem dX6_alter_33 : decode cX6_alter 33 = .ok (.iconst 1, 1) := by decide +kernel
theorem dX6_alter_34 : decode cX6_alter 34 = .ok (.goto 4, 3) := by decide +kernel
theorem dX6_alter_37 : decode cX6_alter 37 = .ok (.iconst 0, 1) := by decide +kernel
theorem dX6_alter_38 : decode cX6_alter 38 = .ok (.istore 4, 2) := by decide +kernel
theorem dX6_alter_40 : decode cX6_alter 40 = .ok (.aload_n 0, 1) := by decide +kernel
theorem dX6_alter_41 : decode cX6_alter 41 = .ok (.aload_n 0, 1) := by decide +kernel
theorem dX6_alter_42 : decode cX6_alter 42 = .ok (.iload_n 1, 1) := by decide +kernel
theorem dX6_alter_43 : decode cX6_alter 43 = .ok (.invokevirtual 165, 3) := by decide +kernel
theorem dX6_alter_46 : decode cX6_alter 46 = .ok (.ifCond .eq 12, 3) := by decide +kernel
theorem dX6_alter_49 : decode cX6_alter 49 = .ok (.iload 4, 2) := by decide +kernel
theorem dX6_alter_51 : decode cX6_alter 51 = .ok (.ifCond .eq 7, 3) := by decide +kernel
theorem dX6_alter_54 : decode cX6_alter 54 = .ok (.iconst 1, 1) := by decide +kernel
theorem dX6_alter_55 : decode cX6_alter 55 = .ok (.goto 4, 3) := by decide +kernel
theorem dX6_alter_58 : decode cX6_alter 58 = .ok (.iconst 0, 1) := by decide +kernel
theorem dX6_alter_59 : decode cX6_alter 59 = .ok (.bipush 23, 2) := by decide +kernel
theorem dX6_alter_61 : decode cX6_alter 61 = .ok (.iconst 4, 1) := by decide +kernel
theorem dX6_alter_62 : decode cX6_alter 62 = .ok (.iload_n 2, 1) := by decide +kernel
theorem dX6_alter_63 : decode cX6_alter 63 = .ok (.imul, 1) := by decide +kernel
theorem dX6_alter_64 : decode cX6_alter 64 = .ok (.iadd, 1) := by decide +kernel
theorem dX6_alter_65 : decode cX6_alter 65 = .ok (.iload_n 1, 1) := by decide +kernel
theorem dX6_alter_66 : decode cX6_alter 66 = .ok (.iadd, 1) := by decide +kernel
theorem dX6_alter_67 : decode cX6_alter 67 = .ok (.iload_n 3, 1) := by decide +kernel
theorem dX6_alter_68 : decode cX6_alter 68 = .ok (.invokevirtual 179, 3) := by decide +kernel
theorem dX6_alter_71 : decode cX6_alter 71 = .ok (.ireturn, 1) := by decide +kernel
set_option maxRecDepth 20000 in
theorem ggX6_put_X6_in : GoodIn wsX6_put wsX6_in := goodIn_r _ [7] (by decide +kernel) (by decide +kernel)
set_option maxRecDepth 20000 in
theorem gX6_put_X6_in : GoodIn wsX6_put (va_wsS RX6 50 yX6_in wsX6_in) := goodIn_app (goodIn_of _ (by decide +kernel)) ggX6_put_X6_in
theorem dX6_put_0 : decode cX6_put 0 = .ok (.iload_n 1, 1) := by decide +kernel
theorem dX6_put_1 : decode cX6_put 1 = .ok (.i2l, 1) := by decide +kernel
theorem dX6_put_2 : decode cX6_put 2 = .ok (.lconst 0, 1) := by decide +kernel
theorem dX6_put_3 : decode cX6_put 3 = .ok (.ldc2_w 175, 3) := by decide +kernel
theorem dX6_put_6 : decode cX6_put 6 = .ok (.invokestatic 50, 3) := by decide +kernel
theorem dX6_put_9 : decode cX6_put 9 = .ok (.ifCond .eq 15, 3) := by decide +kernel
theorem dX6_put_12 : decode cX6_put 12 = .ok (.iload_n 2, 1) := by decide +kernel
theorem dX6_put_13 : decode cX6_put 13 = .ok (.i2l, 1) := by decide +kernel
theorem dX6_put_14 : decode cX6_put 14 = .ok (.lconst 1, 1) := by decide +kernel
theorem dX6_put_15 : decode cX6_put 15 = .ok (.ldc2_w 177, 3) := by decide +kernel
theorem dX6_put_18 : decode cX6_put 18 = .ok (.invokestatic 50, 3) := by decide +kernel
theorem dX6_put_21 : decode cX6_put 21 = .ok (.ifCond .ne 5, 3) := by decide +kernel
theorem dX6_put_24 : decode cX6_put 24 = .ok (.iconst (-1), 1) := by decide +kernel
theorem dX6_put_25 : decode cX6_put 25 = .ok (.ireturn, 1) := by decide +kernel
theorem dX6_put_26 : decode cX6_put 26 = .ok (.aload_n 0, 1) := by decide +kernel
theorem dX6_put_27 : decode cX6_put 27 = .ok (.getfield 7, 3) := by decide +kernel
theorem dX6_put_30 : decode cX6_put 30 = .ok (.bipush 35, 2) := by decide +kernel
theorem dX6_put_32 : decode cX6_put 32 = .ok (.iaload, 1) := by decide +kernel
theorem dX6_put_33 : decode cX6_put 33 = .ok (.istore_n 3, 1) := by decide +kernel
theorem dX6_put_34 : decode cX6_put 34 = .ok (.iload_n 3, 1) := by decide +kernel
theorem dX6_put_35 : decode cX6_put 35 = .ok (.iconst 4, 1) := by decide +kernel
theorem dX6_put_36 : decode cX6_put 36 = .ok (.if_icmp .ne 6, 3) := by decide +kernel
theorem dX6_put_39 : decode cX6_put 39 = .ok (.bipush (-3), 2) := by decide +kernel
theorem dX6_put_41 : decode cX6_put 41 = .ok (.ireturn, 1) := by decide +kernel
theorem dX6_put_42 : decode cX6_put 42 = .ok (.aload_n 0, 1) := by decide +kernel
theorem dX6_put_43 : decode cX6_put 43 = .ok (.getfield 7, 3) := by decide +kernel
theorem dX6_put_46 : decode cX6_put 46 = .ok (.bipush 23, 2) := by decide +kernel
theorem dX6_put_48 : decode cX6_put 48 = .ok (.iload_n 3, 1) := by decide +kernel
theorem dX6_put_49 : decode cX6_put 49 = .ok (.iadd, 1) := by decide +kernel
theorem dX6_put_50 : decode cX6_put 50 = .ok (.iload_n 1, 1) := by decide +kernel
theorem dX6_put_51 : decode cX6_put 51 = .ok (.iastore, 1) := by decide +kernel
theorem dX6_put_52 : decode cX6_put 52 = .ok (.aload_n 0, 1) := by decide +kernel
theorem dX6_put_53 : decode cX6_put 53 = .ok (.getfield 7, 3) := by decide +kernel
theorem dX6_put_56 : decode cX6_put 56 = .ok (.bipush 27, 2) := by decide +kernel
theorem dX6_put_58 : decode cX6_put 58 = .ok (.iload_n 3, 1) := by decide +kernel
theorem dX6_put_59 : decode cX6_put 59 = .ok (.iadd, 1) := by decide +kernel
theorem dX6_put_60 : decode cX6_put 60 = .ok (.iload_n 2, 1) := by decide +kernel
theorem dX6_put_61 : decode cX6_put 61 = .ok (.iastore, 1) := by decide +kernel
theorem dX6_put_62 : decode cX6_put 62 = .ok (.aload_n 0, 1) := by decide +kernel
theorem dX6_put_63 : decode cX6_put 63 = .ok (.getfield 7, 3) := by decide +kernel
theorem dX6_put_66 : decode cX6_put 66 = .ok (.bipush 31, 2) := by decide +kernel
theorem dX6_put_68 : decode cX6_put 68 = .ok (.iload_n 3, 1) := by decide +kernel
theorem dX6_put_69 : decode cX6_put 69 = .ok (.iadd, 1) := by decide +kernel
theorem dX6_put_70 : decode cX6_put 70 = .ok (.iconst 0, 1) := by decide +kernel
theorem dX6_put_71 : decode cX6_put 71 = .ok (.iastore, 1) := by decide +kernel
theorem dX6_put_72 : decode cX6_put 72 = .ok (.aload_n 0, 1) := by decide +kernel
theorem dX6_put_73 : decode cX6_put 73 = .ok (.getfield 7, 3) := by decide +kernel
theorem dX6_put_76 : decode cX6_put 76 = .ok (.bipush 35, 2) := by decide +kernel
theorem dX6_put_78 : decode cX6_put 78 = .ok (.dup2, 1) := by decide +kernel
theorem dX6_put_79 : decode cX6_put 79 = .ok (.iaload, 1) := by decide +kernel
theorem dX6_put_80 : decode cX6_put 80 = .ok (.iconst 1, 1) := by decide +kernel
theorem dX6_put_81 : decode cX6_put 81 = .ok (.iadd, 1) := by decide +kernel
theorem dX6_put_82 : decode cX6_put 82 = .ok (.iastore, 1) := by decide +kernel
theorem dX6_put_83 : decode cX6_put 83 = .ok (.aload_n 0, 1) := by decide +kernel
theorem dX6_put_84 : decode cX6_put 84 = .ok (.getfield 7, 3) := by decide +kernel
theorem dX6_put_87 : decode cX6_put 87 = .ok (.bipush 35, 2) := by decide +kernel
theorem dX6_put_89 : decode cX6_put 89 = .ok (.iaload, 1) := by decide +kernel
theorem dX6_put_90 : decode cX6_put 90 = .ok (.ireturn, 1) := by decide +kernel
set_option maxRecDepth 20000 in
theorem ggX6_cut_X6_in : GoodIn wsX6_cut wsX6_in := goodIn_r _ [5] (by decide +kernel) (by decide +kernel)
set_option maxRecDepth 20000 in
theorem gX6_cut_X6_in : GoodIn wsX6_cut (va_wsS RX6 50 yX6_in wsX6_in) := goodIn_app (goodIn_of _ (by decide +kernel)) ggX6_cut_X6_in
set_option maxRecDepth 20000 in
theorem ggX6_cut_X6_puts : GoodIn wsX6_cut wsX6_puts := goodIn_r _ [9, 1, 10, 11, 12, 13, 14, 15, 16, 17, 18, 19, 20, 21, 22, 23, 24, 25, 26, 27, 28, 29, 30, 31, 32, 33, 34, 35] (by decide +kernel) (by decide +kernel)
set_option maxRecDepth 20000 in
theorem gX6_cut_X6_puts : GoodIn wsX6_cut (wsV RX6 179 RX6 yX6_puts wsX6_puts) := goodIn_app (goodIn_of _ (by decide +kernel)) ggX6_cut_X6_puts
theorem dX6_cut_0 : decode cX6_cut 0 = .ok (.aload_n 0, 1) := by decide +kernel
theorem dX6_cut_1 : decode cX6_cut 1 = .ok (.iload_n 1, 1) := by decide +kernel
theorem dX6_cut_2 : decode cX6_cut 2 = .ok (.i2l, 1) := by decide +kernel
theorem dX6_cut_3 : decode cX6_cut 3 = .ok (.lconst 0, 1) := by decide +kernel
theorem dX6_cut_4 : decode cX6_cut 4 = .ok (.aload_n 0, 1) := by decide +kernel
theorem dX6_cut_5 : decode cX6_cut 5 = .ok (.getfield 7, 3) := by decide +kernel
theorem dX6_cut_8 : decode cX6_cut 8 = .ok (.bipush 35, 2) := by decide +kernel
theorem dX6_cut_10 : decode cX6_cut 10 = .ok (.iaload, 1) := by decide +kernel
theorem dX6_cut_11 : decode cX6_cut 11 = .ok (.i2l, 1) := by decide +kernel
theorem dX6_cut_12 : decode cX6_cut 12 = .ok (.invokestatic 50, 3) := by decide +kernel
theorem dX6_cut_15 : decode cX6_cut 15 = .ok (.bipush 35, 2) := by decide +kernel
theorem dX6_cut_17 : decode cX6_cut 17 = .ok (.iload_n 1, 1) := by decide +kernel
theorem dX6_cut_18 : decode cX6_cut 18 = .ok (.invokevirtual 179, 3) := by decide +kernel
theorem dX6_cut_21 : decode cX6_cut 21 = .ok (.ireturn, 1) := by decide +kernel
set_option maxRecDepth 20000 in
theorem ggX6_zero_X6_isWheel : GoodIn wsX6_zero wsX6_isWheel := goodIn_r _ [6, 7, 8, 9, 5, 10, 15, 16, 17, 18, 19, 20, 21, 22, 23, 24, 25, 26, 27, 28, 29, 30, 31, 32, 33, 34, 35, 36, 37, 38, 39, 40] (by decide +kernel) (by decide +kernel)
set_option maxRecDepth 20000 in
theorem gX6_zero_X6_isWheel : GoodIn wsX6_zero (wsV RX6 165 RX6 yX6_isWheel wsX6_isWheel) := goodIn_app (goodIn_of _ (by decide +kernel)) ggX6_zero_X6_isWheel
set_option maxRecDepth 20000 in
theorem ggX6_zero_X6_puts : GoodIn wsX6_zero wsX6_puts := goodIn_r _ [14, 7, 15, 16, 17, 18, 19, 20, 21, 22, 23, 24, 25, 26, 27, 28, 29, 30, 31, 32, 33, 34, 35, 36, 37, 38, 39, 40] (by decide +kernel) (by decide +kernel)
set_option maxRecDepth 20000 in
theorem gX6_zero_X6_puts : GoodIn wsX6_zero (wsV RX6 179 RX6 yX6_puts wsX6_puts) := goodIn_app (goodIn_of _ (by decide +kernel)) ggX6_zero_X6_puts
theorem dX6_zero_0 : decode cX6_zero 0 = .ok (.aload_n 0, 1) := by decide +kernel
theorem dX6_zero_1 : decode cX6_zero 1 = .ok (.iload_n 1, 1) := by decide +kernel
theorem dX6_zero_2 : decode cX6_zero 2 = .ok (.invokevirtual 165, 3) := by decide +kernel
theorem dX6_zero_5 : decode cX6_zero 5 = .ok (.ifCond .eq 19, 3) := by decide +kernel
theorem dX6_zero_8 : decode cX6_zero 8 = .ok (.ldc 168, 2) := by decide +kernel
theorem dX6_zero_10 : decode cX6_zero 10 = .ok (.aload_n 0, 1) := by decide +kernel
theorem dX6_zero_11 : decode cX6_zero 11 = .ok (.iconst 1, 1) := by decide +kernel
theorem dX6_zero_12 : decode cX6_zero 12 = .ok (.bipush 31, 2) := by decide +kernel
theorem dX6_zero_14 : decode cX6_zero 14 = .ok (.iload_n 1, 1) := by decide +kernel
theorem dX6_zero_15 : decode cX6_zero 15 = .ok (.iadd, 1) := by decide +kernel
theorem dX6_zero_16 : decode cX6_zero 16 = .ok (.iconst 0, 1) := by decide +kernel
theorem dX6_zero_17 : decode cX6_zero 17 = .ok (.invokevirtual 179, 3) := by decide +kernel
theorem dX6_zero_20 : decode cX6_zero 20 = .ok (.iadd, 1) := by decide +kernel
theorem dX6_zero_21 : decode cX6_zero 21 = .ok (.goto 4, 3) := by decide +kernel
theorem dX6_zero_24 : decode cX6_zero 24 = .ok (.iconst (-1), 1) := by decide +kernel
theorem dX6_zero_25 : decode cX6_zero 25 = .ok (.ireturn, 1) := by decide +kernel
theorem dX6_movesTo_0 : decode cX6_movesTo 0 = .ok (.bipush 100, 2) := by decide +kernel
theorem dX6_movesTo_2 : decode cX6_movesTo 2 = .ok (.aload_n 0, 1) := by decide +kernel
theorem dX6_movesTo_3 : decode cX6_movesTo 3 = .ok (.getfield 7, 3) := by decide +kernel
theorem dX6_movesTo_6 : decode cX6_movesTo 6 = .ok (.iload_n 1, 1) := by decide +kernel
theorem dX6_movesTo_7 : decode cX6_movesTo 7 = .ok (.iaload, 1) := by decide +kernel
theorem dX6_movesTo_8 : decode cX6_movesTo 8 = .ok (.imul, 1) := by decide +kernel
theorem dX6_movesTo_9 : decode cX6_movesTo 9 = .ok (.aload_n 0, 1) := by decide +kernel
theorem dX6_movesTo_10 : decode cX6_movesTo 10 = .ok (.getfield 7, 3) := by decide +kernel
theorem dX6_movesTo_13 : decode cX6_movesTo 13 = .ok (.iload_n 2, 1) := by decide +kernel
theorem dX6_movesTo_14 : decode cX6_movesTo 14 = .ok (.iaload, 1) := by decide +kernel
theorem dX6_movesTo_15 : decode cX6_movesTo 15 = .ok (.iadd, 1) := by decide +kernel
theorem dX6_movesTo_16 : decode cX6_movesTo 16 = .ok (.istore 5, 2) := by decide +kernel
theorem dX6_movesTo_18 : decode cX6_movesTo 18 = .ok (.aload_n 0, 1) := by decide +kernel
theorem dX6_movesTo_19 : decode cX6_movesTo 19 = .ok (.getfield 7, 3) := by decide +kernel
theorem dX6_movesTo_22 : decode cX6_movesTo 22 = .ok (.iload_n 1, 1) := by decide +kernel
theorem dX6_movesTo_23 : decode cX6_movesTo 23 = .ok (.iload_n 3, 1) := by decide +kernel
theorem dX6_movesTo_24 : decode cX6_movesTo 24 = .ok (.iastore, 1) := by decide +kernel
theorem dX6_movesTo_25 : decode cX6_movesTo 25 = .ok (.aload_n 0, 1) := by decide +kernel
theorem dX6_movesTo_26 : decode cX6_movesTo 26 = .ok (.getfield 7, 3) := by decide +kernel
theorem dX6_movesTo_29 : decode cX6_movesTo 29 = .ok (.iload_n 2, 1) := by decide +kernel
theorem dX6_movesTo_30 : decode cX6_movesTo 30 = .ok (.iload 4, 2) := by decide +kernel
theorem dX6_movesTo_32 : decode cX6_movesTo 32 = .ok (.iastore, 1) := by decide +kernel
theorem dX6_movesTo_33 : decode cX6_movesTo 33 = .ok (.iload 5, 2) := by decide +kernel
theorem dX6_movesTo_35 : decode cX6_movesTo 35 = .ok (.ireturn, 1) := by decide +kernel
set_option maxRecDepth 20000 in
theorem ggX6_shift_X6_isCorner : GoodIn wsX6_shift wsX6_isCorner := goodIn_r _ [5, 6, 7, 8, 4, 9, 18, 19, 20, 21, 22, 23, 24, 25, 26, 27, 28, 29, 30, 31, 32, 33, 34, 35, 36, 37, 38, 39, 40, 41, 42, 43] (by decide +kernel) (by decide +kernel)
set_option maxRecDepth 20000 in
theorem gX6_shift_X6_isCorner : GoodIn wsX6_shift (wsV RX6 159 RX6 yX6_isCorner wsX6_isCorner) := goodIn_app (goodIn_of _ (by decide +kernel)) ggX6_shift_X6_isCorner
set_option maxRecDepth 20000 in
theorem ggX6_shift_X6_isPoint : GoodIn wsX6_shift wsX6_isPoint := goodIn_r _ [12, 13, 7, 8, 4, 9] (by decide +kernel) (by decide +kernel)
set_option maxRecDepth 20000 in
theorem gX6_shift_X6_isPoint : GoodIn wsX6_shift (va_wsS RX6 183 yX6_isPoint wsX6_isPoint) := goodIn_app (goodIn_of _ (by decide +kernel)) ggX6_shift_X6_isPoint
set_option maxRecDepth 20000 in
theorem ggX6_shift_X6_movesTo : GoodIn wsX6_shift wsX6_movesTo := goodIn_r _ [17, 6, 18, 19, 20, 21, 22, 23, 24, 25, 26, 27, 28, 29, 30, 31, 32, 33, 34, 35, 36, 37, 38, 39, 40, 41, 42, 43] (by decide +kernel) (by decide +kernel)
set_option maxRecDepth 20000 in
theorem gX6_shift_X6_movesTo : GoodIn wsX6_shift (wsV RX6 187 RX6 yX6_movesTo wsX6_movesTo) := goodIn_app (goodIn_of _ (by decide +kernel)) ggX6_shift_X6_movesTo
theorem dX6_shift_0 : decode cX6_shift 0 = .ok (.aload_n 0, 1) := by decide +kernel
theorem dX6_shift_1 : decode cX6_shift 1 = .ok (.iload_n 1, 1) := by decide +kernel
theorem dX6_shift_2 : decode cX6_shift 2 = .ok (.invokevirtual 159, 3) := by decide +kernel
theorem dX6_shift_5 : decode cX6_shift 5 = .ok (.ifCond .eq 25, 3) := by decide +kernel
theorem dX6_shift_8 : decode cX6_shift 8 = .ok (.iload_n 2, 1) := by decide +kernel
theorem dX6_shift_9 : decode cX6_shift 9 = .ok (.iload_n 3, 1) := by decide +kernel
theorem dX6_shift_10 : decode cX6_shift 10 = .ok (.invokestatic 183, 3) := by decide +kernel
theorem dX6_shift_13 : decode cX6_shift 13 = .ok (.ifCond .eq 17, 3) := by decide +kernel
theorem dX6_shift_16 : decode cX6_shift 16 = .ok (.aload_n 0, 1) := by decide +kernel
theorem dX6_shift_17 : decode cX6_shift 17 = .ok (.iload_n 1, 1) := by decide +kernel
theorem dX6_shift_18 : decode cX6_shift 18 = .ok (.bipush 10, 2) := by decide +kernel
theorem dX6_shift_20 : decode cX6_shift 20 = .ok (.iload_n 1, 1) := by decide +kernel
theorem dX6_shift_21 : decode cX6_shift 21 = .ok (.iadd, 1) := by decide +kernel
theorem dX6_shift_22 : decode cX6_shift 22 = .ok (.iload_n 2, 1) := by decide +kernel
theorem dX6_shift_23 : decode cX6_shift 23 = .ok (.iload_n 3, 1) := by decide +kernel
theorem dX6_shift_24 : decode cX6_shift 24 = .ok (.invokevirtual 187, 3) := by decide +kernel
theorem dX6_shift_27 : decode cX6_shift 27 = .ok (.goto 4, 3) := by decide +kernel
theorem dX6_shift_30 : decode cX6_shift 30 = .ok (.iconst (-1), 1) := by decide +kernel
theorem dX6_shift_31 : decode cX6_shift 31 = .ok (.ireturn, 1) := by decide +kernel
set_option maxRecDepth 20000 in
theorem ggX6_adds_X6_isPoint : GoodIn wsX6_adds wsX6_isPoint := goodIn_r _ [5, 6, 7, 8, 4, 9] (by decide +kernel) (by decide +kernel)
set_option maxRecDepth 20000 in
theorem gX6_adds_X6_isPoint : GoodIn wsX6_adds (va_wsS RX6 183 yX6_isPoint wsX6_isPoint) := goodIn_app (goodIn_of _ (by decide +kernel)) ggX6_adds_X6_isPoint
theorem dX6_adds_0 : decode cX6_adds 0 = .ok (.iload_n 1, 1) := by decide +kernel
theorem dX6_adds_1 : decode cX6_adds 1 = .ok (.iload_n 2, 1) := by decide +kernel
theorem dX6_adds_2 : decode cX6_adds 2 = .ok (.invokestatic 183, 3) := by decide +kernel
theorem dX6_adds_5 : decode cX6_adds 5 = .ok (.ifCond .ne 5, 3) := by decide +kernel
theorem dX6_adds_8 : decode cX6_adds 8 = .ok (.iconst (-1), 1) := by decide +kernel
theorem dX6_adds_9 : decode cX6_adds 9 = .ok (.ireturn, 1) := by decide +kernel
theorem dX6_adds_10 : decode cX6_adds 10 = .ok (.aload_n 0, 1) := by decide +kernel
theorem dX6_adds_11 : decode cX6_adds 11 = .ok (.getfield 7, 3) := by decide +kernel
theorem dX6_adds_14 : decode cX6_adds 14 = .ok (.bipush 20, 2) := by decide +kernel
theorem dX6_adds_16 : decode cX6_adds 16 = .ok (.iaload, 1) := by decide +kernel
theorem dX6_adds_17 : decode cX6_adds 17 = .ok (.istore_n 3, 1) := by decide +kernel
theorem dX6_adds_18 : decode cX6_adds 18 = .ok (.iload_n 3, 1) := by decide +kernel
theorem dX6_adds_19 : decode cX6_adds 19 = .ok (.bipush 10, 2) := by decide +kernel
theorem dX6_adds_21 : decode cX6_adds 21 = .ok (.if_icmp .ne 6, 3) := by decide +kernel
theorem dX6_adds_24 : decode cX6_adds 24 = .ok (.bipush (-3), 2) := by decide +kernel
theorem dX6_adds_26 : decode cX6_adds 26 = .ok (.ireturn, 1) := by decide +kernel
theorem dX6_adds_27 : decode cX6_adds 27 = .ok (.aload_n 0, 1) := by decide +kernel
theorem dX6_adds_28 : decode cX6_adds 28 = .ok (.getfield 7, 3) := by decide +kernel
theorem dX6_adds_31 : decode cX6_adds 31 = .ok (.iload_n 3, 1) := by decide +kernel
theorem dX6_adds_32 : decode cX6_adds 32 = .ok (.iload_n 1, 1) := by decide +kernel
theorem dX6_adds_33 : decode cX6_adds 33 = .ok (.iastore, 1) := by decide +kernel
theorem dX6_adds_34 : decode cX6_adds 34 = .ok (.aload_n 0, 1) := by decide +kernel
theorem dX6_adds_35 : decode cX6_adds 35 = .ok (.getfield 7, 3) := by decide +kernel
theorem dX6_adds_38 : decode cX6_adds 38 = .ok (.bipush 10, 2) := by decide +kernel
theorem dX6_adds_40 : decode cX6_adds 40 = .ok (.iload_n 3, 1) := by decide +kernel
theorem dX6_adds_41 : decode cX6_adds 41 = .ok (.iadd, 1) := by decide +kernel
theorem dX6_adds_42 : decode cX6_adds 42 = .ok (.iload_n 2, 1) := by decide +kernel
theorem dX6_adds_43 : decode cX6_adds 43 = .ok (.iastore, 1) := by decide +kernel
theorem dX6_adds_44 : decode cX6_adds 44 = .ok (.aload_n 0, 1) := by decide +kernel
theorem dX6_adds_45 : decode cX6_adds 45 = .ok (.getfield 7, 3) := by decide +kernel
theorem dX6_adds_48 : decode cX6_adds 48 = .ok (.bipush 20, 2) := by decide +kernel
theorem dX6_adds_50 : decode cX6_adds 50 = .ok (.dup2, 1) := by decide +kernel
theorem dX6_adds_51 : decode cX6_adds 51 = .ok (.iaload, 1) := by decide +kernel
theorem dX6_adds_52 : decode cX6_adds 52 = .ok (.iconst 1, 1) := by decide +kernel
theorem dX6_adds_53 : decode cX6_adds 53 = .ok (.iadd, 1) := by decide +kernel
theorem dX6_adds_54 : decode cX6_adds 54 = .ok (.iastore, 1) := by decide +kernel
theorem dX6_adds_55 : decode cX6_adds 55 = .ok (.aload_n 0, 1) := by decide +kernel
theorem dX6_adds_56 : decode cX6_adds 56 = .ok (.getfield 7, 3) := by decide +kernel
theorem dX6_adds_59 : decode cX6_adds 59 = .ok (.bipush 20, 2) := by decide +kernel
theorem dX6_adds_61 : decode cX6_adds 61 = .ok (.iaload, 1) := by decide +kernel
theorem dX6_adds_62 : decode cX6_adds 62 = .ok (.ireturn, 1) := by decide +kernel
set_option maxRecDepth 20000 in
theorem ggX6_add_X6_adds : GoodIn wsX6_add wsX6_adds := goodIn_r _ [5, 6, 7, 8, 4, 9, 10, 11, 12, 13, 14, 15, 16, 17, 18, 19, 20, 21, 22, 23, 24, 25, 26, 27, 28, 29, 30, 31, 32, 33, 34, 35, 36, 37, 38, 39] (by decide +kernel) (by decide +kernel)
set_option maxRecDepth 20000 in
theorem gX6_add_X6_adds : GoodIn wsX6_add (wsV RX6 191 RX6 yX6_adds wsX6_adds) := goodIn_app (goodIn_of _ (by decide +kernel)) ggX6_add_X6_adds
theorem dX6_add_0 : decode cX6_add 0 = .ok (.aload_n 0, 1) := by decide +kernel
theorem dX6_add_1 : decode cX6_add 1 = .ok (.iload_n 1, 1) := by decide +kernel
theorem dX6_add_2 : decode cX6_add 2 = .ok (.iload_n 2, 1) := by decide +kernel
theorem dX6_add_3 : decode cX6_add 3 = .ok (.invokevirtual 191, 3) := by decide +kernel
theorem dX6_add_6 : decode cX6_add 6 = .ok (.ireturn, 1) := by decide +kernel
set_option maxRecDepth 20000 in
theorem ggX6_drop_X6_in : GoodIn wsX6_drop wsX6_in := goodIn_r _ [5] (by decide +kernel) (by decide +kernel)
set_option maxRecDepth 20000 in
theorem gX6_drop_X6_in : GoodIn wsX6_drop (va_wsS RX6 50 yX6_in wsX6_in) := goodIn_app (goodIn_of _ (by decide +kernel)) ggX6_drop_X6_in
set_option maxRecDepth 20000 in
theorem ggX6_drop_X6_puts : GoodIn wsX6_drop wsX6_puts := goodIn_r _ [9, 1, 10, 11, 12, 13, 14, 15, 16, 17, 18, 19, 20, 21, 22, 23, 24, 25, 26, 27, 28, 29, 30, 31, 32, 33, 34, 35] (by decide +kernel) (by decide +kernel)
set_option maxRecDepth 20000 in
theorem gX6_drop_X6_puts : GoodIn wsX6_drop (wsV RX6 179 RX6 yX6_puts wsX6_puts) := goodIn_app (goodIn_of _ (by decide +kernel)) ggX6_drop_X6_puts
theorem dX6_drop_0 : decode cX6_drop 0 = .ok (.aload_n 0, 1) := by decide +kernel
theorem dX6_drop_1 : decode cX6_drop 1 = .ok (.iload_n 1, 1) := by decide +kernel
theorem dX6_drop_2 : decode cX6_drop 2 = .ok (.i2l, 1) := by decide +kernel
theorem dX6_drop_3 : decode cX6_drop 3 = .ok (.lconst 0, 1) := by decide +kernel
theorem dX6_drop_4 : decode cX6_drop 4 = .ok (.aload_n 0, 1) := by decide +kernel
theorem dX6_drop_5 : decode cX6_drop 5 = .ok (.getfield 7, 3) := by decide +kernel
theorem dX6_drop_8 : decode cX6_drop 8 = .ok (.bipush 20, 2) := by decide +kernel
theorem dX6_drop_10 : decode cX6_drop 10 = .ok (.iaload, 1) := by decide +kernel
theorem dX6_drop_11 : decode cX6_drop 11 = .ok (.i2l, 1) := by decide +kernel
theorem dX6_drop_12 : decode cX6_drop 12 = .ok (.invokestatic 50, 3) := by decide +kernel
theorem dX6_drop_15 : decode cX6_drop 15 = .ok (.bipush 20, 2) := by decide +kernel
theorem dX6_drop_17 : decode cX6_drop 17 = .ok (.iload_n 1, 1) := by decide +kernel
theorem dX6_drop_18 : decode cX6_drop 18 = .ok (.invokevirtual 179, 3) := by decide +kernel
theorem dX6_drop_21 : decode cX6_drop 21 = .ok (.ireturn, 1) := by decide +kernel
set_option maxRecDepth 20000 in
theorem ggX6_pole_X6_isPoint : GoodIn wsX6_pole wsX6_isPoint := goodIn_r _ [4, 5, 6, 7, 3, 8] (by decide +kernel) (by decide +kernel)
set_option maxRecDepth 20000 in
theorem gX6_pole_X6_isPoint : GoodIn wsX6_pole (va_wsS RX6 183 yX6_isPoint wsX6_isPoint) := goodIn_app (goodIn_of _ (by decide +kernel)) ggX6_pole_X6_isPoint
set_option maxRecDepth 20000 in
theorem ggX6_pole_X6_movesTo : GoodIn wsX6_pole wsX6_movesTo := goodIn_r _ [12, 13, 14, 15, 16, 17, 18, 19, 20, 21, 22, 23, 24, 25, 26, 27, 28, 29, 30, 31, 32, 33, 34, 35, 36, 37, 38, 39] (by decide +kernel) (by decide +kernel)
set_option maxRecDepth 20000 in
theorem gX6_pole_X6_movesTo : GoodIn wsX6_pole (wsV RX6 187 RX6 yX6_movesTo wsX6_movesTo) := goodIn_app (goodIn_of _ (by decide +kernel)) ggX6_pole_X6_movesTo
theorem dX6_pole_0 : decode cX6_pole 0 = .ok (.iload_n 1, 1) := by decide +kernel
theorem dX6_pole_1 : decode cX6_pole 1 = .ok (.iload_n 2, 1) := by decide +kernel
theorem dX6_pole_2 : decode cX6_pole 2 = .ok (.invokestatic 183, 3) := by decide +kernel
theorem dX6_pole_5 : decode cX6_pole 5 = .ok (.ifCond .eq 16, 3) := by decide +kernel
theorem dX6_pole_8 : decode cX6_pole 8 = .ok (.aload_n 0, 1) := by decide +kernel
theorem dX6_pole_9 : decode cX6_pole 9 = .ok (.bipush 21, 2) := by decide +kernel
theorem dX6_pole_11 : decode cX6_pole 11 = .ok (.bipush 22, 2) := by decide +kernel
theorem dX6_pole_13 : decode cX6_pole 13 = .ok (.iload_n 1, 1) := by decide +kernel
theorem dX6_pole_14 : decode cX6_pole 14 = .ok (.iload_n 2, 1) := by decide +kernel
theorem dX6_pole_15 : decode cX6_pole 15 = .ok (.invokevirtual 187, 3) := by decide +kernel
theorem dX6_pole_18 : decode cX6_pole 18 = .ok (.goto 4, 3) := by decide +kernel
theorem dX6_pole_21 : decode cX6_pole 21 = .ok (.iconst (-1), 1) := by decide +kernel
theorem dX6_pole_22 : decode cX6_pole 22 = .ok (.ireturn, 1) := by decide +kernel
set_option maxRecDepth 20000 in
theorem ggX6_trace_X6_in : GoodIn wsX6_trace wsX6_in := goodIn_r _ [7] (by decide +kernel) (by decide +kernel)
set_option maxRecDepth 20000 in
theorem gX6_trace_X6_in : GoodIn wsX6_trace (va_wsS RX6 50 yX6_in wsX6_in) := goodIn_app (goodIn_of _ (by decide +kernel)) ggX6_trace_X6_in
set_option maxRecDepth 20000 in
theorem ggX6_trace_X6_starts : GoodIn wsX6_trace wsX6_starts := goodIn_r _ [11, 3, 12, 13, 14, 38, 39, 40, 41, 42, 43, 44, 45, 46, 47, 48, 49, 50, 51, 52, 53, 54, 55, 56, 57, 58, 59, 60, 61, 62, 63] (by decide +kernel) (by decide +kernel)
set_option maxRecDepth 20000 in
theorem gX6_trace_X6_starts : GoodIn wsX6_trace (wsV RX6 196 RX6 yX6_starts wsX6_starts) := goodIn_app (goodIn_of _ (by decide +kernel)) ggX6_trace_X6_starts
set_option maxRecDepth 20000 in
theorem ggX6_trace_X6_tracesOn : GoodIn wsX6_trace wsX6_tracesOn := goodIn_r _ [18, 2, 19, 20, 21, 6, 22, 3, 12, 14, 23, 24, 25, 26, 27, 28, 29, 30, 31, 32, 33, 34, 35, 36, 37, 38, 39, 40, 41, 42, 43, 44, 45, 46, 47, 48, 49, 50, 51, 52, 53, 54, 55, 56, 57, 58, 59, 60, 61, 62, 63] (by decide +kernel) (by decide +kernel)
set_option maxRecDepth 20000 in
theorem gX6_trace_X6_tracesOn : GoodIn wsX6_trace (wsV RX6 199 RX6 yX6_tracesOn wsX6_tracesOn) := goodIn_app (goodIn_of _ (by decide +kernel)) ggX6_trace_X6_tracesOn
theorem dX6_trace_0 : decode cX6_trace 0 = .ok (.iload_n 1, 1) := by decide +kernel
theorem dX6_trace_1 : decode cX6_trace 1 = .ok (.i2l, 1) := by decide +kernel
theorem dX6_trace_2 : decode cX6_trace 2 = .ok (.lconst 0, 1) := by decide +kernel
theorem dX6_trace_3 : decode cX6_trace 3 = .ok (.ldc2_w 194, 3) := by decide +kernel
theorem dX6_trace_6 : decode cX6_trace 6 = .ok (.invokestatic 50, 3) := by decide +kernel
theorem dX6_trace_9 : decode cX6_trace 9 = .ok (.ifCond .ne 5, 3) := by decide +kernel
theorem dX6_trace_12 : decode cX6_trace 12 = .ok (.iconst (-1), 1) := by decide +kernel
theorem dX6_trace_13 : decode cX6_trace 13 = .ok (.ireturn, 1) := by decide +kernel
theorem dX6_trace_14 : decode cX6_trace 14 = .ok (.aload_n 0, 1) := by decide +kernel
theorem dX6_trace_15 : decode cX6_trace 15 = .ok (.getfield 7, 3) := by decide +kernel
theorem dX6_trace_18 : decode cX6_trace 18 = .ok (.bipush 36, 2) := by decide +kernel
theorem dX6_trace_20 : decode cX6_trace 20 = .ok (.iaload, 1) := by decide +kernel
theorem dX6_trace_21 : decode cX6_trace 21 = .ok (.iload_n 1, 1) := by decide +kernel
theorem dX6_trace_22 : decode cX6_trace 22 = .ok (.iadd, 1) := by decide +kernel
theorem dX6_trace_23 : decode cX6_trace 23 = .ok (.sipush 9999, 3) := by decide +kernel
theorem dX6_trace_26 : decode cX6_trace 26 = .ok (.if_icmp .le 6, 3) := by decide +kernel
theorem dX6_trace_29 : decode cX6_trace 29 = .ok (.bipush (-3), 2) := by decide +kernel
theorem dX6_trace_31 : decode cX6_trace 31 = .ok (.ireturn, 1) := by decide +kernel
theorem dX6_trace_32 : decode cX6_trace 32 = .ok (.aload_n 0, 1) := by decide +kernel
theorem dX6_trace_33 : decode cX6_trace 33 = .ok (.invokevirtual 196, 3) := by decide +kernel
theorem dX6_trace_36 : decode cX6_trace 36 = .ok (.iconst 0, 1) := by decide +kernel
theorem dX6_trace_37 : decode cX6_trace 37 = .ok (.istore_n 2, 1) := by decide +kernel
theorem dX6_trace_38 : decode cX6_trace 38 = .ok (.iload_n 2, 1) := by decide +kernel
theorem dX6_trace_39 : decode cX6_trace 39 = .ok (.iload_n 1, 1) := by decide +kernel
theorem dX6_trace_40 : decode cX6_trace 40 = .ok (.if_icmp .ge 15, 3) := by decide +kernel
theorem dX6_trace_43 : decode cX6_trace 43 = .ok (.aload_n 0, 1) := by decide +kernel
theorem dX6_trace_44 : decode cX6_trace 44 = .ok (.iconst 0, 1) := by decide +kernel
theorem dX6_trace_45 : decode cX6_trace 45 = .ok (.iconst 0, 1) := by decide +kernel
theorem dX6_trace_46 : decode cX6_trace 46 = .ok (.invokevirtual 199, 3) := by decide +kernel
theorem dX6_trace_49 : decode cX6_trace 49 = .ok (.iinc 2 1, 3) := by decide +kernel
theorem dX6_trace_52 : decode cX6_trace 52 = .ok (.goto (-14), 3) := by decide +kernel
theorem dX6_trace_55 : decode cX6_trace 55 = .ok (.aload_n 0, 1) := by decide +kernel
theorem dX6_trace_56 : decode cX6_trace 56 = .ok (.getfield 144, 3) := by decide +kernel
theorem dX6_trace_59 : decode cX6_trace 59 = .ok (.ireturn, 1) := by decide +kernel
theorem dX6_copies_0 : decode cX6_copies 0 = .ok (.iconst 0, 1) := by decide +kernel
theorem dX6_copies_1 : decode cX6_copies 1 = .ok (.istore_n 3, 1) := by decide +kernel
theorem dX6_copies_2 : decode cX6_copies 2 = .ok (.iload_n 3, 1) := by decide +kernel
theorem dX6_copies_3 : decode cX6_copies 3 = .ok (.bipush 37, 2) := by decide +kernel
theorem dX6_copies_5 : decode cX6_copies 5 = .ok (.if_icmp .ge 25, 3) := by decide +kernel
theorem dX6_copies_8 : decode cX6_copies 8 = .ok (.aload_n 0, 1) := by decide +kernel
theorem dX6_copies_9 : decode cX6_copies 9 = .ok (.getfield 7, 3) := by decide +kernel
theorem dX6_copies_12 : decode cX6_copies 12 = .ok (.iload_n 2, 1) := by decide +kernel
theorem dX6_copies_13 : decode cX6_copies 13 = .ok (.iload_n 3, 1) := by decide +kernel
theorem dX6_copies_14 : decode cX6_copies 14 = .ok (.iadd, 1) := by decide +kernel
theorem dX6_copies_15 : decode cX6_copies 15 = .ok (.aload_n 0, 1) := by decide +kernel
theorem dX6_copies_16 : decode cX6_copies 16 = .ok (.getfield 7, 3) := by decide +kernel
theorem dX6_copies_19 : decode cX6_copies 19 = .ok (.iload_n 1, 1) := by decide +kernel
theorem dX6_copies_20 : decode cX6_copies 20 = .ok (.iload_n 3, 1) := by decide +kernel
theorem dX6_copies_21 : decode cX6_copies 21 = .ok (.iadd, 1) := by decide +kernel
theorem dX6_copies_22 : decode cX6_copies 22 = .ok (.iaload, 1) := by decide +kernel
theorem dX6_copies_23 : decode cX6_copies 23 = .ok (.iastore, 1) := by decide +kernel
theorem dX6_copies_24 : decode cX6_copies 24 = .ok (.iinc 3 1, 3) := by decide +kernel
theorem dX6_copies_27 : decode cX6_copies 27 = .ok (.goto (-25), 3) := by decide +kernel
theorem dX6_copies_30 : decode cX6_copies 30 = .ok (.return_, 1) := by decide +kernel
set_option maxRecDepth 20000 in
theorem ggX6_edgesGo_X6_copies : GoodIn wsX6_edgesGo wsX6_copies := goodIn_r _ [5, 6, 38, 39, 40, 41, 42, 43, 44, 45, 46, 47, 48, 49, 50, 51, 52, 53, 54, 55, 56, 57, 58, 59, 60, 61, 62, 63] (by decide +kernel) (by decide +kernel)
set_option maxRecDepth 20000 in
theorem gX6_edgesGo_X6_copies : GoodIn wsX6_edgesGo (wsV RX6 203 RX6 yX6_copies wsX6_copies) := goodIn_app (goodIn_of _ (by decide +kernel)) ggX6_edgesGo_X6_copies
set_option maxRecDepth 20000 in
theorem ggX6_edgesGo_X6_starts : GoodIn wsX6_edgesGo wsX6_starts := goodIn_r _ [10, 11, 12, 13, 14, 38, 39, 40, 41, 42, 43, 44, 45, 46, 47, 48, 49, 50, 51, 52, 53, 54, 55, 56, 57, 58, 59, 60, 61, 62, 63] (by decide +kernel) (by decide +kernel)
set_option maxRecDepth 20000 in
theorem gX6_edgesGo_X6_starts : GoodIn wsX6_edgesGo (wsV RX6 196 RX6 yX6_starts wsX6_starts) := goodIn_app (goodIn_of _ (by decide +kernel)) ggX6_edgesGo_X6_starts
set_option maxRecDepth 20000 in
theorem ggX6_edgesGo_X6_tracesOn : GoodIn wsX6_edgesGo wsX6_tracesOn := goodIn_r _ [18, 6, 19, 20, 21, 4, 22, 11, 12, 14, 23, 24, 25, 26, 27, 28, 29, 30, 31, 32, 33, 34, 35, 36, 37, 38, 39, 40, 41, 42, 43, 44, 45, 46, 47, 48, 49, 50, 51, 52, 53, 54, 55, 56, 57, 58, 59, 60, 61, 62, 63] (by decide +kernel) (by decide +kernel)
set_option maxRecDepth 20000 in
theorem gX6_edgesGo_X6_tracesOn : GoodIn wsX6_edgesGo (wsV RX6 199 RX6 yX6_tracesOn wsX6_tracesOn) := goodIn_app (goodIn_of _ (by decide +kernel)) ggX6_edgesGo_X6_tracesOn
theorem dX6_edgesGo_0 : decode cX6_edgesGo 0 = .ok (.aload_n 0, 1) := by decide +kernel
theorem dX6_edgesGo_1 : decode cX6_edgesGo 1 = .ok (.iconst 0, 1) := by decide +kernel
theorem dX6_edgesGo_2 : decode cX6_edgesGo 2 = .ok (.sipush 148, 3) := by decide +kernel
theorem dX6_edgesGo_5 : decode cX6_edgesGo 5 = .ok (.invokevirtual 203, 3) := by decide +kernel
theorem dX6_edgesGo_8 : decode cX6_edgesGo 8 = .ok (.aload_n 0, 1) := by decide +kernel
theorem dX6_edgesGo_9 : decode cX6_edgesGo 9 = .ok (.invokevirtual 196, 3) := by decide +kernel
theorem dX6_edgesGo_12 : decode cX6_edgesGo 12 = .ok (.iconst 0, 1) := by decide +kernel
theorem dX6_edgesGo_13 : decode cX6_edgesGo 13 = .ok (.istore_n 2, 1) := by decide +kernel
theorem dX6_edgesGo_14 : decode cX6_edgesGo 14 = .ok (.iload_n 2, 1) := by decide +kernel
theorem dX6_edgesGo_15 : decode cX6_edgesGo 15 = .ok (.iload_n 1, 1) := by decide +kernel
theorem dX6_edgesGo_16 : decode cX6_edgesGo 16 = .ok (.if_icmp .ge 17, 3) := by decide +kernel
theorem dX6_edgesGo_19 : decode cX6_edgesGo 19 = .ok (.aload_n 0, 1) := by decide +kernel
theorem dX6_edgesGo_20 : decode cX6_edgesGo 20 = .ok (.sipush 148, 3) := by decide +kernel
theorem dX6_edgesGo_23 : decode cX6_edgesGo 23 = .ok (.iconst 0, 1) := by decide +kernel
theorem dX6_edgesGo_24 : decode cX6_edgesGo 24 = .ok (.invokevirtual 199, 3) := by decide +kernel
theorem dX6_edgesGo_27 : decode cX6_edgesGo 27 = .ok (.iinc 2 1, 3) := by decide +kernel
theorem dX6_edgesGo_30 : decode cX6_edgesGo 30 = .ok (.goto (-16), 3) := by decide +kernel
theorem dX6_edgesGo_33 : decode cX6_edgesGo 33 = .ok (.return_, 1) := by decide +kernel
set_option maxRecDepth 20000 in
theorem ggX6_runs_X6_isLong : GoodIn wsX6_runs wsX6_isLong := goodIn_r _ [9, 10, 11, 12, 8, 13] (by decide +kernel) (by decide +kernel)
set_option maxRecDepth 20000 in
theorem gX6_runs_X6_isLong : GoodIn wsX6_runs (va_wsS RX6 206 yX6_isLong wsX6_isLong) := goodIn_app (goodIn_of _ (by decide +kernel)) ggX6_runs_X6_isLong
set_option maxRecDepth 20000 in
theorem ggX6_runs_X6_in : GoodIn wsX6_runs wsX6_in := goodIn_r _ [13] (by decide +kernel) (by decide +kernel)
set_option maxRecDepth 20000 in
theorem gX6_runs_X6_in : GoodIn wsX6_runs (va_wsS RX6 50 yX6_in wsX6_in) := goodIn_app (goodIn_of _ (by decide +kernel)) ggX6_runs_X6_in
set_option maxRecDepth 20000 in
theorem ggX6_runs_X6_edgesGo : GoodIn wsX6_runs wsX6_edgesGo := goodIn_r _ [17, 18, 19, 20, 8, 21, 2, 22, 23, 24, 25, 4, 5, 26, 3, 27, 28, 29, 30, 31, 32, 33, 34, 35, 36, 37, 38, 39, 40, 41, 42, 43, 44, 45, 46, 47, 48, 49, 50, 51, 52, 53, 54, 55, 56, 57, 58, 59, 60, 61, 62, 63, 64, 65, 66, 67, 68, 69, 70, 71, 72, 73, 74, 75] (by decide +kernel) (by decide +kernel)
set_option maxRecDepth 20000 in
theorem gX6_runs_X6_edgesGo : GoodIn wsX6_runs (wsV RX6 209 RX6 yX6_edgesGo wsX6_edgesGo) := goodIn_app (goodIn_of _ (by decide +kernel)) ggX6_runs_X6_edgesGo
theorem dX6_runs_0 : decode cX6_runs 0 = .ok (.iload_n 1, 1) := by decide +kernel
theorem dX6_runs_1 : decode cX6_runs 1 = .ok (.invokestatic 206, 3) := by decide +kernel
theorem dX6_runs_4 : decode cX6_runs 4 = .ok (.ifCond .eq 15, 3) := by decide +kernel
theorem dX6_runs_7 : decode cX6_runs 7 = .ok (.iload_n 2, 1) := by decide +kernel
theorem dX6_runs_8 : decode cX6_runs 8 = .ok (.i2l, 1) := by decide +kernel
theorem dX6_runs_9 : decode cX6_runs 9 = .ok (.lconst 0, 1) := by decide +kernel
theorem dX6_runs_10 : decode cX6_runs 10 = .ok (.ldc2_w 163, 3) := by decide +kernel
theorem dX6_runs_13 : decode cX6_runs 13 = .ok (.invokestatic 50, 3) := by decide +kernel
theorem dX6_runs_16 : decode cX6_runs 16 = .ok (.ifCond .ne 5, 3) := by decide +kernel
theorem dX6_runs_19 : decode cX6_runs 19 = .ok (.iconst (-1), 1) := by decide +kernel
theorem dX6_runs_20 : decode cX6_runs 20 = .ok (.ireturn, 1) := by decide +kernel
theorem dX6_runs_21 : decode cX6_runs 21 = .ok (.aload_n 0, 1) := by decide +kernel
theorem dX6_runs_22 : decode cX6_runs 22 = .ok (.iload_n 1, 1) := by decide +kernel
theorem dX6_runs_23 : decode cX6_runs 23 = .ok (.invokevirtual 209, 3) := by decide +kernel
theorem dX6_runs_26 : decode cX6_runs 26 = .ok (.iload_n 2, 1) := by decide +kernel
theorem dX6_runs_27 : decode cX6_runs 27 = .ok (.iconst 2, 1) := by decide +kernel
theorem dX6_runs_28 : decode cX6_runs 28 = .ok (.if_icmp .ne 31, 3) := by decide +kernel
theorem dX6_runs_31 : decode cX6_runs 31 = .ok (.iload_n 1, 1) := by decide +kernel
theorem dX6_runs_32 : decode cX6_runs 32 = .ok (.ifCond .eq 13, 3) := by decide +kernel
theorem dX6_runs_35 : decode cX6_runs 35 = .ok (.aload_n 0, 1) := by decide +kernel
theorem dX6_runs_36 : decode cX6_runs 36 = .ok (.getfield 7, 3) := by decide +kernel
theorem dX6_runs_39 : decode cX6_runs 39 = .ok (.bipush 20, 2) := by decide +kernel
theorem dX6_runs_41 : decode cX6_runs 41 = .ok (.iaload, 1) := by decide +kernel
theorem dX6_runs_42 : decode cX6_runs 42 = .ok (.ifCond .ne 8, 3) := by decide +kernel
theorem dX6_runs_45 : decode cX6_runs 45 = .ok (.bipush (-4), 2) := by decide +kernel
theorem dX6_runs_47 : decode cX6_runs 47 = .ok (.goto 11, 3) := by decide +kernel
theorem dX6_runs_50 : decode cX6_runs 50 = .ok (.sipush 10000, 3) := by decide +kernel
theorem dX6_runs_53 : decode cX6_runs 53 = .ok (.aload_n 0, 1) := by decide +kernel
theorem dX6_runs_54 : decode cX6_runs 54 = .ok (.getfield 151, 3) := by decide +kernel
theorem dX6_runs_57 : decode cX6_runs 57 = .ok (.iadd, 1) := by decide +kernel
theorem dX6_runs_58 : decode cX6_runs 58 = .ok (.ireturn, 1) := by decide +kernel
theorem dX6_runs_59 : decode cX6_runs 59 = .ok (.iload_n 2, 1) := by decide +kernel
theorem dX6_runs_60 : decode cX6_runs 60 = .ok (.ifCond .ne 10, 3) := by decide +kernel
theorem dX6_runs_63 : decode cX6_runs 63 = .ok (.aload_n 0, 1) := by decide +kernel
theorem dX6_runs_64 : decode cX6_runs 64 = .ok (.getfield 144, 3) := by decide +kernel
theorem dX6_runs_67 : decode cX6_runs 67 = .ok (.goto 7, 3) := by decide +kernel
theorem dX6_runs_70 : decode cX6_runs 70 = .ok (.aload_n 0, 1) := by decide +kernel
theorem dX6_runs_71 : decode cX6_runs 71 = .ok (.getfield 147, 3) := by decide +kernel
theorem dX6_runs_74 : decode cX6_runs 74 = .ok (.ireturn, 1) := by decide +kernel
set_option maxRecDepth 20000 in
theorem ggX6_ahead_X6_isWheel : GoodIn wsX6_ahead wsX6_isWheel := goodIn_r _ [7, 2, 8, 9, 6, 10, 54, 55, 56, 57, 58, 59, 60, 61, 62, 63, 64, 65, 66, 67, 68, 69, 70, 71, 72, 73, 74, 75, 76, 77, 78, 79] (by decide +kernel) (by decide +kernel)
set_option maxRecDepth 20000 in
theorem gX6_ahead_X6_isWheel : GoodIn wsX6_ahead (wsV RX6 165 RX6 yX6_isWheel wsX6_isWheel) := goodIn_app (goodIn_of _ (by decide +kernel)) ggX6_ahead_X6_isWheel
set_option maxRecDepth 20000 in
theorem ggX6_ahead_X6_isLong : GoodIn wsX6_ahead wsX6_isLong := goodIn_r _ [13, 14, 8, 9, 6, 10] (by decide +kernel) (by decide +kernel)
set_option maxRecDepth 20000 in
theorem gX6_ahead_X6_isLong : GoodIn wsX6_ahead (va_wsS RX6 206 yX6_isLong wsX6_isLong) := goodIn_app (goodIn_of _ (by decide +kernel)) ggX6_ahead_X6_isLong
set_option maxRecDepth 20000 in
theorem ggX6_ahead_X6_edgesGo : GoodIn wsX6_ahead wsX6_edgesGo := goodIn_r _ [18, 19, 20, 21, 6, 22, 2, 23, 24, 25, 26, 27, 28, 29, 30, 31, 32, 33, 34, 35, 36, 37, 38, 39, 40, 41, 42, 43, 44, 45, 46, 47, 48, 49, 50, 51, 52, 53, 54, 55, 56, 57, 58, 59, 60, 61, 62, 63, 64, 65, 66, 67, 68, 69, 70, 71, 72, 73, 74, 75, 76, 77, 78, 79] (by decide +kernel) (by decide +kernel)
set_option maxRecDepth 20000 in
theorem gX6_ahead_X6_edgesGo : GoodIn wsX6_ahead (wsV RX6 209 RX6 yX6_edgesGo wsX6_edgesGo) := goodIn_app (goodIn_of _ (by decide +kernel)) ggX6_ahead_X6_edgesGo
theorem dX6_ahead_0 : decode cX6_ahead 0 = .ok (.aload_n 0, 1) := by decide +kernel
theorem dX6_ahead_1 : decode cX6_ahead 1 = .ok (.iload_n 1, 1) := by decide +kernel
theorem dX6_ahead_2 : decode cX6_ahead 2 = .ok (.invokevirtual 165, 3) := by decide +kernel
theorem dX6_ahead_5 : decode cX6_ahead 5 = .ok (.ifCond .eq 10, 3) := by decide +kernel
theorem dX6_ahead_8 : decode cX6_ahead 8 = .ok (.iload_n 2, 1) := by decide +kernel
theorem dX6_ahead_9 : decode cX6_ahead 9 = .ok (.invokestatic 206, 3) := by decide +kernel
theorem dX6_ahead_12 : decode cX6_ahead 12 = .ok (.ifCond .ne 5, 3) := by decide +kernel
theorem dX6_ahead_15 : decode cX6_ahead 15 = .ok (.iconst (-1), 1) := by decide +kernel
theorem dX6_ahead_16 : decode cX6_ahead 16 = .ok (.ireturn, 1) := by decide +kernel
theorem dX6_ahead_17 : decode cX6_ahead 17 = .ok (.aload_n 0, 1) := by decide +kernel
theorem dX6_ahead_18 : decode cX6_ahead 18 = .ok (.iload_n 2, 1) := by decide +kernel
theorem dX6_ahead_19 : decode cX6_ahead 19 = .ok (.invokevirtual 209, 3) := by decide +kernel
theorem dX6_ahead_22 : decode cX6_ahead 22 = .ok (.ldc 168, 2) := by decide +kernel
theorem dX6_ahead_24 : decode cX6_ahead 24 = .ok (.aload_n 0, 1) := by decide +kernel
theorem dX6_ahead_25 : decode cX6_ahead 25 = .ok (.getfield 7, 3) := by decide +kernel
theorem dX6_ahead_28 : decode cX6_ahead 28 = .ok (.sipush 179, 3) := by decide +kernel
theorem dX6_ahead_31 : decode cX6_ahead 31 = .ok (.iload_n 1, 1) := by decide +kernel
theorem dX6_ahead_32 : decode cX6_ahead 32 = .ok (.iadd, 1) := by decide +kernel
theorem dX6_ahead_33 : decode cX6_ahead 33 = .ok (.iaload, 1) := by decide +kernel
theorem dX6_ahead_34 : decode cX6_ahead 34 = .ok (.iadd, 1) := by decide +kernel
theorem dX6_ahead_35 : decode cX6_ahead 35 = .ok (.ireturn, 1) := by decide +kernel
set_option maxRecDepth 20000 in
theorem ggX6_when_X6_isWheel : GoodIn wsX6_when wsX6_isWheel := goodIn_r _ [7, 1, 8, 9, 6, 10, 55, 56, 57, 58, 59, 60, 61, 62, 63, 64, 65, 66, 67, 68, 69, 70, 71, 72, 73, 74, 75, 76, 77, 78, 79, 80] (by decide +kernel) (by decide +kernel)
set_option maxRecDepth 20000 in
theorem gX6_when_X6_isWheel : GoodIn wsX6_when (wsV RX6 165 RX6 yX6_isWheel wsX6_isWheel) := goodIn_app (goodIn_of _ (by decide +kernel)) ggX6_when_X6_isWheel
set_option maxRecDepth 20000 in
theorem ggX6_when_X6_isReading : GoodIn wsX6_when wsX6_isReading := goodIn_r _ [13, 14, 15, 8, 9, 6, 10] (by decide +kernel) (by decide +kernel)
set_option maxRecDepth 20000 in
theorem gX6_when_X6_isReading : GoodIn wsX6_when (va_wsS RX6 212 yX6_isReading wsX6_isReading) := goodIn_app (goodIn_of _ (by decide +kernel)) ggX6_when_X6_isReading
set_option maxRecDepth 20000 in
theorem ggX6_when_X6_edgesGo : GoodIn wsX6_when wsX6_edgesGo := goodIn_r _ [19, 20, 21, 22, 6, 23, 1, 24, 25, 26, 27, 28, 29, 30, 31, 32, 33, 34, 35, 36, 37, 38, 39, 40, 41, 42, 43, 44, 45, 46, 47, 48, 49, 50, 51, 52, 53, 54, 55, 56, 57, 58, 59, 60, 61, 62, 63, 64, 65, 66, 67, 68, 69, 70, 71, 72, 73, 74, 75, 76, 77, 78, 79, 80] (by decide +kernel) (by decide +kernel)
set_option maxRecDepth 20000 in
theorem gX6_when_X6_edgesGo : GoodIn wsX6_when (wsV RX6 209 RX6 yX6_edgesGo wsX6_edgesGo) := goodIn_app (goodIn_of _ (by decide +kernel)) ggX6_when_X6_edgesGo
set_option maxRecDepth 20000 in
theorem ggX6_when_X6_tracesOn : GoodIn wsX6_when wsX6_tracesOn := goodIn_r _ [35, 1, 36, 37, 38, 6, 39, 28, 29, 31, 40, 41, 42, 43, 44, 45, 46, 47, 48, 49, 50, 51, 52, 53, 54, 55, 56, 57, 58, 59, 60, 61, 62, 63, 64, 65, 66, 67, 68, 69, 70, 71, 72, 73, 74, 75, 76, 77, 78, 79, 80] (by decide +kernel) (by decide +kernel)
set_option maxRecDepth 20000 in
theorem gX6_when_X6_tracesOn : GoodIn wsX6_when (wsV RX6 199 RX6 yX6_tracesOn wsX6_tracesOn) := goodIn_app (goodIn_of _ (by decide +kernel)) ggX6_when_X6_tracesOn
theorem dX6_when_0 : decode cX6_when 0 = .ok (.aload_n 0, 1) := by decide +kernel
theorem dX6_when_1 : decode cX6_when 1 = .ok (.iload_n 1, 1) := by decide +kernel
theorem dX6_when_2 : decode cX6_when 2 = .ok (.invokevirtual 165, 3) := by decide +kernel
theorem dX6_when_5 : decode cX6_when 5 = .ok (.ifCond .eq 10, 3) := by decide +kernel
theorem dX6_when_8 : decode cX6_when 8 = .ok (.iload_n 2, 1) := by decide +kernel
theorem dX6_when_9 : decode cX6_when 9 = .ok (.invokestatic 212, 3) := by decide +kernel
theorem dX6_when_12 : decode cX6_when 12 = .ok (.ifCond .ne 5, 3) := by decide +kernel
theorem dX6_when_15 : decode cX6_when 15 = .ok (.iconst (-1), 1) := by decide +kernel
theorem dX6_when_16 : decode cX6_when 16 = .ok (.ireturn, 1) := by decide +kernel
theorem dX6_when_17 : decode cX6_when 17 = .ok (.aload_n 0, 1) := by decide +kernel
theorem dX6_when_18 : decode cX6_when 18 = .ok (.iconst 0, 1) := by decide +kernel
theorem dX6_when_19 : decode cX6_when 19 = .ok (.invokevirtual 209, 3) := by decide +kernel
theorem dX6_when_22 : decode cX6_when 22 = .ok (.iconst 0, 1) := by decide +kernel
theorem dX6_when_23 : decode cX6_when 23 = .ok (.istore_n 3, 1) := by decide +kernel
theorem dX6_when_24 : decode cX6_when 24 = .ok (.iload_n 3, 1) := by decide +kernel
theorem dX6_when_25 : decode cX6_when 25 = .ok (.sipush 200, 3) := by decide +kernel
theorem dX6_when_28 : decode cX6_when 28 = .ok (.if_icmp .gt 36, 3) := by decide +kernel
theorem dX6_when_31 : decode cX6_when 31 = .ok (.aload_n 0, 1) := by decide +kernel
theorem dX6_when_32 : decode cX6_when 32 = .ok (.getfield 7, 3) := by decide +kernel
theorem dX6_when_35 : decode cX6_when 35 = .ok (.sipush 179, 3) := by decide +kernel
theorem dX6_when_38 : decode cX6_when 38 = .ok (.iload_n 1, 1) := by decide +kernel
theorem dX6_when_39 : decode cX6_when 39 = .ok (.iadd, 1) := by decide +kernel
theorem dX6_when_40 : decode cX6_when 40 = .ok (.iaload, 1) := by decide +kernel
theorem dX6_when_41 : decode cX6_when 41 = .ok (.iload_n 2, 1) := by decide +kernel
theorem dX6_when_42 : decode cX6_when 42 = .ok (.ldc 168, 2) := by decide +kernel
theorem dX6_when_44 : decode cX6_when 44 = .ok (.isub, 1) := by decide +kernel
theorem dX6_when_45 : decode cX6_when 45 = .ok (.if_icmp .lt 5, 3) := by decide +kernel
theorem dX6_when_48 : decode cX6_when 48 = .ok (.iload_n 3, 1) := by decide +kernel
theorem dX6_when_49 : decode cX6_when 49 = .ok (.ireturn, 1) := by decide +kernel
theorem dX6_when_50 : decode cX6_when 50 = .ok (.aload_n 0, 1) := by decide +kernel
theorem dX6_when_51 : decode cX6_when 51 = .ok (.sipush 148, 3) := by decide +kernel
theorem dX6_when_54 : decode cX6_when 54 = .ok (.iconst 0, 1) := by decide +kernel
theorem dX6_when_55 : decode cX6_when 55 = .ok (.invokevirtual 199, 3) := by decide +kernel
theorem dX6_when_58 : decode cX6_when 58 = .ok (.iinc 3 1, 3) := by decide +kernel
theorem dX6_when_61 : decode cX6_when 61 = .ok (.goto (-37), 3) := by decide +kernel
theorem dX6_when_64 : decode cX6_when 64 = .ok (.bipush (-4), 2) := by decide +kernel
theorem dX6_when_66 : decode cX6_when 66 = .ok (.ireturn, 1) := by decide +kernel
set_option maxRecDepth 20000 in
theorem ggX6_best_X6_isWheel : GoodIn wsX6_best wsX6_isWheel := goodIn_r _ [7, 2, 8, 9, 6, 10, 39, 40, 41, 42, 43, 44, 45, 46, 47, 48, 49, 50, 51, 52, 53, 54, 55, 56, 57, 58, 59, 60, 61, 62, 63, 64] (by decide +kernel) (by decide +kernel)
set_option maxRecDepth 20000 in
theorem gX6_best_X6_isWheel : GoodIn wsX6_best (wsV RX6 165 RX6 yX6_isWheel wsX6_isWheel) := goodIn_app (goodIn_of _ (by decide +kernel)) ggX6_best_X6_isWheel
set_option maxRecDepth 20000 in
theorem ggX6_best_X6_in : GoodIn wsX6_best wsX6_in := goodIn_r _ [10] (by decide +kernel) (by decide +kernel)
set_option maxRecDepth 20000 in
theorem gX6_best_X6_in : GoodIn wsX6_best (va_wsS RX6 50 yX6_in wsX6_in) := goodIn_app (goodIn_of _ (by decide +kernel)) ggX6_best_X6_in
set_option maxRecDepth 20000 in
theorem ggX6_best_X6_copies : GoodIn wsX6_best wsX6_copies := goodIn_r _ [14, 2, 39, 40, 41, 42, 43, 44, 45, 46, 47, 48, 49, 50, 51, 52, 53, 54, 55, 56, 57, 58, 59, 60, 61, 62, 63, 64] (by decide +kernel) (by decide +kernel)
set_option maxRecDepth 20000 in
theorem gX6_best_X6_copies : GoodIn wsX6_best (wsV RX6 203 RX6 yX6_copies wsX6_copies) := goodIn_app (goodIn_of _ (by decide +kernel)) ggX6_best_X6_copies
set_option maxRecDepth 20000 in
theorem ggX6_best_X6_errorOn : GoodIn wsX6_best wsX6_errorOn := goodIn_r _ [18, 2, 19, 20, 21, 6, 22, 23, 24, 25, 26, 27, 28, 29, 30, 31, 32, 33, 34, 35, 36, 37, 38, 39, 40, 41, 42, 43, 44, 45, 46, 47, 48, 49, 50, 51, 52, 53, 54, 55, 56, 57, 58, 59, 60, 61, 62, 63, 64] (by decide +kernel) (by decide +kernel)
set_option maxRecDepth 20000 in
theorem gX6_best_X6_errorOn : GoodIn wsX6_best (wsV RX6 172 RX6 yX6_errorOn wsX6_errorOn) := goodIn_app (goodIn_of _ (by decide +kernel)) ggX6_best_X6_errorOn
theorem dX6_best_0 : decode cX6_best 0 = .ok (.aload_n 0, 1) := by decide +kernel
theorem dX6_best_1 : decode cX6_best 1 = .ok (.iload_n 1, 1) := by decide +kernel
theorem dX6_best_2 : decode cX6_best 2 = .ok (.invokevirtual 165, 3) := by decide +kernel
theorem dX6_best_5 : decode cX6_best 5 = .ok (.ifCond .eq 13, 3) := by decide +kernel
theorem dX6_best_8 : decode cX6_best 8 = .ok (.iload_n 2, 1) := by decide +kernel
theorem dX6_best_9 : decode cX6_best 9 = .ok (.i2l, 1) := by decide +kernel
theorem dX6_best_10 : decode cX6_best 10 = .ok (.lconst 0, 1) := by decide +kernel
theorem dX6_best_11 : decode cX6_best 11 = .ok (.lconst 1, 1) := by decide +kernel
theorem dX6_best_12 : decode cX6_best 12 = .ok (.invokestatic 50, 3) := by decide +kernel
theorem dX6_best_15 : decode cX6_best 15 = .ok (.ifCond .ne 5, 3) := by decide +kernel
theorem dX6_best_18 : decode cX6_best 18 = .ok (.iconst (-1), 1) := by decide +kernel
theorem dX6_best_19 : decode cX6_best 19 = .ok (.ireturn, 1) := by decide +kernel
theorem dX6_best_20 : decode cX6_best 20 = .ok (.ldc 215, 2) := by decide +kernel
theorem dX6_best_22 : decode cX6_best 22 = .ok (.istore_n 3, 1) := by decide +kernel
theorem dX6_best_23 : decode cX6_best 23 = .ok (.iconst 0, 1) := by decide +kernel
theorem dX6_best_24 : decode cX6_best 24 = .ok (.istore 4, 2) := by decide +kernel
theorem dX6_best_26 : decode cX6_best 26 = .ok (.aload_n 0, 1) := by decide +kernel
theorem dX6_best_27 : decode cX6_best 27 = .ok (.iconst 0, 1) := by decide +kernel
theorem dX6_best_28 : decode cX6_best 28 = .ok (.sipush 185, 3) := by decide +kernel
theorem dX6_best_31 : decode cX6_best 31 = .ok (.invokevirtual 203, 3) := by decide +kernel
theorem dX6_best_34 : decode cX6_best 34 = .ok (.iconst 0, 1) := by decide +kernel
theorem dX6_best_35 : decode cX6_best 35 = .ok (.istore 5, 2) := by decide +kernel
theorem dX6_best_37 : decode cX6_best 37 = .ok (.iload 5, 2) := by decide +kernel
theorem dX6_best_39 : decode cX6_best 39 = .ok (.bipush 20, 2) := by decide +kernel
theorem dX6_best_41 : decode cX6_best 41 = .ok (.if_icmp .gt 89, 3) := by decide +kernel
theorem dX6_best_44 : decode cX6_best 44 = .ok (.iconst 0, 1) := by decide +kernel
theorem dX6_best_45 : decode cX6_best 45 = .ok (.istore 6, 2) := by decide +kernel
theorem dX6_best_47 : decode cX6_best 47 = .ok (.iload 6, 2) := by decide +kernel
theorem dX6_best_49 : decode cX6_best 49 = .ok (.bipush 20, 2) := by decide +kernel
theorem dX6_best_51 : decode cX6_best 51 = .ok (.if_icmp .gt 73, 3) := by decide +kernel
theorem dX6_best_54 : decode cX6_best 54 = .ok (.aload_n 0, 1) := by decide +kernel
theorem dX6_best_55 : decode cX6_best 55 = .ok (.getfield 7, 3) := by decide +kernel
theorem dX6_best_58 : decode cX6_best 58 = .ok (.sipush 206, 3) := by decide +kernel
theorem dX6_best_61 : decode cX6_best 61 = .ok (.iload 5, 2) := by decide +kernel
theorem dX6_best_63 : decode cX6_best 63 = .ok (.iastore, 1) := by decide +kernel
theorem dX6_best_64 : decode cX6_best 64 = .ok (.aload_n 0, 1) := by decide +kernel
theorem dX6_best_65 : decode cX6_best 65 = .ok (.getfield 7, 3) := by decide +kernel
theorem dX6_best_68 : decode cX6_best 68 = .ok (.sipush 207, 3) := by decide +kernel
theorem dX6_best_71 : decode cX6_best 71 = .ok (.iload 6, 2) := by decide +kernel
theorem dX6_best_73 : decode cX6_best 73 = .ok (.iastore, 1) := by decide +kernel
theorem dX6_best_74 : decode cX6_best 74 = .ok (.aload_n 0, 1) := by decide +kernel
theorem dX6_best_75 : decode cX6_best 75 = .ok (.sipush 185, 3) := by decide +kernel
theorem dX6_best_78 : decode cX6_best 78 = .ok (.iload_n 1, 1) := by decide +kernel
theorem dX6_best_79 : decode cX6_best 79 = .ok (.invokevirtual 172, 3) := by decide +kernel
theorem dX6_best_82 : decode cX6_best 82 = .ok (.istore 7, 2) := by decide +kernel
theorem dX6_best_84 : decode cX6_best 84 = .ok (.iload 7, 2) := by decide +kernel
theorem dX6_best_86 : decode cX6_best 86 = .ok (.iload_n 3, 1) := by decide +kernel
theorem dX6_best_87 : decode cX6_best 87 = .ok (.if_icmp .ge 14, 3) := by decide +kernel
theorem dX6_best_90 : decode cX6_best 90 = .ok (.bipush 100, 2) := by decide +kernel
theorem dX6_best_92 : decode cX6_best 92 = .ok (.iload 5, 2) := by decide +kernel
theorem dX6_best_94 : decode cX6_best 94 = .ok (.imul, 1) := by decide +kernel
theorem dX6_best_95 : decode cX6_best 95 = .ok (.iload 6, 2) := by decide +kernel
theorem dX6_best_97 : decode cX6_best 97 = .ok (.iadd, 1) := by decide +kernel
theorem dX6_best_98 : decode cX6_best 98 = .ok (.goto 5, 3) := by decide +kernel
theorem dX6_best_101 : decode cX6_best 101 = .ok (.iload 4, 2) := by decide +kernel
theorem dX6_best_103 : decode cX6_best 103 = .ok (.istore 4, 2) := by decide +kernel
theorem dX6_best_105 : decode cX6_best 105 = .ok (.iload 7, 2) := by decide +kernel
theorem dX6_best_107 : decode cX6_best 107 = .ok (.iload_n 3, 1) := by decide +kernel
theorem dX6_best_108 : decode cX6_best 108 = .ok (.if_icmp .ge 8, 3) := by decide +kernel
theorem dX6_best_111 : decode cX6_best 111 = .ok (.iload 7, 2) := by decide +kernel
theorem dX6_best_113 : decode cX6_best 113 = .ok (.goto 4, 3) := by decide +kernel
theorem dX6_best_116 : decode cX6_best 116 = .ok (.iload_n 3, 1) := by decide +kernel
theorem dX6_best_117 : decode cX6_best 117 = .ok (.istore_n 3, 1) := by decide +kernel
theorem dX6_best_118 : decode cX6_best 118 = .ok (.iinc 6 1, 3) := by decide +kernel
theorem dX6_best_121 : decode cX6_best 121 = .ok (.goto (-74), 3) := by decide +kernel
theorem dX6_best_124 : decode cX6_best 124 = .ok (.iinc 5 1, 3) := by decide +kernel
theorem dX6_best_127 : decode cX6_best 127 = .ok (.goto (-90), 3) := by decide +kernel
theorem dX6_best_130 : decode cX6_best 130 = .ok (.iload_n 2, 1) := by decide +kernel
theorem dX6_best_131 : decode cX6_best 131 = .ok (.ifCond .ne 8, 3) := by decide +kernel
theorem dX6_best_134 : decode cX6_best 134 = .ok (.iload 4, 2) := by decide +kernel
theorem dX6_best_136 : decode cX6_best 136 = .ok (.goto 4, 3) := by decide +kernel
theorem dX6_best_139 : decode cX6_best 139 = .ok (.iload_n 3, 1) := by decide +kernel
theorem dX6_best_140 : decode cX6_best 140 = .ok (.ireturn, 1) := by decide +kernel
set_option maxRecDepth 20000 in
theorem ggX6_step_X6_isWheel : GoodIn wsX6_step wsX6_isWheel := goodIn_r _ [7, 2, 8, 9, 6, 10, 39, 40, 41, 42, 43, 44, 45, 46, 47, 48, 49, 50, 51, 52, 53, 54, 55, 56, 57, 58, 59, 60, 61, 62, 63, 64] (by decide +kernel) (by decide +kernel)
set_option maxRecDepth 20000 in
theorem gX6_step_X6_isWheel : GoodIn wsX6_step (wsV RX6 165 RX6 yX6_isWheel wsX6_isWheel) := goodIn_app (goodIn_of _ (by decide +kernel)) ggX6_step_X6_isWheel
set_option maxRecDepth 20000 in
theorem ggX6_step_X6_in : GoodIn wsX6_step wsX6_in := goodIn_r _ [10] (by decide +kernel) (by decide +kernel)
set_option maxRecDepth 20000 in
theorem gX6_step_X6_in : GoodIn wsX6_step (va_wsS RX6 50 yX6_in wsX6_in) := goodIn_app (goodIn_of _ (by decide +kernel)) ggX6_step_X6_in
set_option maxRecDepth 20000 in
theorem ggX6_step_X6_copies : GoodIn wsX6_step wsX6_copies := goodIn_r _ [14, 2, 39, 40, 41, 42, 43, 44, 45, 46, 47, 48, 49, 50, 51, 52, 53, 54, 55, 56, 57, 58, 59, 60, 61, 62, 63, 64] (by decide +kernel) (by decide +kernel)
set_option maxRecDepth 20000 in
theorem gX6_step_X6_copies : GoodIn wsX6_step (wsV RX6 203 RX6 yX6_copies wsX6_copies) := goodIn_app (goodIn_of _ (by decide +kernel)) ggX6_step_X6_copies
set_option maxRecDepth 20000 in
theorem ggX6_step_X6_errorOn : GoodIn wsX6_step wsX6_errorOn := goodIn_r _ [18, 2, 19, 20, 21, 6, 22, 23, 24, 25, 26, 27, 28, 29, 30, 31, 32, 33, 34, 35, 36, 37, 38, 39, 40, 41, 42, 43, 44, 45, 46, 47, 48, 49, 50, 51, 52, 53, 54, 55, 56, 57, 58, 59, 60, 61, 62, 63, 64] (by decide +kernel) (by decide +kernel)
set_option maxRecDepth 20000 in
theorem gX6_step_X6_errorOn : GoodIn wsX6_step (wsV RX6 172 RX6 yX6_errorOn wsX6_errorOn) := goodIn_app (goodIn_of _ (by decide +kernel)) ggX6_step_X6_errorOn
theorem dX6_step_0 : decode cX6_step 0 = .ok (.aload_n 0, 1) := by decide +kernel
theorem dX6_step_1 : decode cX6_step 1 = .ok (.iload_n 1, 1) := by decide +kernel
theorem dX6_step_2 : decode cX6_step 2 = .ok (.invokevirtual 165, 3) := by decide +kernel
theorem dX6_step_5 : decode cX6_step 5 = .ok (.ifCond .eq 13, 3) := by decide +kernel
theorem dX6_step_8 : decode cX6_step 8 = .ok (.iload_n 2, 1) := by decide +kernel
theorem dX6_step_9 : decode cX6_step 9 = .ok (.i2l, 1) := by decide +kernel
theorem dX6_step_10 : decode cX6_step 10 = .ok (.lconst 0, 1) := by decide +kernel
theorem dX6_step_11 : decode cX6_step 11 = .ok (.lconst 1, 1) := by decide +kernel
theorem dX6_step_12 : decode cX6_step 12 = .ok (.invokestatic 50, 3) := by decide +kernel
theorem dX6_step_15 : decode cX6_step 15 = .ok (.ifCond .ne 5, 3) := by decide +kernel
theorem dX6_step_18 : decode cX6_step 18 = .ok (.iconst (-1), 1) := by decide +kernel
theorem dX6_step_19 : decode cX6_step 19 = .ok (.ireturn, 1) := by decide +kernel
theorem dX6_step_20 : decode cX6_step 20 = .ok (.ldc 215, 2) := by decide +kernel
theorem dX6_step_22 : decode cX6_step 22 = .ok (.istore_n 3, 1) := by decide +kernel
theorem dX6_step_23 : decode cX6_step 23 = .ok (.iconst 0, 1) := by decide +kernel
theorem dX6_step_24 : decode cX6_step 24 = .ok (.istore 4, 2) := by decide +kernel
theorem dX6_step_26 : decode cX6_step 26 = .ok (.aload_n 0, 1) := by decide +kernel
theorem dX6_step_27 : decode cX6_step 27 = .ok (.iconst 0, 1) := by decide +kernel
theorem dX6_step_28 : decode cX6_step 28 = .ok (.sipush 185, 3) := by decide +kernel
theorem dX6_step_31 : decode cX6_step 31 = .ok (.invokevirtual 203, 3) := by decide +kernel
theorem dX6_step_34 : decode cX6_step 34 = .ok (.bipush 9, 2) := by decide +kernel
theorem dX6_step_36 : decode cX6_step 36 = .ok (.istore 5, 2) := by decide +kernel
theorem dX6_step_38 : decode cX6_step 38 = .ok (.iload 5, 2) := by decide +kernel
theorem dX6_step_40 : decode cX6_step 40 = .ok (.ifCond .le 59, 3) := by decide +kernel
theorem dX6_step_43 : decode cX6_step 43 = .ok (.aload_n 0, 1) := by decide +kernel
theorem dX6_step_44 : decode cX6_step 44 = .ok (.getfield 7, 3) := by decide +kernel
theorem dX6_step_47 : decode cX6_step 47 = .ok (.sipush 212, 3) := by decide +kernel
theorem dX6_step_50 : decode cX6_step 50 = .ok (.iload_n 1, 1) := by decide +kernel
theorem dX6_step_51 : decode cX6_step 51 = .ok (.iadd, 1) := by decide +kernel
theorem dX6_step_52 : decode cX6_step 52 = .ok (.iload 5, 2) := by decide +kernel
theorem dX6_step_54 : decode cX6_step 54 = .ok (.iastore, 1) := by decide +kernel
theorem dX6_step_55 : decode cX6_step 55 = .ok (.aload_n 0, 1) := by decide +kernel
theorem dX6_step_56 : decode cX6_step 56 = .ok (.sipush 185, 3) := by decide +kernel
theorem dX6_step_59 : decode cX6_step 59 = .ok (.iload_n 1, 1) := by decide +kernel
theorem dX6_step_60 : decode cX6_step 60 = .ok (.invokevirtual 172, 3) := by decide +kernel
theorem dX6_step_63 : decode cX6_step 63 = .ok (.istore 6, 2) := by decide +kernel
theorem dX6_step_65 : decode cX6_step 65 = .ok (.iload 6, 2) := by decide +kernel
theorem dX6_step_67 : decode cX6_step 67 = .ok (.iload_n 3, 1) := by decide +kernel
theorem dX6_step_68 : decode cX6_step 68 = .ok (.if_icmp .ge 8, 3) := by decide +kernel
theorem dX6_step_71 : decode cX6_step 71 = .ok (.iload 5, 2) := by decide +kernel
theorem dX6_step_73 : decode cX6_step 73 = .ok (.goto 5, 3) := by decide +kernel
theorem dX6_step_76 : decode cX6_step 76 = .ok (.iload 4, 2) := by decide +kernel
theorem dX6_step_78 : decode cX6_step 78 = .ok (.istore 4, 2) := by decide +kernel
theorem dX6_step_80 : decode cX6_step 80 = .ok (.iload 6, 2) := by decide +kernel
theorem dX6_step_82 : decode cX6_step 82 = .ok (.iload_n 3, 1) := by decide +kernel
theorem dX6_step_83 : decode cX6_step 83 = .ok (.if_icmp .ge 8, 3) := by decide +kernel
theorem dX6_step_86 : decode cX6_step 86 = .ok (.iload 6, 2) := by decide +kernel
theorem dX6_step_88 : decode cX6_step 88 = .ok (.goto 4, 3) := by decide +kernel
theorem dX6_step_91 : decode cX6_step 91 = .ok (.iload_n 3, 1) := by decide +kernel
theorem dX6_step_92 : decode cX6_step 92 = .ok (.istore_n 3, 1) := by decide +kernel
theorem dX6_step_93 : decode cX6_step 93 = .ok (.iinc 5 (-1), 3) := by decide +kernel
theorem dX6_step_96 : decode cX6_step 96 = .ok (.goto (-58), 3) := by decide +kernel
theorem dX6_step_99 : decode cX6_step 99 = .ok (.iload_n 2, 1) := by decide +kernel
theorem dX6_step_100 : decode cX6_step 100 = .ok (.ifCond .ne 8, 3) := by decide +kernel
theorem dX6_step_103 : decode cX6_step 103 = .ok (.iload 4, 2) := by decide +kernel
theorem dX6_step_105 : decode cX6_step 105 = .ok (.goto 4, 3) := by decide +kernel
theorem dX6_step_108 : decode cX6_step 108 = .ok (.iload_n 3, 1) := by decide +kernel
theorem dX6_step_109 : decode cX6_step 109 = .ok (.ireturn, 1) := by decide +kernel
set_option maxRecDepth 20000 in
theorem ggX6_kind_X6_isWheel : GoodIn wsX6_kind wsX6_isWheel := goodIn_r _ [7, 2, 8, 9, 6, 10, 39, 40, 41, 42, 43, 44, 45, 46, 47, 48, 49, 50, 51, 52, 53, 54, 55, 56, 57, 58, 59, 60, 61, 62, 63, 64] (by decide +kernel) (by decide +kernel)
set_option maxRecDepth 20000 in
theorem gX6_kind_X6_isWheel : GoodIn wsX6_kind (wsV RX6 165 RX6 yX6_isWheel wsX6_isWheel) := goodIn_app (goodIn_of _ (by decide +kernel)) ggX6_kind_X6_isWheel
set_option maxRecDepth 20000 in
theorem ggX6_kind_X6_in : GoodIn wsX6_kind wsX6_in := goodIn_r _ [10] (by decide +kernel) (by decide +kernel)
set_option maxRecDepth 20000 in
theorem gX6_kind_X6_in : GoodIn wsX6_kind (va_wsS RX6 50 yX6_in wsX6_in) := goodIn_app (goodIn_of _ (by decide +kernel)) ggX6_kind_X6_in
set_option maxRecDepth 20000 in
theorem ggX6_kind_X6_copies : GoodIn wsX6_kind wsX6_copies := goodIn_r _ [14, 2, 39, 40, 41, 42, 43, 44, 45, 46, 47, 48, 49, 50, 51, 52, 53, 54, 55, 56, 57, 58, 59, 60, 61, 62, 63, 64] (by decide +kernel) (by decide +kernel)
set_option maxRecDepth 20000 in
theorem gX6_kind_X6_copies : GoodIn wsX6_kind (wsV RX6 203 RX6 yX6_copies wsX6_copies) := goodIn_app (goodIn_of _ (by decide +kernel)) ggX6_kind_X6_copies
set_option maxRecDepth 20000 in
theorem ggX6_kind_X6_errorOn : GoodIn wsX6_kind wsX6_errorOn := goodIn_r _ [18, 2, 19, 20, 21, 6, 22, 23, 24, 25, 26, 27, 28, 29, 30, 31, 32, 33, 34, 35, 36, 37, 38, 39, 40, 41, 42, 43, 44, 45, 46, 47, 48, 49, 50, 51, 52, 53, 54, 55, 56, 57, 58, 59, 60, 61, 62, 63, 64] (by decide +kernel) (by decide +kernel)
set_option maxRecDepth 20000 in
theorem gX6_kind_X6_errorOn : GoodIn wsX6_kind (wsV RX6 172 RX6 yX6_errorOn wsX6_errorOn) := goodIn_app (goodIn_of _ (by decide +kernel)) ggX6_kind_X6_errorOn
theorem dX6_kind_0 : decode cX6_kind 0 = .ok (.aload_n 0, 1) := by decide +kernel
theorem dX6_kind_1 : decode cX6_kind 1 = .ok (.iload_n 1, 1) := by decide +kernel
theorem dX6_kind_2 : decode cX6_kind 2 = .ok (.invokevirtual 165, 3) := by decide +kernel
theorem dX6_kind_5 : decode cX6_kind 5 = .ok (.ifCond .eq 13, 3) := by decide +kernel
theorem dX6_kind_8 : decode cX6_kind 8 = .ok (.iload_n 2, 1) := by decide +kernel
theorem dX6_kind_9 : decode cX6_kind 9 = .ok (.i2l, 1) := by decide +kernel
theorem dX6_kind_10 : decode cX6_kind 10 = .ok (.lconst 0, 1) := by decide +kernel
theorem dX6_kind_11 : decode cX6_kind 11 = .ok (.lconst 1, 1) := by decide +kernel
theorem dX6_kind_12 : decode cX6_kind 12 = .ok (.invokestatic 50, 3) := by decide +kernel
theorem dX6_kind_15 : decode cX6_kind 15 = .ok (.ifCond .ne 5, 3) := by decide +kernel
theorem dX6_kind_18 : decode cX6_kind 18 = .ok (.iconst (-1), 1) := by decide +kernel
theorem dX6_kind_19 : decode cX6_kind 19 = .ok (.ireturn, 1) := by decide +kernel
theorem dX6_kind_20 : decode cX6_kind 20 = .ok (.ldc 215, 2) := by decide +kernel
theorem dX6_kind_22 : decode cX6_kind 22 = .ok (.istore_n 3, 1) := by decide +kernel
theorem dX6_kind_23 : decode cX6_kind 23 = .ok (.iconst 0, 1) := by decide +kernel
theorem dX6_kind_24 : decode cX6_kind 24 = .ok (.istore 4, 2) := by decide +kernel
theorem dX6_kind_26 : decode cX6_kind 26 = .ok (.aload_n 0, 1) := by decide +kernel
theorem dX6_kind_27 : decode cX6_kind 27 = .ok (.iconst 0, 1) := by decide +kernel
theorem dX6_kind_28 : decode cX6_kind 28 = .ok (.sipush 185, 3) := by decide +kernel
theorem dX6_kind_31 : decode cX6_kind 31 = .ok (.invokevirtual 203, 3) := by decide +kernel
theorem dX6_kind_34 : decode cX6_kind 34 = .ok (.iconst 0, 1) := by decide +kernel
theorem dX6_kind_35 : decode cX6_kind 35 = .ok (.istore 5, 2) := by decide +kernel
theorem dX6_kind_37 : decode cX6_kind 37 = .ok (.iload 5, 2) := by decide +kernel
theorem dX6_kind_39 : decode cX6_kind 39 = .ok (.iconst 4, 1) := by decide +kernel
theorem dX6_kind_40 : decode cX6_kind 40 = .ok (.if_icmp .ge 59, 3) := by decide +kernel
theorem dX6_kind_43 : decode cX6_kind 43 = .ok (.aload_n 0, 1) := by decide +kernel
theorem dX6_kind_44 : decode cX6_kind 44 = .ok (.getfield 7, 3) := by decide +kernel
theorem dX6_kind_47 : decode cX6_kind 47 = .ok (.sipush 208, 3) := by decide +kernel
theorem dX6_kind_50 : decode cX6_kind 50 = .ok (.iload_n 1, 1) := by decide +kernel
theorem dX6_kind_51 : decode cX6_kind 51 = .ok (.iadd, 1) := by decide +kernel
theorem dX6_kind_52 : decode cX6_kind 52 = .ok (.iload 5, 2) := by decide +kernel
theorem dX6_kind_54 : decode cX6_kind 54 = .ok (.iastore, 1) := by decide +kernel
theorem dX6_kind_55 : decode cX6_kind 55 = .ok (.aload_n 0, 1) := by decide +kernel
theorem dX6_kind_56 : decode cX6_kind 56 = .ok (.sipush 185, 3) := by decide +kernel
theorem dX6_kind_59 : decode cX6_kind 59 = .ok (.iload_n 1, 1) := by decide +kernel
theorem dX6_kind_60 : decode cX6_kind 60 = .ok (.invokevirtual 172, 3) := by decide +kernel
theorem dX6_kind_63 : decode cX6_kind 63 = .ok (.istore 6, 2) := by decide +kernel
theorem dX6_kind_65 : decode cX6_kind 65 = .ok (.iload 6, 2) := by decide +kernel
theorem dX6_kind_67 : decode cX6_kind 67 = .ok (.iload_n 3, 1) := by decide +kernel
theorem dX6_kind_68 : decode cX6_kind 68 = .ok (.if_icmp .ge 8, 3) := by decide +kernel
theorem dX6_kind_71 : decode cX6_kind 71 = .ok (.iload 5, 2) := by decide +kernel
theorem dX6_kind_73 : decode cX6_kind 73 = .ok (.goto 5, 3) := by decide +kernel
theorem dX6_kind_76 : decode cX6_kind 76 = .ok (.iload 4, 2) := by decide +kernel
theorem dX6_kind_78 : decode cX6_kind 78 = .ok (.istore 4, 2) := by decide +kernel
theorem dX6_kind_80 : decode cX6_kind 80 = .ok (.iload 6, 2) := by decide +kernel
theorem dX6_kind_82 : decode cX6_kind 82 = .ok (.iload_n 3, 1) := by decide +kernel
theorem dX6_kind_83 : decode cX6_kind 83 = .ok (.if_icmp .ge 8, 3) := by decide +kernel
theorem dX6_kind_86 : decode cX6_kind 86 = .ok (.iload 6, 2) := by decide +kernel
theorem dX6_kind_88 : decode cX6_kind 88 = .ok (.goto 4, 3) := by decide +kernel
theorem dX6_kind_91 : decode cX6_kind 91 = .ok (.iload_n 3, 1) := by decide +kernel
theorem dX6_kind_92 : decode cX6_kind 92 = .ok (.istore_n 3, 1) := by decide +kernel
theorem dX6_kind_93 : decode cX6_kind 93 = .ok (.iinc 5 1, 3) := by decide +kernel
theorem dX6_kind_96 : decode cX6_kind 96 = .ok (.goto (-59), 3) := by decide +kernel
theorem dX6_kind_99 : decode cX6_kind 99 = .ok (.iload_n 2, 1) := by decide +kernel
theorem dX6_kind_100 : decode cX6_kind 100 = .ok (.ifCond .ne 8, 3) := by decide +kernel
theorem dX6_kind_103 : decode cX6_kind 103 = .ok (.iload 4, 2) := by decide +kernel
theorem dX6_kind_105 : decode cX6_kind 105 = .ok (.goto 4, 3) := by decide +kernel
theorem dX6_kind_108 : decode cX6_kind 108 = .ok (.iload_n 3, 1) := by decide +kernel
theorem dX6_kind_109 : decode cX6_kind 109 = .ok (.ireturn, 1) := by decide +kernel
set_option maxRecDepth 20000 in
theorem ggX6_place_X6_isCorner : GoodIn wsX6_place wsX6_isCorner := goodIn_r _ [6, 1, 7, 8, 5, 9, 30, 31, 32, 33, 34, 35, 36, 37, 38, 39, 40, 41, 42, 43, 44, 45, 46, 47, 48, 49, 50, 51, 52, 53, 54, 55] (by decide +kernel) (by decide +kernel)
set_option maxRecDepth 20000 in
theorem gX6_place_X6_isCorner : GoodIn wsX6_place (wsV RX6 159 RX6 yX6_isCorner wsX6_isCorner) := goodIn_app (goodIn_of _ (by decide +kernel)) ggX6_place_X6_isCorner
set_option maxRecDepth 20000 in
theorem ggX6_place_X6_in : GoodIn wsX6_place wsX6_in := goodIn_r _ [9] (by decide +kernel) (by decide +kernel)
set_option maxRecDepth 20000 in
theorem gX6_place_X6_in : GoodIn wsX6_place (va_wsS RX6 50 yX6_in wsX6_in) := goodIn_app (goodIn_of _ (by decide +kernel)) ggX6_place_X6_in
set_option maxRecDepth 20000 in
theorem ggX6_place_X6_copies : GoodIn wsX6_place wsX6_copies := goodIn_r _ [13, 1, 30, 31, 32, 33, 34, 35, 36, 37, 38, 39, 40, 41, 42, 43, 44, 45, 46, 47, 48, 49, 50, 51, 52, 53, 54, 55] (by decide +kernel) (by decide +kernel)
set_option maxRecDepth 20000 in
theorem gX6_place_X6_copies : GoodIn wsX6_place (wsV RX6 203 RX6 yX6_copies wsX6_copies) := goodIn_app (goodIn_of _ (by decide +kernel)) ggX6_place_X6_copies
set_option maxRecDepth 20000 in
theorem ggX6_place_X6_areaOn : GoodIn wsX6_place wsX6_areaOn := goodIn_r _ [17, 1, 18, 19, 20, 21, 5, 22, 23, 24, 25, 26, 30, 31, 32, 33, 34, 35, 36, 37, 38, 39, 40, 41, 42, 43, 44, 45, 46, 47, 48, 49, 50, 51, 52, 53, 54, 55] (by decide +kernel) (by decide +kernel)
set_option maxRecDepth 20000 in
theorem gX6_place_X6_areaOn : GoodIn wsX6_place (wsV RX6 141 RX6 yX6_areaOn wsX6_areaOn) := goodIn_app (goodIn_of _ (by decide +kernel)) ggX6_place_X6_areaOn
set_option maxRecDepth 20000 in
theorem ggX6_place_X6_amount : GoodIn wsX6_place wsX6_amount := goodIn_r _ [29] (by decide +kernel) (by decide +kernel)
set_option maxRecDepth 20000 in
theorem gX6_place_X6_amount : GoodIn wsX6_place (va_wsS RX6 135 yX6_amount wsX6_amount) := goodIn_app (goodIn_of _ (by decide +kernel)) ggX6_place_X6_amount
theorem dX6_place_0 : decode cX6_place 0 = .ok (.aload_n 0, 1) := by decide +kernel
theorem dX6_place_1 : decode cX6_place 1 = .ok (.iload_n 1, 1) := by decide +kernel
theorem dX6_place_2 : decode cX6_place 2 = .ok (.invokevirtual 159, 3) := by decide +kernel
theorem dX6_place_5 : decode cX6_place 5 = .ok (.ifCond .eq 13, 3) := by decide +kernel
theorem dX6_place_8 : decode cX6_place 8 = .ok (.iload_n 2, 1) := by decide +kernel
theorem dX6_place_9 : decode cX6_place 9 = .ok (.i2l, 1) := by decide +kernel
theorem dX6_place_10 : decode cX6_place 10 = .ok (.lconst 0, 1) := by decide +kernel
theorem dX6_place_11 : decode cX6_place 11 = .ok (.lconst 1, 1) := by decide +kernel
theorem dX6_place_12 : decode cX6_place 12 = .ok (.invokestatic 50, 3) := by decide +kernel
theorem dX6_place_15 : decode cX6_place 15 = .ok (.ifCond .ne 5, 3) := by decide +kernel
theorem dX6_place_18 : decode cX6_place 18 = .ok (.iconst (-1), 1) := by decide +kernel
theorem dX6_place_19 : decode cX6_place 19 = .ok (.ireturn, 1) := by decide +kernel
theorem dX6_place_20 : decode cX6_place 20 = .ok (.iconst (-1), 1) := by decide +kernel
theorem dX6_place_21 : decode cX6_place 21 = .ok (.istore_n 3, 1) := by decide +kernel
theorem dX6_place_22 : decode cX6_place 22 = .ok (.iconst 0, 1) := by decide +kernel
theorem dX6_place_23 : decode cX6_place 23 = .ok (.istore 4, 2) := by decide +kernel
theorem dX6_place_25 : decode cX6_place 25 = .ok (.aload_n 0, 1) := by decide +kernel
theorem dX6_place_26 : decode cX6_place 26 = .ok (.iconst 0, 1) := by decide +kernel
theorem dX6_place_27 : decode cX6_place 27 = .ok (.sipush 185, 3) := by decide +kernel
theorem dX6_place_30 : decode cX6_place 30 = .ok (.invokevirtual 203, 3) := by decide +kernel
theorem dX6_place_33 : decode cX6_place 33 = .ok (.iconst 0, 1) := by decide +kernel
theorem dX6_place_34 : decode cX6_place 34 = .ok (.istore 5, 2) := by decide +kernel
theorem dX6_place_36 : decode cX6_place 36 = .ok (.iload 5, 2) := by decide +kernel
theorem dX6_place_38 : decode cX6_place 38 = .ok (.bipush 20, 2) := by decide +kernel
theorem dX6_place_40 : decode cX6_place 40 = .ok (.if_icmp .gt 95, 3) := by decide +kernel
theorem dX6_place_43 : decode cX6_place 43 = .ok (.iconst 0, 1) := by decide +kernel
theorem dX6_place_44 : decode cX6_place 44 = .ok (.istore 6, 2) := by decide +kernel
theorem dX6_place_46 : decode cX6_place 46 = .ok (.iload 6, 2) := by decide +kernel
theorem dX6_place_48 : decode cX6_place 48 = .ok (.bipush 20, 2) := by decide +kernel
theorem dX6_place_50 : decode cX6_place 50 = .ok (.if_icmp .gt 79, 3) := by decide +kernel
theorem dX6_place_53 : decode cX6_place 53 = .ok (.aload_n 0, 1) := by decide +kernel
theorem dX6_place_54 : decode cX6_place 54 = .ok (.getfield 7, 3) := by decide +kernel
theorem dX6_place_57 : decode cX6_place 57 = .ok (.sipush 185, 3) := by decide +kernel
theorem dX6_place_60 : decode cX6_place 60 = .ok (.iload_n 1, 1) := by decide +kernel
theorem dX6_place_61 : decode cX6_place 61 = .ok (.iadd, 1) := by decide +kernel
theorem dX6_place_62 : decode cX6_place 62 = .ok (.iload 5, 2) := by decide +kernel
theorem dX6_place_64 : decode cX6_place 64 = .ok (.iastore, 1) := by decide +kernel
theorem dX6_place_65 : decode cX6_place 65 = .ok (.aload_n 0, 1) := by decide +kernel
theorem dX6_place_66 : decode cX6_place 66 = .ok (.getfield 7, 3) := by decide +kernel
theorem dX6_place_69 : decode cX6_place 69 = .ok (.sipush 195, 3) := by decide +kernel
theorem dX6_place_72 : decode cX6_place 72 = .ok (.iload_n 1, 1) := by decide +kernel
theorem dX6_place_73 : decode cX6_place 73 = .ok (.iadd, 1) := by decide +kernel
theorem dX6_place_74 : decode cX6_place 74 = .ok (.iload 6, 2) := by decide +kernel
theorem dX6_place_76 : decode cX6_place 76 = .ok (.iastore, 1) := by decide +kernel
theorem dX6_place_77 : decode cX6_place 77 = .ok (.aload_n 0, 1) := by decide +kernel
theorem dX6_place_78 : decode cX6_place 78 = .ok (.sipush 185, 3) := by decide +kernel
theorem dX6_place_81 : decode cX6_place 81 = .ok (.invokevirtual 141, 3) := by decide +kernel
theorem dX6_place_84 : decode cX6_place 84 = .ok (.invokestatic 135, 3) := by decide +kernel
theorem dX6_place_87 : decode cX6_place 87 = .ok (.istore 7, 2) := by decide +kernel
theorem dX6_place_89 : decode cX6_place 89 = .ok (.iload 7, 2) := by decide +kernel
theorem dX6_place_91 : decode cX6_place 91 = .ok (.iload_n 3, 1) := by decide +kernel
theorem dX6_place_92 : decode cX6_place 92 = .ok (.if_icmp .le 14, 3) := by decide +kernel
theorem dX6_place_95 : decode cX6_place 95 = .ok (.bipush 100, 2) := by decide +kernel
theorem dX6_place_97 : decode cX6_place 97 = .ok (.iload 5, 2) := by decide +kernel
theorem dX6_place_99 : decode cX6_place 99 = .ok (.imul, 1) := by decide +kernel
theorem dX6_place_100 : decode cX6_place 100 = .ok (.iload 6, 2) := by decide +kernel
theorem dX6_place_102 : decode cX6_place 102 = .ok (.iadd, 1) := by decide +kernel
theorem dX6_place_103 : decode cX6_place 103 = .ok (.goto 5, 3) := by decide +kernel
theorem dX6_place_106 : decode cX6_place 106 = .ok (.iload 4, 2) := by decide +kernel
theorem dX6_place_108 : decode cX6_place 108 = .ok (.istore 4, 2) := by decide +kernel
theorem dX6_place_110 : decode cX6_place 110 = .ok (.iload 7, 2) := by decide +kernel
theorem dX6_place_112 : decode cX6_place 112 = .ok (.iload_n 3, 1) := by decide +kernel
theorem dX6_place_113 : decode cX6_place 113 = .ok (.if_icmp .le 8, 3) := by decide +kernel
theorem dX6_place_116 : decode cX6_place 116 = .ok (.iload 7, 2) := by decide +kernel
theorem dX6_place_118 : decode cX6_place 118 = .ok (.goto 4, 3) := by decide +kernel
theorem dX6_place_121 : decode cX6_place 121 = .ok (.iload_n 3, 1) := by decide +kernel
theorem dX6_place_122 : decode cX6_place 122 = .ok (.istore_n 3, 1) := by decide +kernel
theorem dX6_place_123 : decode cX6_place 123 = .ok (.iinc 6 1, 3) := by decide +kernel
theorem dX6_place_126 : decode cX6_place 126 = .ok (.goto (-80), 3) := by decide +kernel
theorem dX6_place_129 : decode cX6_place 129 = .ok (.iinc 5 1, 3) := by decide +kernel
theorem dX6_place_132 : decode cX6_place 132 = .ok (.goto (-96), 3) := by decide +kernel
theorem dX6_place_135 : decode cX6_place 135 = .ok (.iload_n 2, 1) := by decide +kernel
theorem dX6_place_136 : decode cX6_place 136 = .ok (.ifCond .ne 8, 3) := by decide +kernel
theorem dX6_place_139 : decode cX6_place 139 = .ok (.iload 4, 2) := by decide +kernel
theorem dX6_place_141 : decode cX6_place 141 = .ok (.goto 4, 3) := by decide +kernel
theorem dX6_place_144 : decode cX6_place 144 = .ok (.iload_n 3, 1) := by decide +kernel
theorem dX6_place_145 : decode cX6_place 145 = .ok (.ireturn, 1) := by decide +kernel
set_option maxRecDepth 20000 in
theorem ggX6_swap_X6_in : GoodIn wsX6_swap wsX6_in := goodIn_r _ [5] (by decide +kernel) (by decide +kernel)
set_option maxRecDepth 20000 in
theorem gX6_swap_X6_in : GoodIn wsX6_swap (va_wsS RX6 50 yX6_in wsX6_in) := goodIn_app (goodIn_of _ (by decide +kernel)) ggX6_swap_X6_in
set_option maxRecDepth 20000 in
theorem ggX6_swap_X6_areaOn : GoodIn wsX6_swap wsX6_areaOn := goodIn_r _ [9, 1, 10, 11, 12, 13, 4, 14, 15, 16, 17, 18, 26, 27, 28, 29, 30, 31, 32, 33, 34, 35, 36, 37, 38, 39, 40, 41, 42, 43, 44, 45, 46, 47, 48, 49, 50, 51] (by decide +kernel) (by decide +kernel)
set_option maxRecDepth 20000 in
theorem gX6_swap_X6_areaOn : GoodIn wsX6_swap (wsV RX6 141 RX6 yX6_areaOn wsX6_areaOn) := goodIn_app (goodIn_of _ (by decide +kernel)) ggX6_swap_X6_areaOn
set_option maxRecDepth 20000 in
theorem ggX6_swap_X6_amount : GoodIn wsX6_swap wsX6_amount := goodIn_r _ [21] (by decide +kernel) (by decide +kernel)
set_option maxRecDepth 20000 in
theorem gX6_swap_X6_amount : GoodIn wsX6_swap (va_wsS RX6 135 yX6_amount wsX6_amount) := goodIn_app (goodIn_of _ (by decide +kernel)) ggX6_swap_X6_amount
set_option maxRecDepth 20000 in
theorem ggX6_swap_X6_copies : GoodIn wsX6_swap wsX6_copies := goodIn_r _ [25, 1, 26, 27, 28, 29, 30, 31, 32, 33, 34, 35, 36, 37, 38, 39, 40, 41, 42, 43, 44, 45, 46, 47, 48, 49, 50, 51] (by decide +kernel) (by decide +kernel)
set_option maxRecDepth 20000 in
theorem gX6_swap_X6_copies : GoodIn wsX6_swap (wsV RX6 203 RX6 yX6_copies wsX6_copies) := goodIn_app (goodIn_of _ (by decide +kernel)) ggX6_swap_X6_copies
theorem dX6_swap_0 : decode cX6_swap 0 = .ok (.iload_n 1, 1) := by decide +kernel
theorem dX6_swap_1 : decode cX6_swap 1 = .ok (.i2l, 1) := by decide +kernel
theorem dX6_swap_2 : decode cX6_swap 2 = .ok (.lconst 0, 1) := by decide +kernel
theorem dX6_swap_3 : decode cX6_swap 3 = .ok (.lconst 1, 1) := by decide +kernel
theorem dX6_swap_4 : decode cX6_swap 4 = .ok (.invokestatic 50, 3) := by decide +kernel
theorem dX6_swap_7 : decode cX6_swap 7 = .ok (.ifCond .ne 5, 3) := by decide +kernel
theorem dX6_swap_10 : decode cX6_swap 10 = .ok (.iconst (-1), 1) := by decide +kernel
theorem dX6_swap_11 : decode cX6_swap 11 = .ok (.ireturn, 1) := by decide +kernel
theorem dX6_swap_12 : decode cX6_swap 12 = .ok (.aload_n 0, 1) := by decide +kernel
theorem dX6_swap_13 : decode cX6_swap 13 = .ok (.iconst 0, 1) := by decide +kernel
theorem dX6_swap_14 : decode cX6_swap 14 = .ok (.invokevirtual 141, 3) := by decide +kernel
theorem dX6_swap_17 : decode cX6_swap 17 = .ok (.invokestatic 135, 3) := by decide +kernel
theorem dX6_swap_20 : decode cX6_swap 20 = .ok (.istore_n 2, 1) := by decide +kernel
theorem dX6_swap_21 : decode cX6_swap 21 = .ok (.bipush (-4), 2) := by decide +kernel
theorem dX6_swap_23 : decode cX6_swap 23 = .ok (.istore_n 3, 1) := by decide +kernel
theorem dX6_swap_24 : decode cX6_swap 24 = .ok (.iconst 0, 1) := by decide +kernel
theorem dX6_swap_25 : decode cX6_swap 25 = .ok (.istore 4, 2) := by decide +kernel
theorem dX6_swap_27 : decode cX6_swap 27 = .ok (.iload 4, 2) := by decide +kernel
theorem dX6_swap_29 : decode cX6_swap 29 = .ok (.aload_n 0, 1) := by decide +kernel
theorem dX6_swap_30 : decode cX6_swap 30 = .ok (.getfield 7, 3) := by decide +kernel
theorem dX6_swap_33 : decode cX6_swap 33 = .ok (.bipush 20, 2) := by decide +kernel
theorem dX6_swap_35 : decode cX6_swap 35 = .ok (.iaload, 1) := by decide +kernel
theorem dX6_swap_36 : decode cX6_swap 36 = .ok (.if_icmp .ge 163, 3) := by decide +kernel
theorem dX6_swap_39 : decode cX6_swap 39 = .ok (.iload 4, 2) := by decide +kernel
theorem dX6_swap_41 : decode cX6_swap 41 = .ok (.iconst 1, 1) := by decide +kernel
theorem dX6_swap_42 : decode cX6_swap 42 = .ok (.iadd, 1) := by decide +kernel
theorem dX6_swap_43 : decode cX6_swap 43 = .ok (.istore 5, 2) := by decide +kernel
theorem dX6_swap_45 : decode cX6_swap 45 = .ok (.iload 5, 2) := by decide +kernel
theorem dX6_swap_47 : decode cX6_swap 47 = .ok (.aload_n 0, 1) := by decide +kernel
theorem dX6_swap_48 : decode cX6_swap 48 = .ok (.getfield 7, 3) := by decide +kernel
theorem dX6_swap_51 : decode cX6_swap 51 = .ok (.bipush 20, 2) := by decide +kernel
theorem dX6_swap_53 : decode cX6_swap 53 = .ok (.iaload, 1) := by decide +kernel
theorem dX6_swap_54 : decode cX6_swap 54 = .ok (.if_icmp .ge 139, 3) := by decide +kernel
theorem dX6_swap_57 : decode cX6_swap 57 = .ok (.aload_n 0, 1) := by decide +kernel
theorem dX6_swap_58 : decode cX6_swap 58 = .ok (.iconst 0, 1) := by decide +kernel
theorem dX6_swap_59 : decode cX6_swap 59 = .ok (.sipush 185, 3) := by decide +kernel
theorem dX6_swap_62 : decode cX6_swap 62 = .ok (.invokevirtual 203, 3) := by decide +kernel
theorem dX6_swap_65 : decode cX6_swap 65 = .ok (.aload_n 0, 1) := by decide +kernel
theorem dX6_swap_66 : decode cX6_swap 66 = .ok (.getfield 7, 3) := by decide +kernel
theorem dX6_swap_69 : decode cX6_swap 69 = .ok (.sipush 185, 3) := by decide +kernel
theorem dX6_swap_72 : decode cX6_swap 72 = .ok (.iload 4, 2) := by decide +kernel
theorem dX6_swap_74 : decode cX6_swap 74 = .ok (.iadd, 1) := by decide +kernel
theorem dX6_swap_75 : decode cX6_swap 75 = .ok (.aload_n 0, 1) := by decide +kernel
theorem dX6_swap_76 : decode cX6_swap 76 = .ok (.getfield 7, 3) := by decide +kernel
theorem dX6_swap_79 : decode cX6_swap 79 = .ok (.iload 5, 2) := by decide +kernel
theorem dX6_swap_81 : decode cX6_swap 81 = .ok (.iaload, 1) := by decide +kernel
theorem dX6_swap_82 : decode cX6_swap 82 = .ok (.iastore, 1) := by decide +kernel
theorem dX6_swap_83 : decode cX6_swap 83 = .ok (.aload_n 0, 1) := by decide +kernel
theorem dX6_swap_84 : decode cX6_swap 84 = .ok (.getfield 7, 3) := by decide +kernel
theorem dX6_swap_87 : decode cX6_swap 87 = .ok (.sipush 185, 3) := by decide +kernel
theorem dX6_swap_90 : decode cX6_swap 90 = .ok (.iload 5, 2) := by decide +kernel
theorem dX6_swap_92 : decode cX6_swap 92 = .ok (.iadd, 1) := by decide +kernel
theorem dX6_swap_93 : decode cX6_swap 93 = .ok (.aload_n 0, 1) := by decide +kernel
theorem dX6_swap_94 : decode cX6_swap 94 = .ok (.getfield 7, 3) := by decide +kernel
theorem dX6_swap_97 : decode cX6_swap 97 = .ok (.iload 4, 2) := by decide +kernel
theorem dX6_swap_99 : decode cX6_swap 99 = .ok (.iaload, 1) := by decide +kernel
theorem dX6_swap_100 : decode cX6_swap 100 = .ok (.iastore, 1) := by decide +kernel
theorem dX6_swap_101 : decode cX6_swap 101 = .ok (.aload_n 0, 1) := by decide +kernel
theorem dX6_swap_102 : decode cX6_swap 102 = .ok (.getfield 7, 3) := by decide +kernel
theorem dX6_swap_105 : decode cX6_swap 105 = .ok (.sipush 195, 3) := by decide +kernel
theorem dX6_swap_108 : decode cX6_swap 108 = .ok (.iload 4, 2) := by decide +kernel
theorem dX6_swap_110 : decode cX6_swap 110 = .ok (.iadd, 1) := by decide +kernel
theorem dX6_swap_111 : decode cX6_swap 111 = .ok (.aload_n 0, 1) := by decide +kernel
theorem dX6_swap_112 : decode cX6_swap 112 = .ok (.getfield 7, 3) := by decide +kernel
theorem dX6_swap_115 : decode cX6_swap 115 = .ok (.bipush 10, 2) := by decide +kernel
theorem dX6_swap_117 : decode cX6_swap 117 = .ok (.iload 5, 2) := by decide +kernel
theorem dX6_swap_119 : decode cX6_swap 119 = .ok (.iadd, 1) := by decide +kernel
theorem dX6_swap_120 : decode cX6_swap 120 = .ok (.iaload, 1) := by decide +kernel
theorem dX6_swap_121 : decode cX6_swap 121 = .ok (.iastore, 1) := by decide +kernel
theorem dX6_swap_122 : decode cX6_swap 122 = .ok (.aload_n 0, 1) := by decide +kernel
theorem dX6_swap_123 : decode cX6_swap 123 = .ok (.getfield 7, 3) := by decide +kernel
theorem dX6_swap_126 : decode cX6_swap 126 = .ok (.sipush 195, 3) := by decide +kernel
theorem dX6_swap_129 : decode cX6_swap 129 = .ok (.iload 5, 2) := by decide +kernel
theorem dX6_swap_131 : decode cX6_swap 131 = .ok (.iadd, 1) := by decide +kernel
theorem dX6_swap_132 : decode cX6_swap 132 = .ok (.aload_n 0, 1) := by decide +kernel
theorem dX6_swap_133 : decode cX6_swap 133 = .ok (.getfield 7, 3) := by decide +kernel
theorem dX6_swap_136 : decode cX6_swap 136 = .ok (.bipush 10, 2) := by decide +kernel
theorem dX6_swap_138 : decode cX6_swap 138 = .ok (.iload 4, 2) := by decide +kernel
theorem dX6_swap_140 : decode cX6_swap 140 = .ok (.iadd, 1) := by decide +kernel
theorem dX6_swap_141 : decode cX6_swap 141 = .ok (.iaload, 1) := by decide +kernel
theorem dX6_swap_142 : decode cX6_swap 142 = .ok (.iastore, 1) := by decide +kernel
theorem dX6_swap_143 : decode cX6_swap 143 = .ok (.aload_n 0, 1) := by decide +kernel
theorem dX6_swap_144 : decode cX6_swap 144 = .ok (.sipush 185, 3) := by decide +kernel
theorem dX6_swap_147 : decode cX6_swap 147 = .ok (.invokevirtual 141, 3) := by decide +kernel
theorem dX6_swap_150 : decode cX6_swap 150 = .ok (.invokestatic 135, 3) := by decide +kernel
theorem dX6_swap_153 : decode cX6_swap 153 = .ok (.istore 6, 2) := by decide +kernel
theorem dX6_swap_155 : decode cX6_swap 155 = .ok (.iload 6, 2) := by decide +kernel
theorem dX6_swap_157 : decode cX6_swap 157 = .ok (.iload_n 2, 1) := by decide +kernel
theorem dX6_swap_158 : decode cX6_swap 158 = .ok (.if_icmp .le 14, 3) := by decide +kernel
theorem dX6_swap_161 : decode cX6_swap 161 = .ok (.bipush 10, 2) := by decide +kernel
theorem dX6_swap_163 : decode cX6_swap 163 = .ok (.iload 4, 2) := by decide +kernel
theorem dX6_swap_165 : decode cX6_swap 165 = .ok (.imul, 1) := by decide +kernel
theorem dX6_swap_166 : decode cX6_swap 166 = .ok (.iload 5, 2) := by decide +kernel
theorem dX6_swap_168 : decode cX6_swap 168 = .ok (.iadd, 1) := by decide +kernel
theorem dX6_swap_169 : decode cX6_swap 169 = .ok (.goto 4, 3) := by decide +kernel
theorem dX6_swap_172 : decode cX6_swap 172 = .ok (.iload_n 3, 1) := by decide +kernel
theorem dX6_swap_173 : decode cX6_swap 173 = .ok (.istore_n 3, 1) := by decide +kernel
theorem dX6_swap_174 : decode cX6_swap 174 = .ok (.iload 6, 2) := by decide +kernel
theorem dX6_swap_176 : decode cX6_swap 176 = .ok (.iload_n 2, 1) := by decide +kernel
theorem dX6_swap_177 : decode cX6_swap 177 = .ok (.if_icmp .le 8, 3) := by decide +kernel
theorem dX6_swap_180 : decode cX6_swap 180 = .ok (.iload 6, 2) := by decide +kernel
theorem dX6_swap_182 : decode cX6_swap 182 = .ok (.goto 4, 3) := by decide +kernel
theorem dX6_swap_185 : decode cX6_swap 185 = .ok (.iload_n 2, 1) := by decide +kernel
theorem dX6_swap_186 : decode cX6_swap 186 = .ok (.istore_n 2, 1) := by decide +kernel
theorem dX6_swap_187 : decode cX6_swap 187 = .ok (.iinc 5 1, 3) := by decide +kernel
theorem dX6_swap_190 : decode cX6_swap 190 = .ok (.goto (-145), 3) := by decide +kernel
theorem dX6_swap_193 : decode cX6_swap 193 = .ok (.iinc 4 1, 3) := by decide +kernel
theorem dX6_swap_196 : decode cX6_swap 196 = .ok (.goto (-169), 3) := by decide +kernel
theorem dX6_swap_199 : decode cX6_swap 199 = .ok (.iload_n 3, 1) := by decide +kernel
theorem dX6_swap_200 : decode cX6_swap 200 = .ok (.bipush (-4), 2) := by decide +kernel
theorem dX6_swap_202 : decode cX6_swap 202 = .ok (.if_icmp .eq 7, 3) := by decide +kernel
theorem dX6_swap_205 : decode cX6_swap 205 = .ok (.iload_n 1, 1) := by decide +kernel
theorem dX6_swap_206 : decode cX6_swap 206 = .ok (.ifCond .ne 7, 3) := by decide +kernel
theorem dX6_swap_209 : decode cX6_swap 209 = .ok (.iload_n 3, 1) := by decide +kernel
theorem dX6_swap_210 : decode cX6_swap 210 = .ok (.goto 4, 3) := by decide +kernel
theorem dX6_swap_213 : decode cX6_swap 213 = .ok (.iload_n 2, 1) := by decide +kernel
theorem dX6_swap_214 : decode cX6_swap 214 = .ok (.ireturn, 1) := by decide +kernel
set_option maxRecDepth 20000 in
theorem ggX6_out_X6_in : GoodIn wsX6_out wsX6_in := goodIn_r _ [6] (by decide +kernel) (by decide +kernel)
set_option maxRecDepth 20000 in
theorem gX6_out_X6_in : GoodIn wsX6_out (va_wsS RX6 50 yX6_in wsX6_in) := goodIn_app (goodIn_of _ (by decide +kernel)) ggX6_out_X6_in
set_option maxRecDepth 20000 in
theorem ggX6_out_X6_areaOn : GoodIn wsX6_out wsX6_areaOn := goodIn_r _ [10, 1, 2, 11, 12, 13, 5, 14, 15, 16, 17, 18, 22, 23, 24, 25, 26, 27, 28, 29, 30, 31, 32, 33, 34, 35, 36, 37, 38, 39, 40, 41, 42, 43, 44, 45, 46, 47] (by decide +kernel) (by decide +kernel)
set_option maxRecDepth 20000 in
theorem gX6_out_X6_areaOn : GoodIn wsX6_out (wsV RX6 141 RX6 yX6_areaOn wsX6_areaOn) := goodIn_app (goodIn_of _ (by decide +kernel)) ggX6_out_X6_areaOn
set_option maxRecDepth 20000 in
theorem ggX6_out_X6_amount : GoodIn wsX6_out wsX6_amount := goodIn_r _ [21] (by decide +kernel) (by decide +kernel)
set_option maxRecDepth 20000 in
theorem gX6_out_X6_amount : GoodIn wsX6_out (va_wsS RX6 135 yX6_amount wsX6_amount) := goodIn_app (goodIn_of _ (by decide +kernel)) ggX6_out_X6_amount
theorem dX6_out_0 : decode cX6_out 0 = .ok (.iload_n 1, 1) := by decide +kernel
theorem dX6_out_1 : decode cX6_out 1 = .ok (.i2l, 1) := by decide +kernel
theorem dX6_out_2 : decode cX6_out 2 = .ok (.lconst 0, 1) := by decide +kernel
theorem dX6_out_3 : decode cX6_out 3 = .ok (.lconst 1, 1) := by decide +kernel
theorem dX6_out_4 : decode cX6_out 4 = .ok (.invokestatic 50, 3) := by decide +kernel
theorem dX6_out_7 : decode cX6_out 7 = .ok (.ifCond .ne 5, 3) := by decide +kernel
theorem dX6_out_10 : decode cX6_out 10 = .ok (.iconst (-1), 1) := by decide +kernel
theorem dX6_out_11 : decode cX6_out 11 = .ok (.ireturn, 1) := by decide +kernel
theorem dX6_out_12 : decode cX6_out 12 = .ok (.aload_n 0, 1) := by decide +kernel
theorem dX6_out_13 : decode cX6_out 13 = .ok (.iconst 0, 1) := by decide +kernel
theorem dX6_out_14 : decode cX6_out 14 = .ok (.invokevirtual 141, 3) := by decide +kernel
theorem dX6_out_17 : decode cX6_out 17 = .ok (.invokestatic 135, 3) := by decide +kernel
theorem dX6_out_20 : decode cX6_out 20 = .ok (.istore_n 2, 1) := by decide +kernel
theorem dX6_out_21 : decode cX6_out 21 = .ok (.bipush (-4), 2) := by decide +kernel
theorem dX6_out_23 : decode cX6_out 23 = .ok (.istore_n 3, 1) := by decide +kernel
theorem dX6_out_24 : decode cX6_out 24 = .ok (.iconst 0, 1) := by decide +kernel
theorem dX6_out_25 : decode cX6_out 25 = .ok (.istore 4, 2) := by decide +kernel
theorem dX6_out_27 : decode cX6_out 27 = .ok (.iload 4, 2) := by decide +kernel
theorem dX6_out_29 : decode cX6_out 29 = .ok (.aload_n 0, 1) := by decide +kernel
theorem dX6_out_30 : decode cX6_out 30 = .ok (.getfield 7, 3) := by decide +kernel
theorem dX6_out_33 : decode cX6_out 33 = .ok (.bipush 20, 2) := by decide +kernel
theorem dX6_out_35 : decode cX6_out 35 = .ok (.iaload, 1) := by decide +kernel
theorem dX6_out_36 : decode cX6_out 36 = .ok (.if_icmp .ge 57, 3) := by decide +kernel
theorem dX6_out_39 : decode cX6_out 39 = .ok (.aload_n 0, 1) := by decide +kernel
theorem dX6_out_40 : decode cX6_out 40 = .ok (.iload 4, 2) := by decide +kernel
theorem dX6_out_42 : decode cX6_out 42 = .ok (.putfield 25, 3) := by decide +kernel
theorem dX6_out_45 : decode cX6_out 45 = .ok (.aload_n 0, 1) := by decide +kernel
theorem dX6_out_46 : decode cX6_out 46 = .ok (.iconst 0, 1) := by decide +kernel
theorem dX6_out_47 : decode cX6_out 47 = .ok (.invokevirtual 141, 3) := by decide +kernel
theorem dX6_out_50 : decode cX6_out 50 = .ok (.invokestatic 135, 3) := by decide +kernel
theorem dX6_out_53 : decode cX6_out 53 = .ok (.istore 5, 2) := by decide +kernel
theorem dX6_out_55 : decode cX6_out 55 = .ok (.aload_n 0, 1) := by decide +kernel
theorem dX6_out_56 : decode cX6_out 56 = .ok (.bipush (-4), 2) := by decide +kernel
theorem dX6_out_58 : decode cX6_out 58 = .ok (.putfield 25, 3) := by decide +kernel
theorem dX6_out_61 : decode cX6_out 61 = .ok (.iload 5, 2) := by decide +kernel
theorem dX6_out_63 : decode cX6_out 63 = .ok (.iload_n 2, 1) := by decide +kernel
theorem dX6_out_64 : decode cX6_out 64 = .ok (.if_icmp .le 8, 3) := by decide +kernel
theorem dX6_out_67 : decode cX6_out 67 = .ok (.iload 4, 2) := by decide +kernel
theorem dX6_out_69 : decode cX6_out 69 = .ok (.goto 4, 3) := by decide +kernel
theorem dX6_out_72 : decode cX6_out 72 = .ok (.iload_n 3, 1) := by decide +kernel
theorem dX6_out_73 : decode cX6_out 73 = .ok (.istore_n 3, 1) := by decide +kernel
theorem dX6_out_74 : decode cX6_out 74 = .ok (.iload 5, 2) := by decide +kernel
theorem dX6_out_76 : decode cX6_out 76 = .ok (.iload_n 2, 1) := by decide +kernel
theorem dX6_out_77 : decode cX6_out 77 = .ok (.if_icmp .le 8, 3) := by decide +kernel
theorem dX6_out_80 : decode cX6_out 80 = .ok (.iload 5, 2) := by decide +kernel
theorem dX6_out_82 : decode cX6_out 82 = .ok (.goto 4, 3) := by decide +kernel
theorem dX6_out_85 : decode cX6_out 85 = .ok (.iload_n 2, 1) := by decide +kernel
theorem dX6_out_86 : decode cX6_out 86 = .ok (.istore_n 2, 1) := by decide +kernel
theorem dX6_out_87 : decode cX6_out 87 = .ok (.iinc 4 1, 3) := by decide +kernel
theorem dX6_out_90 : decode cX6_out 90 = .ok (.goto (-63), 3) := by decide +kernel
theorem dX6_out_93 : decode cX6_out 93 = .ok (.iload_n 3, 1) := by decide +kernel
theorem dX6_out_94 : decode cX6_out 94 = .ok (.bipush (-4), 2) := by decide +kernel
theorem dX6_out_96 : decode cX6_out 96 = .ok (.if_icmp .eq 7, 3) := by decide +kernel
theorem dX6_out_99 : decode cX6_out 99 = .ok (.iload_n 1, 1) := by decide +kernel
theorem dX6_out_100 : decode cX6_out 100 = .ok (.ifCond .ne 7, 3) := by decide +kernel
theorem dX6_out_103 : decode cX6_out 103 = .ok (.iload_n 3, 1) := by decide +kernel
theorem dX6_out_104 : decode cX6_out 104 = .ok (.goto 4, 3) := by decide +kernel
theorem dX6_out_107 : decode cX6_out 107 = .ok (.iload_n 2, 1) := by decide +kernel
theorem dX6_out_108 : decode cX6_out 108 = .ok (.ireturn, 1) := by decide +kernel
theorem dX6_lowest_0 : decode cX6_lowest 0 = .ok (.lload_n 0, 1) := by decide +kernel
theorem dX6_lowest_1 : decode cX6_lowest 1 = .ok (.lstore 5, 2) := by decide +kernel
theorem dX6_lowest_3 : decode cX6_lowest 3 = .ok (.lload_n 2, 1) := by decide +kernel
theorem dX6_lowest_4 : decode cX6_lowest 4 = .ok (.lstore 7, 2) := by decide +kernel
theorem dX6_lowest_6 : decode cX6_lowest 6 = .ok (.lload 7, 2) := by decide +kernel
theorem dX6_lowest_8 : decode cX6_lowest 8 = .ok (.lconst 0, 1) := by decide +kernel
theorem dX6_lowest_9 : decode cX6_lowest 9 = .ok (.lcmp, 1) := by decide +kernel
theorem dX6_lowest_10 : decode cX6_lowest 10 = .ok (.ifCond .eq 21, 3) := by decide +kernel
theorem dX6_lowest_13 : decode cX6_lowest 13 = .ok (.lload 5, 2) := by decide +kernel
theorem dX6_lowest_15 : decode cX6_lowest 15 = .ok (.lload 7, 2) := by decide +kernel
theorem dX6_lowest_17 : decode cX6_lowest 17 = .ok (.lrem, 1) := by decide +kernel
theorem dX6_lowest_18 : decode cX6_lowest 18 = .ok (.lstore 9, 2) := by decide +kernel
theorem dX6_lowest_20 : decode cX6_lowest 20 = .ok (.lload 7, 2) := by decide +kernel
theorem dX6_lowest_22 : decode cX6_lowest 22 = .ok (.lstore 5, 2) := by decide +kernel
theorem dX6_lowest_24 : decode cX6_lowest 24 = .ok (.lload 9, 2) := by decide +kernel
theorem dX6_lowest_26 : decode cX6_lowest 26 = .ok (.lstore 7, 2) := by decide +kernel
theorem dX6_lowest_28 : decode cX6_lowest 28 = .ok (.goto (-22), 3) := by decide +kernel
theorem dX6_lowest_31 : decode cX6_lowest 31 = .ok (.iload 4, 2) := by decide +kernel
theorem dX6_lowest_33 : decode cX6_lowest 33 = .ok (.ifCond .ne 7, 3) := by decide +kernel
theorem dX6_lowest_36 : decode cX6_lowest 36 = .ok (.lload_n 0, 1) := by decide +kernel
theorem dX6_lowest_37 : decode cX6_lowest 37 = .ok (.goto 4, 3) := by decide +kernel
theorem dX6_lowest_40 : decode cX6_lowest 40 = .ok (.lload_n 2, 1) := by decide +kernel
theorem dX6_lowest_41 : decode cX6_lowest 41 = .ok (.lload 5, 2) := by decide +kernel
theorem dX6_lowest_43 : decode cX6_lowest 43 = .ok (.ldiv, 1) := by decide +kernel
theorem dX6_lowest_44 : decode cX6_lowest 44 = .ok (.lreturn, 1) := by decide +kernel
set_option maxRecDepth 20000 in
theorem ggX6_byMisses_X6_edgesGo : GoodIn wsX6_byMisses wsX6_edgesGo := goodIn_r _ [8, 9, 10, 11, 7, 12, 2, 13, 14, 15, 16, 17, 18, 19, 20, 21, 22, 23, 24, 25, 26, 27, 28, 29, 30, 31, 32, 33, 34, 35, 36, 37, 38, 39, 40, 41, 42, 43, 47, 48, 49, 50, 51, 52, 53, 54, 55, 56, 57, 58, 59, 60, 61, 62, 63, 64, 65, 66, 67, 68, 69, 70, 71, 72] (by decide +kernel) (by decide +kernel)
set_option maxRecDepth 20000 in
theorem gX6_byMisses_X6_edgesGo : GoodIn wsX6_byMisses (wsV RX6 209 RX6 yX6_edgesGo wsX6_edgesGo) := goodIn_app (goodIn_of _ (by decide +kernel)) ggX6_byMisses_X6_edgesGo
set_option maxRecDepth 20000 in
theorem ggX6_byMisses_X6_tracesOn : GoodIn wsX6_byMisses wsX6_tracesOn := goodIn_r _ [24, 2, 25, 26, 27, 7, 28, 17, 18, 20, 29, 30, 31, 32, 33, 34, 35, 36, 37, 38, 39, 40, 41, 42, 43, 47, 48, 49, 50, 51, 52, 53, 54, 55, 56, 57, 58, 59, 60, 61, 62, 63, 64, 65, 66, 67, 68, 69, 70, 71, 72] (by decide +kernel) (by decide +kernel)
set_option maxRecDepth 20000 in
theorem gX6_byMisses_X6_tracesOn : GoodIn wsX6_byMisses (wsV RX6 199 RX6 yX6_tracesOn wsX6_tracesOn) := goodIn_app (goodIn_of _ (by decide +kernel)) ggX6_byMisses_X6_tracesOn
set_option maxRecDepth 20000 in
theorem ggX6_byMisses_X6_amount : GoodIn wsX6_byMisses wsX6_amount := goodIn_r _ [43] (by decide +kernel) (by decide +kernel)
set_option maxRecDepth 20000 in
theorem gX6_byMisses_X6_amount : GoodIn wsX6_byMisses (va_wsS RX6 135 yX6_amount wsX6_amount) := goodIn_app (goodIn_of _ (by decide +kernel)) ggX6_byMisses_X6_amount
set_option maxRecDepth 20000 in
theorem ggX6_byMisses_X6_lowest : GoodIn wsX6_byMisses wsX6_lowest := goodIn_r _ [46] (by decide +kernel) (by decide +kernel)
set_option maxRecDepth 20000 in
theorem gX6_byMisses_X6_lowest : GoodIn wsX6_byMisses (va_wsS RX6 218 yX6_lowest wsX6_lowest) := goodIn_app (goodIn_of _ (by decide +kernel)) ggX6_byMisses_X6_lowest
theorem dX6_byMisses_0 : decode cX6_byMisses 0 = .ok (.lconst 0, 1) := by decide +kernel
theorem dX6_byMisses_1 : decode cX6_byMisses 1 = .ok (.lstore 6, 2) := by decide +kernel
theorem dX6_byMisses_3 : decode cX6_byMisses 3 = .ok (.lconst 1, 1) := by decide +kernel
theorem dX6_byMisses_4 : decode cX6_byMisses 4 = .ok (.lstore 8, 2) := by decide +kernel
theorem dX6_byMisses_6 : decode cX6_byMisses 6 = .ok (.iconst 0, 1) := by decide +kernel
theorem dX6_byMisses_7 : decode cX6_byMisses 7 = .ok (.istore 10, 2) := by decide +kernel
theorem dX6_byMisses_9 : decode cX6_byMisses 9 = .ok (.iload 10, 2) := by decide +kernel
theorem dX6_byMisses_11 : decode cX6_byMisses 11 = .ok (.iload 4, 2) := by decide +kernel
theorem dX6_byMisses_13 : decode cX6_byMisses 13 = .ok (.if_icmp .ge 17, 3) := by decide +kernel
theorem dX6_byMisses_16 : decode cX6_byMisses 16 = .ok (.lload 8, 2) := by decide +kernel
theorem dX6_byMisses_18 : decode cX6_byMisses 18 = .ok (.ldc2_w 216, 3) := by decide +kernel
theorem dX6_byMisses_21 : decode cX6_byMisses 21 = .ok (.lmul, 1) := by decide +kernel
theorem dX6_byMisses_22 : decode cX6_byMisses 22 = .ok (.lstore 8, 2) := by decide +kernel
theorem dX6_byMisses_24 : decode cX6_byMisses 24 = .ok (.iinc 10 1, 3) := by decide +kernel
theorem dX6_byMisses_27 : decode cX6_byMisses 27 = .ok (.goto (-18), 3) := by decide +kernel
theorem dX6_byMisses_30 : decode cX6_byMisses 30 = .ok (.iconst 0, 1) := by decide +kernel
theorem dX6_byMisses_31 : decode cX6_byMisses 31 = .ok (.istore 10, 2) := by decide +kernel
theorem dX6_byMisses_33 : decode cX6_byMisses 33 = .ok (.iload 10, 2) := by decide +kernel
theorem dX6_byMisses_35 : decode cX6_byMisses 35 = .ok (.iconst 1, 1) := by decide +kernel
theorem dX6_byMisses_36 : decode cX6_byMisses 36 = .ok (.iload 4, 2) := by decide +kernel
theorem dX6_byMisses_38 : decode cX6_byMisses 38 = .ok (.ishl, 1) := by decide +kernel
theorem dX6_byMisses_39 : decode cX6_byMisses 39 = .ok (.if_icmp .ge 129, 3) := by decide +kernel
theorem dX6_byMisses_42 : decode cX6_byMisses 42 = .ok (.lconst 1, 1) := by decide +kernel
theorem dX6_byMisses_43 : decode cX6_byMisses 43 = .ok (.lstore 11, 2) := by decide +kernel
theorem dX6_byMisses_45 : decode cX6_byMisses 45 = .ok (.aload_n 0, 1) := by decide +kernel
theorem dX6_byMisses_46 : decode cX6_byMisses 46 = .ok (.iconst 0, 1) := by decide +kernel
theorem dX6_byMisses_47 : decode cX6_byMisses 47 = .ok (.invokevirtual 209, 3) := by decide +kernel
theorem dX6_byMisses_50 : decode cX6_byMisses 50 = .ok (.iconst 0, 1) := by decide +kernel
theorem dX6_byMisses_51 : decode cX6_byMisses 51 = .ok (.istore 13, 2) := by decide +kernel
theorem dX6_byMisses_53 : decode cX6_byMisses 53 = .ok (.iload 13, 2) := by decide +kernel
theorem dX6_byMisses_55 : decode cX6_byMisses 55 = .ok (.iload 4, 2) := by decide +kernel
theorem dX6_byMisses_57 : decode cX6_byMisses 57 = .ok (.if_icmp .ge 56, 3) := by decide +kernel
theorem dX6_byMisses_60 : decode cX6_byMisses 60 = .ok (.iload 10, 2) := by decide +kernel
theorem dX6_byMisses_62 : decode cX6_byMisses 62 = .ok (.iload 13, 2) := by decide +kernel
theorem dX6_byMisses_64 : decode cX6_byMisses 64 = .ok (.ishr, 1) := by decide +kernel
theorem dX6_byMisses_65 : decode cX6_byMisses 65 = .ok (.iconst 1, 1) := by decide +kernel
theorem dX6_byMisses_66 : decode cX6_byMisses 66 = .ok (.iand, 1) := by decide +kernel
theorem dX6_byMisses_67 : decode cX6_byMisses 67 = .ok (.iconst 1, 1) := by decide +kernel
theorem dX6_byMisses_68 : decode cX6_byMisses 68 = .ok (.if_icmp .ne 7, 3) := by decide +kernel
theorem dX6_byMisses_71 : decode cX6_byMisses 71 = .ok (.iconst 1, 1) := by decide +kernel
theorem dX6_byMisses_72 : decode cX6_byMisses 72 = .ok (.goto 4, 3) := by decide +kernel
theorem dX6_byMisses_75 : decode cX6_byMisses 75 = .ok (.iconst 0, 1) := by decide +kernel
theorem dX6_byMisses_76 : decode cX6_byMisses 76 = .ok (.istore 14, 2) := by decide +kernel
theorem dX6_byMisses_78 : decode cX6_byMisses 78 = .ok (.lload 11, 2) := by decide +kernel
theorem dX6_byMisses_80 : decode cX6_byMisses 80 = .ok (.iload 14, 2) := by decide +kernel
theorem dX6_byMisses_82 : decode cX6_byMisses 82 = .ok (.ifCond .eq 8, 3) := by decide +kernel
theorem dX6_byMisses_85 : decode cX6_byMisses 85 = .ok (.iload_n 1, 1) := by decide +kernel
theorem dX6_byMisses_86 : decode cX6_byMisses 86 = .ok (.i2l, 1) := by decide +kernel
theorem dX6_byMisses_87 : decode cX6_byMisses 87 = .ok (.goto 8, 3) := by decide +kernel
theorem dX6_byMisses_90 : decode cX6_byMisses 90 = .ok (.bipush 10, 2) := by decide +kernel
theorem dX6_byMisses_92 : decode cX6_byMisses 92 = .ok (.iload_n 1, 1) := by decide +kernel
theorem dX6_byMisses_93 : decode cX6_byMisses 93 = .ok (.isub, 1) := by decide +kernel
theorem dX6_byMisses_94 : decode cX6_byMisses 94 = .ok (.i2l, 1) := by decide +kernel
theorem dX6_byMisses_95 : decode cX6_byMisses 95 = .ok (.lmul, 1) := by decide +kernel
theorem dX6_byMisses_96 : decode cX6_byMisses 96 = .ok (.lstore 11, 2) := by decide +kernel
theorem dX6_byMisses_98 : decode cX6_byMisses 98 = .ok (.aload_n 0, 1) := by decide +kernel
theorem dX6_byMisses_99 : decode cX6_byMisses 99 = .ok (.sipush 148, 3) := by decide +kernel
theorem dX6_byMisses_102 : decode cX6_byMisses 102 = .ok (.iload 14, 2) := by decide +kernel
theorem dX6_byMisses_104 : decode cX6_byMisses 104 = .ok (.invokevirtual 199, 3) := by decide +kernel
theorem dX6_byMisses_107 : decode cX6_byMisses 107 = .ok (.iinc 13 1, 3) := by decide +kernel
theorem dX6_byMisses_110 : decode cX6_byMisses 110 = .ok (.goto (-57), 3) := by decide +kernel
theorem dX6_byMisses_113 : decode cX6_byMisses 113 = .ok (.aload_n 0, 1) := by decide +kernel
theorem dX6_byMisses_114 : decode cX6_byMisses 114 = .ok (.getfield 7, 3) := by decide +kernel
theorem dX6_byMisses_117 : decode cX6_byMisses 117 = .ok (.sipush 179, 3) := by decide +kernel
theorem dX6_byMisses_120 : decode cX6_byMisses 120 = .ok (.iload_n 2, 1) := by decide +kernel
theorem dX6_byMisses_121 : decode cX6_byMisses 121 = .ok (.iadd, 1) := by decide +kernel
theorem dX6_byMisses_122 : decode cX6_byMisses 122 = .ok (.iaload, 1) := by decide +kernel
theorem dX6_byMisses_123 : decode cX6_byMisses 123 = .ok (.istore 13, 2) := by decide +kernel
theorem dX6_byMisses_125 : decode cX6_byMisses 125 = .ok (.lload 6, 2) := by decide +kernel
theorem dX6_byMisses_127 : decode cX6_byMisses 127 = .ok (.lload 11, 2) := by decide +kernel
theorem dX6_byMisses_129 : decode cX6_byMisses 129 = .ok (.iload_n 3, 1) := by decide +kernel
theorem dX6_byMisses_130 : decode cX6_byMisses 130 = .ok (.bipush (-4), 2) := by decide +kernel
theorem dX6_byMisses_132 : decode cX6_byMisses 132 = .ok (.if_icmp .ne 11, 3) := by decide +kernel
theorem dX6_byMisses_135 : decode cX6_byMisses 135 = .ok (.iload 13, 2) := by decide +kernel
theorem dX6_byMisses_137 : decode cX6_byMisses 137 = .ok (.invokestatic 135, 3) := by decide +kernel
theorem dX6_byMisses_140 : decode cX6_byMisses 140 = .ok (.goto 17, 3) := by decide +kernel
theorem dX6_byMisses_143 : decode cX6_byMisses 143 = .ok (.iload 13, 2) := by decide +kernel
theorem dX6_byMisses_145 : decode cX6_byMisses 145 = .ok (.iload_n 3, 1) := by decide +kernel
theorem dX6_byMisses_146 : decode cX6_byMisses 146 = .ok (.ldc 168, 2) := by decide +kernel
theorem dX6_byMisses_148 : decode cX6_byMisses 148 = .ok (.isub, 1) := by decide +kernel
theorem dX6_byMisses_149 : decode cX6_byMisses 149 = .ok (.if_icmp .lt 7, 3) := by decide +kernel
theorem dX6_byMisses_152 : decode cX6_byMisses 152 = .ok (.iconst 1, 1) := by decide +kernel
theorem dX6_byMisses_153 : decode cX6_byMisses 153 = .ok (.goto 4, 3) := by decide +kernel
theorem dX6_byMisses_156 : decode cX6_byMisses 156 = .ok (.iconst 0, 1) := by decide +kernel
theorem dX6_byMisses_157 : decode cX6_byMisses 157 = .ok (.i2l, 1) := by decide +kernel
theorem dX6_byMisses_158 : decode cX6_byMisses 158 = .ok (.lmul, 1) := by decide +kernel
theorem dX6_byMisses_159 : decode cX6_byMisses 159 = .ok (.ladd, 1) := by decide +kernel
theorem dX6_byMisses_160 : decode cX6_byMisses 160 = .ok (.lstore 6, 2) := by decide +kernel
theorem dX6_byMisses_162 : decode cX6_byMisses 162 = .ok (.iinc 10 1, 3) := by decide +kernel
theorem dX6_byMisses_165 : decode cX6_byMisses 165 = .ok (.goto (-132), 3) := by decide +kernel
theorem dX6_byMisses_168 : decode cX6_byMisses 168 = .ok (.lload 6, 2) := by decide +kernel
theorem dX6_byMisses_170 : decode cX6_byMisses 170 = .ok (.lload 8, 2) := by decide +kernel
theorem dX6_byMisses_172 : decode cX6_byMisses 172 = .ok (.iload 5, 2) := by decide +kernel
theorem dX6_byMisses_174 : decode cX6_byMisses 174 = .ok (.invokestatic 218, 3) := by decide +kernel
theorem dX6_byMisses_177 : decode cX6_byMisses 177 = .ok (.lreturn, 1) := by decide +kernel
set_option maxRecDepth 20000 in
theorem ggX6_luck_X6_in : GoodIn wsX6_luck wsX6_in := goodIn_r _ [7] (by decide +kernel) (by decide +kernel)
set_option maxRecDepth 20000 in
theorem gX6_luck_X6_in : GoodIn wsX6_luck (va_wsS RX6 50 yX6_in wsX6_in) := goodIn_app (goodIn_of _ (by decide +kernel)) ggX6_luck_X6_in
set_option maxRecDepth 20000 in
theorem ggX6_luck_X6_isWheel : GoodIn wsX6_luck wsX6_isWheel := goodIn_r _ [11, 12, 4, 5, 6, 7, 65, 66, 67, 68, 69, 70, 71, 72, 73, 74, 75, 76, 77, 78, 79, 80, 81, 82, 83, 84, 85, 86, 87, 88, 89, 90] (by decide +kernel) (by decide +kernel)
set_option maxRecDepth 20000 in
theorem gX6_luck_X6_isWheel : GoodIn wsX6_luck (wsV RX6 165 RX6 yX6_isWheel wsX6_isWheel) := goodIn_app (goodIn_of _ (by decide +kernel)) ggX6_luck_X6_isWheel
set_option maxRecDepth 20000 in
theorem ggX6_luck_X6_isReading : GoodIn wsX6_luck wsX6_isReading := goodIn_r _ [15, 16, 17, 4, 5, 6, 7] (by decide +kernel) (by decide +kernel)
set_option maxRecDepth 20000 in
theorem gX6_luck_X6_isReading : GoodIn wsX6_luck (va_wsS RX6 212 yX6_isReading wsX6_isReading) := goodIn_app (goodIn_of _ (by decide +kernel)) ggX6_luck_X6_isReading
set_option maxRecDepth 20000 in
theorem ggX6_luck_X6_byMisses : GoodIn wsX6_luck wsX6_byMisses := goodIn_r _ [21, 1, 12, 22, 23, 24, 25, 6, 26, 27, 28, 29, 30, 31, 32, 33, 34, 35, 36, 37, 38, 39, 40, 41, 42, 43, 44, 45, 46, 47, 48, 49, 50, 51, 52, 53, 54, 55, 56, 57, 58, 59, 60, 61, 62, 63, 64, 65, 66, 67, 68, 69, 70, 71, 72, 73, 74, 75, 76, 77, 78, 79, 80, 81, 82, 83, 84, 85, 86, 87, 88, 89, 90] (by decide +kernel) (by decide +kernel)
set_option maxRecDepth 20000 in
theorem gX6_luck_X6_byMisses : GoodIn wsX6_luck (wsV RX6 224 RX6 yX6_byMisses wsX6_byMisses) := goodIn_app (goodIn_of _ (by decide +kernel)) ggX6_luck_X6_byMisses
theorem dX6_luck_0 : decode cX6_luck 0 = .ok (.iload_n 1, 1) := by decide +kernel
theorem dX6_luck_1 : decode cX6_luck 1 = .ok (.i2l, 1) := by decide +kernel
theorem dX6_luck_2 : decode cX6_luck 2 = .ok (.lconst 0, 1) := by decide +kernel
theorem dX6_luck_3 : decode cX6_luck 3 = .ok (.ldc2_w 216, 3) := by decide +kernel
theorem dX6_luck_6 : decode cX6_luck 6 = .ok (.invokestatic 50, 3) := by decide +kernel
theorem dX6_luck_9 : decode cX6_luck 9 = .ok (.ifCond .eq 56, 3) := by decide +kernel
theorem dX6_luck_12 : decode cX6_luck 12 = .ok (.aload_n 0, 1) := by decide +kernel
theorem dX6_luck_13 : decode cX6_luck 13 = .ok (.iload_n 2, 1) := by decide +kernel
theorem dX6_luck_14 : decode cX6_luck 14 = .ok (.invokevirtual 165, 3) := by decide +kernel
theorem dX6_luck_17 : decode cX6_luck 17 = .ok (.ifCond .eq 48, 3) := by decide +kernel
theorem dX6_luck_20 : decode cX6_luck 20 = .ok (.iload_n 3, 1) := by decide +kernel
theorem dX6_luck_21 : decode cX6_luck 21 = .ok (.invokestatic 212, 3) := by decide +kernel
theorem dX6_luck_24 : decode cX6_luck 24 = .ok (.ifCond .eq 41, 3) := by decide +kernel
theorem dX6_luck_27 : decode cX6_luck 27 = .ok (.iload 4, 2) := by decide +kernel
theorem dX6_luck_29 : decode cX6_luck 29 = .ok (.i2l, 1) := by decide +kernel
theorem dX6_luck_30 : decode cX6_luck 30 = .ok (.lconst 0, 1) := by decide +kernel
theorem dX6_luck_31 : decode cX6_luck 31 = .ok (.ldc2_w 222, 3) := by decide +kernel
theorem dX6_luck_34 : decode cX6_luck 34 = .ok (.invokestatic 50, 3) := by decide +kernel
theorem dX6_luck_37 : decode cX6_luck 37 = .ok (.ifCond .eq 28, 3) := by decide +kernel
theorem dX6_luck_40 : decode cX6_luck 40 = .ok (.iload 5, 2) := by decide +kernel
theorem dX6_luck_42 : decode cX6_luck 42 = .ok (.i2l, 1) := by decide +kernel
theorem dX6_luck_43 : decode cX6_luck 43 = .ok (.lconst 0, 1) := by decide +kernel
theorem dX6_luck_44 : decode cX6_luck 44 = .ok (.lconst 1, 1) := by decide +kernel
theorem dX6_luck_45 : decode cX6_luck 45 = .ok (.invokestatic 50, 3) := by decide +kernel
theorem dX6_luck_48 : decode cX6_luck 48 = .ok (.ifCond .eq 17, 3) := by decide +kernel
theorem dX6_luck_51 : decode cX6_luck 51 = .ok (.aload_n 0, 1) := by decide +kernel
theorem dX6_luck_52 : decode cX6_luck 52 = .ok (.iload_n 1, 1) := by decide +kernel
theorem dX6_luck_53 : decode cX6_luck 53 = .ok (.iload_n 2, 1) := by decide +kernel
theorem dX6_luck_54 : decode cX6_luck 54 = .ok (.iload_n 3, 1) := by decide +kernel
theorem dX6_luck_55 : decode cX6_luck 55 = .ok (.iload 4, 2) := by decide +kernel
theorem dX6_luck_57 : decode cX6_luck 57 = .ok (.iload 5, 2) := by decide +kernel
theorem dX6_luck_59 : decode cX6_luck 59 = .ok (.invokevirtual 224, 3) := by decide +kernel
theorem dX6_luck_62 : decode cX6_luck 62 = .ok (.goto 6, 3) := by decide +kernel
theorem dX6_luck_65 : decode cX6_luck 65 = .ok (.ldc2_w 228, 3) := by decide +kernel
theorem dX6_luck_68 : decode cX6_luck 68 = .ok (.lreturn, 1) := by decide +kernel
set_option maxRecDepth 20000 in
theorem ggX6_mean_X6_in : GoodIn wsX6_mean wsX6_in := goodIn_r _ [7] (by decide +kernel) (by decide +kernel)
set_option maxRecDepth 20000 in
theorem gX6_mean_X6_in : GoodIn wsX6_mean (va_wsS RX6 50 yX6_in wsX6_in) := goodIn_app (goodIn_of _ (by decide +kernel)) ggX6_mean_X6_in
set_option maxRecDepth 20000 in
theorem ggX6_mean_X6_isWheel : GoodIn wsX6_mean wsX6_isWheel := goodIn_r _ [11, 12, 4, 5, 6, 7, 60, 61, 62, 63, 64, 65, 66, 67, 68, 69, 70, 71, 72, 73, 74, 75, 76, 77, 78, 79, 80, 81, 82, 83, 84, 85] (by decide +kernel) (by decide +kernel)
set_option maxRecDepth 20000 in
theorem gX6_mean_X6_isWheel : GoodIn wsX6_mean (wsV RX6 165 RX6 yX6_isWheel wsX6_isWheel) := goodIn_app (goodIn_of _ (by decide +kernel)) ggX6_mean_X6_isWheel
set_option maxRecDepth 20000 in
theorem ggX6_mean_X6_byMisses : GoodIn wsX6_mean wsX6_byMisses := goodIn_r _ [16, 1, 12, 17, 18, 19, 20, 6, 21, 22, 23, 24, 25, 26, 27, 28, 29, 30, 31, 32, 33, 34, 35, 36, 37, 38, 39, 40, 41, 42, 43, 44, 45, 46, 47, 48, 49, 50, 51, 52, 53, 54, 55, 56, 57, 58, 59, 60, 61, 62, 63, 64, 65, 66, 67, 68, 69, 70, 71, 72, 73, 74, 75, 76, 77, 78, 79, 80, 81, 82, 83, 84, 85] (by decide +kernel) (by decide +kernel)
set_option maxRecDepth 20000 in
theorem gX6_mean_X6_byMisses : GoodIn wsX6_mean (wsV RX6 224 RX6 yX6_byMisses wsX6_byMisses) := goodIn_app (goodIn_of _ (by decide +kernel)) ggX6_mean_X6_byMisses
theorem dX6_mean_0 : decode cX6_mean 0 = .ok (.iload_n 1, 1) := by decide +kernel
theorem dX6_mean_1 : decode cX6_mean 1 = .ok (.i2l, 1) := by decide +kernel
theorem dX6_mean_2 : decode cX6_mean 2 = .ok (.lconst 0, 1) := by decide +kernel
theorem dX6_mean_3 : decode cX6_mean 3 = .ok (.ldc2_w 216, 3) := by decide +kernel
theorem dX6_mean_6 : decode cX6_mean 6 = .ok (.invokestatic 50, 3) := by decide +kernel
theorem dX6_mean_9 : decode cX6_mean 9 = .ok (.ifCond .eq 48, 3) := by decide +kernel
theorem dX6_mean_12 : decode cX6_mean 12 = .ok (.aload_n 0, 1) := by decide +kernel
theorem dX6_mean_13 : decode cX6_mean 13 = .ok (.iload_n 2, 1) := by decide +kernel
theorem dX6_mean_14 : decode cX6_mean 14 = .ok (.invokevirtual 165, 3) := by decide +kernel
theorem dX6_mean_17 : decode cX6_mean 17 = .ok (.ifCond .eq 40, 3) := by decide +kernel
theorem dX6_mean_20 : decode cX6_mean 20 = .ok (.iload_n 3, 1) := by decide +kernel
theorem dX6_mean_21 : decode cX6_mean 21 = .ok (.i2l, 1) := by decide +kernel
theorem dX6_mean_22 : decode cX6_mean 22 = .ok (.lconst 0, 1) := by decide +kernel
theorem dX6_mean_23 : decode cX6_mean 23 = .ok (.ldc2_w 222, 3) := by decide +kernel
theorem dX6_mean_26 : decode cX6_mean 26 = .ok (.invokestatic 50, 3) := by decide +kernel
theorem dX6_mean_29 : decode cX6_mean 29 = .ok (.ifCond .eq 28, 3) := by decide +kernel
theorem dX6_mean_32 : decode cX6_mean 32 = .ok (.iload 4, 2) := by decide +kernel
theorem dX6_mean_34 : decode cX6_mean 34 = .ok (.i2l, 1) := by decide +kernel
theorem dX6_mean_35 : decode cX6_mean 35 = .ok (.lconst 0, 1) := by decide +kernel
theorem dX6_mean_36 : decode cX6_mean 36 = .ok (.lconst 1, 1) := by decide +kernel
theorem dX6_mean_37 : decode cX6_mean 37 = .ok (.invokestatic 50, 3) := by decide +kernel
theorem dX6_mean_40 : decode cX6_mean 40 = .ok (.ifCond .eq 17, 3) := by decide +kernel
theorem dX6_mean_43 : decode cX6_mean 43 = .ok (.aload_n 0, 1) := by decide +kernel
theorem dX6_mean_44 : decode cX6_mean 44 = .ok (.iload_n 1, 1) := by decide +kernel
theorem dX6_mean_45 : decode cX6_mean 45 = .ok (.iload_n 2, 1) := by decide +kernel
theorem dX6_mean_46 : decode cX6_mean 46 = .ok (.bipush (-4), 2) := by decide +kernel
theorem dX6_mean_48 : decode cX6_mean 48 = .ok (.iload_n 3, 1) := by decide +kernel
theorem dX6_mean_49 : decode cX6_mean 49 = .ok (.iload 4, 2) := by decide +kernel
theorem dX6_mean_51 : decode cX6_mean 51 = .ok (.invokevirtual 224, 3) := by decide +kernel
theorem dX6_mean_54 : decode cX6_mean 54 = .ok (.goto 6, 3) := by decide +kernel
theorem dX6_mean_57 : decode cX6_mean 57 = .ok (.ldc2_w 228, 3) := by decide +kernel
theorem dX6_mean_60 : decode cX6_mean 60 = .ok (.lreturn, 1) := by decide +kernel
set_option maxRecDepth 20000 in
theorem ggX6_see_X6_in : GoodIn wsX6_see wsX6_in := goodIn_r _ [8] (by decide +kernel) (by decide +kernel)
set_option maxRecDepth 20000 in
theorem gX6_see_X6_in : GoodIn wsX6_see (va_wsS RX6 50 yX6_in wsX6_in) := goodIn_app (goodIn_of _ (by decide +kernel)) ggX6_see_X6_in
set_option maxRecDepth 20000 in
theorem ggX6_see_X6_isWheel : GoodIn wsX6_see wsX6_isWheel := goodIn_r _ [12, 13, 5, 6, 7, 8, 19, 20, 21, 22, 23, 24, 25, 26, 27, 28, 29, 30, 31, 32, 33, 34, 35, 36, 37, 38, 39, 40, 41, 42, 43, 44] (by decide +kernel) (by decide +kernel)
set_option maxRecDepth 20000 in
theorem gX6_see_X6_isWheel : GoodIn wsX6_see (wsV RX6 165 RX6 yX6_isWheel wsX6_isWheel) := goodIn_app (goodIn_of _ (by decide +kernel)) ggX6_see_X6_isWheel
set_option maxRecDepth 20000 in
theorem ggX6_see_X6_isReading : GoodIn wsX6_see wsX6_isReading := goodIn_r _ [16, 17, 18, 5, 6, 7, 8] (by decide +kernel) (by decide +kernel)
set_option maxRecDepth 20000 in
theorem gX6_see_X6_isReading : GoodIn wsX6_see (va_wsS RX6 212 yX6_isReading wsX6_isReading) := goodIn_app (goodIn_of _ (by decide +kernel)) ggX6_see_X6_isReading
theorem dX6_see_0 : decode cX6_see 0 = .ok (.iload_n 1, 1) := by decide +kernel
theorem dX6_see_1 : decode cX6_see 1 = .ok (.i2l, 1) := by decide +kernel
theorem dX6_see_2 : decode cX6_see 2 = .ok (.lconst 0, 1) := by decide +kernel
theorem dX6_see_3 : decode cX6_see 3 = .ok (.ldc2_w 230, 3) := by decide +kernel
theorem dX6_see_6 : decode cX6_see 6 = .ok (.invokestatic 50, 3) := by decide +kernel
theorem dX6_see_9 : decode cX6_see 9 = .ok (.ifCond .eq 18, 3) := by decide +kernel
theorem dX6_see_12 : decode cX6_see 12 = .ok (.aload_n 0, 1) := by decide +kernel
theorem dX6_see_13 : decode cX6_see 13 = .ok (.iload_n 2, 1) := by decide +kernel
theorem dX6_see_14 : decode cX6_see 14 = .ok (.invokevirtual 165, 3) := by decide +kernel
theorem dX6_see_17 : decode cX6_see 17 = .ok (.ifCond .eq 10, 3) := by decide +kernel
theorem dX6_see_20 : decode cX6_see 20 = .ok (.iload_n 3, 1) := by decide +kernel
theorem dX6_see_21 : decode cX6_see 21 = .ok (.invokestatic 212, 3) := by decide +kernel
theorem dX6_see_24 : decode cX6_see 24 = .ok (.ifCond .ne 5, 3) := by decide +kernel
theorem dX6_see_27 : decode cX6_see 27 = .ok (.iconst (-1), 1) := by decide +kernel
theorem dX6_see_28 : decode cX6_see 28 = .ok (.ireturn, 1) := by decide +kernel
theorem dX6_see_29 : decode cX6_see 29 = .ok (.aload_n 0, 1) := by decide +kernel
theorem dX6_see_30 : decode cX6_see 30 = .ok (.getfield 117, 3) := by decide +kernel
theorem dX6_see_33 : decode cX6_see 33 = .ok (.bipush 6, 2) := by decide +kernel
theorem dX6_see_35 : decode cX6_see 35 = .ok (.if_icmp .ne 6, 3) := by decide +kernel
theorem dX6_see_38 : decode cX6_see 38 = .ok (.bipush (-3), 2) := by decide +kernel
theorem dX6_see_40 : decode cX6_see 40 = .ok (.ireturn, 1) := by decide +kernel
theorem dX6_see_41 : decode cX6_see 41 = .ok (.aload_n 0, 1) := by decide +kernel
theorem dX6_see_42 : decode cX6_see 42 = .ok (.getfield 29, 3) := by decide +kernel
theorem dX6_see_45 : decode cX6_see 45 = .ok (.iconst 3, 1) := by decide +kernel
theorem dX6_see_46 : decode cX6_see 46 = .ok (.aload_n 0, 1) := by decide +kernel
theorem dX6_see_47 : decode cX6_see 47 = .ok (.getfield 117, 3) := by decide +kernel
theorem dX6_see_50 : decode cX6_see 50 = .ok (.imul, 1) := by decide +kernel
theorem dX6_see_51 : decode cX6_see 51 = .ok (.iload_n 1, 1) := by decide +kernel
theorem dX6_see_52 : decode cX6_see 52 = .ok (.iastore, 1) := by decide +kernel
theorem dX6_see_53 : decode cX6_see 53 = .ok (.aload_n 0, 1) := by decide +kernel
theorem dX6_see_54 : decode cX6_see 54 = .ok (.getfield 29, 3) := by decide +kernel
theorem dX6_see_57 : decode cX6_see 57 = .ok (.iconst 3, 1) := by decide +kernel
theorem dX6_see_58 : decode cX6_see 58 = .ok (.aload_n 0, 1) := by decide +kernel
theorem dX6_see_59 : decode cX6_see 59 = .ok (.getfield 117, 3) := by decide +kernel
theorem dX6_see_62 : decode cX6_see 62 = .ok (.imul, 1) := by decide +kernel
theorem dX6_see_63 : decode cX6_see 63 = .ok (.iconst 1, 1) := by decide +kernel
theorem dX6_see_64 : decode cX6_see 64 = .ok (.iadd, 1) := by decide +kernel
theorem dX6_see_65 : decode cX6_see 65 = .ok (.iload_n 2, 1) := by decide +kernel
theorem dX6_see_66 : decode cX6_see 66 = .ok (.iastore, 1) := by decide +kernel
theorem dX6_see_67 : decode cX6_see 67 = .ok (.aload_n 0, 1) := by decide +kernel
theorem dX6_see_68 : decode cX6_see 68 = .ok (.getfield 29, 3) := by decide +kernel
theorem dX6_see_71 : decode cX6_see 71 = .ok (.iconst 3, 1) := by decide +kernel
theorem dX6_see_72 : decode cX6_see 72 = .ok (.aload_n 0, 1) := by decide +kernel
theorem dX6_see_73 : decode cX6_see 73 = .ok (.getfield 117, 3) := by decide +kernel
theorem dX6_see_76 : decode cX6_see 76 = .ok (.imul, 1) := by decide +kernel
theorem dX6_see_77 : decode cX6_see 77 = .ok (.iconst 2, 1) := by decide +kernel
theorem dX6_see_78 : decode cX6_see 78 = .ok (.iadd, 1) := by decide +kernel
theorem dX6_see_79 : decode cX6_see 79 = .ok (.iload_n 3, 1) := by decide +kernel
theorem dX6_see_80 : decode cX6_see 80 = .ok (.ldc 168, 2) := by decide +kernel
theorem dX6_see_82 : decode cX6_see 82 = .ok (.isub, 1) := by decide +kernel
theorem dX6_see_83 : decode cX6_see 83 = .ok (.iastore, 1) := by decide +kernel
theorem dX6_see_84 : decode cX6_see 84 = .ok (.aload_n 0, 1) := by decide +kernel
theorem dX6_see_85 : decode cX6_see 85 = .ok (.dup, 1) := by decide +kernel
theorem dX6_see_86 : decode cX6_see 86 = .ok (.getfield 117, 3) := by decide +kernel
theorem dX6_see_89 : decode cX6_see 89 = .ok (.iconst 1, 1) := by decide +kernel
theorem dX6_see_90 : decode cX6_see 90 = .ok (.iadd, 1) := by decide +kernel
theorem dX6_see_91 : decode cX6_see 91 = .ok (.putfield 117, 3) := by decide +kernel
theorem dX6_see_94 : decode cX6_see 94 = .ok (.aload_n 0, 1) := by decide +kernel
theorem dX6_see_95 : decode cX6_see 95 = .ok (.getfield 117, 3) := by decide +kernel
theorem dX6_see_98 : decode cX6_see 98 = .ok (.ireturn, 1) := by decide +kernel
set_option maxRecDepth 20000 in
theorem ggX6_forget_X6_in : GoodIn wsX6_forget wsX6_in := goodIn_r _ [5] (by decide +kernel) (by decide +kernel)
set_option maxRecDepth 20000 in
theorem gX6_forget_X6_in : GoodIn wsX6_forget (va_wsS RX6 50 yX6_in wsX6_in) := goodIn_app (goodIn_of _ (by decide +kernel)) ggX6_forget_X6_in
theorem dX6_forget_0 : decode cX6_forget 0 = .ok (.iload_n 1, 1) := by decide +kernel
theorem dX6_forget_1 : decode cX6_forget 1 = .ok (.i2l, 1) := by decide +kernel
theorem dX6_forget_2 : decode cX6_forget 2 = .ok (.lconst 0, 1) := by decide +kernel
theorem dX6_forget_3 : decode cX6_forget 3 = .ok (.aload_n 0, 1) := by decide +kernel
theorem dX6_forget_4 : decode cX6_forget 4 = .ok (.getfield 117, 3) := by decide +kernel
theorem dX6_forget_7 : decode cX6_forget 7 = .ok (.i2l, 1) := by decide +kernel
theorem dX6_forget_8 : decode cX6_forget 8 = .ok (.invokestatic 50, 3) := by decide +kernel
theorem dX6_forget_11 : decode cX6_forget 11 = .ok (.ifCond .ne 5, 3) := by decide +kernel
theorem dX6_forget_14 : decode cX6_forget 14 = .ok (.iconst (-1), 1) := by decide +kernel
theorem dX6_forget_15 : decode cX6_forget 15 = .ok (.ireturn, 1) := by decide +kernel
theorem dX6_forget_16 : decode cX6_forget 16 = .ok (.aload_n 0, 1) := by decide +kernel
theorem dX6_forget_17 : decode cX6_forget 17 = .ok (.getfield 117, 3) := by decide +kernel
theorem dX6_forget_20 : decode cX6_forget 20 = .ok (.istore_n 2, 1) := by decide +kernel
theorem dX6_forget_21 : decode cX6_forget 21 = .ok (.aload_n 0, 1) := by decide +kernel
theorem dX6_forget_22 : decode cX6_forget 22 = .ok (.iload_n 1, 1) := by decide +kernel
theorem dX6_forget_23 : decode cX6_forget 23 = .ok (.putfield 117, 3) := by decide +kernel
theorem dX6_forget_26 : decode cX6_forget 26 = .ok (.iload_n 2, 1) := by decide +kernel
theorem dX6_forget_27 : decode cX6_forget 27 = .ok (.ireturn, 1) := by decide +kernel
set_option maxRecDepth 20000 in
theorem ggX6_isAsSeen_X6_edgesGo : GoodIn wsX6_isAsSeen wsX6_edgesGo := goodIn_r _ [9, 10, 11, 12, 8, 13, 2, 14, 15, 16, 17, 18, 19, 20, 21, 22, 23, 24, 25, 26, 27, 28, 29, 30, 31, 32, 33, 34, 35, 36, 37, 38, 39, 40, 41, 42, 43, 44, 45, 46, 47, 48, 49, 50, 51, 52, 53, 54, 55, 56, 57, 58, 59, 60, 61, 62, 63, 64, 65, 66, 67, 68, 69, 70] (by decide +kernel) (by decide +kernel)
set_option maxRecDepth 20000 in
theorem gX6_isAsSeen_X6_edgesGo : GoodIn wsX6_isAsSeen (wsV RX6 209 RX6 yX6_edgesGo wsX6_edgesGo) := goodIn_app (goodIn_of _ (by decide +kernel)) ggX6_isAsSeen_X6_edgesGo
set_option maxRecDepth 20000 in
theorem ggX6_isAsSeen_X6_tracesOn : GoodIn wsX6_isAsSeen wsX6_tracesOn := goodIn_r _ [25, 2, 26, 27, 28, 8, 29, 18, 19, 21, 30, 31, 32, 33, 34, 35, 36, 37, 38, 39, 40, 41, 42, 43, 44, 45, 46, 47, 48, 49, 50, 51, 52, 53, 54, 55, 56, 57, 58, 59, 60, 61, 62, 63, 64, 65, 66, 67, 68, 69, 70] (by decide +kernel) (by decide +kernel)
set_option maxRecDepth 20000 in
theorem gX6_isAsSeen_X6_tracesOn : GoodIn wsX6_isAsSeen (wsV RX6 199 RX6 yX6_tracesOn wsX6_tracesOn) := goodIn_app (goodIn_of _ (by decide +kernel)) ggX6_isAsSeen_X6_tracesOn
theorem dX6_isAsSeen_0 : decode cX6_isAsSeen 0 = .ok (.aload_n 0, 1) := by decide +kernel
theorem dX6_isAsSeen_1 : decode cX6_isAsSeen 1 = .ok (.iconst 0, 1) := by decide +kernel
theorem dX6_isAsSeen_2 : decode cX6_isAsSeen 2 = .ok (.invokevirtual 209, 3) := by decide +kernel
theorem dX6_isAsSeen_5 : decode cX6_isAsSeen 5 = .ok (.iconst 1, 1) := by decide +kernel
theorem dX6_isAsSeen_6 : decode cX6_isAsSeen 6 = .ok (.istore_n 3, 1) := by decide +kernel
theorem dX6_isAsSeen_7 : decode cX6_isAsSeen 7 = .ok (.iconst 0, 1) := by decide +kernel
theorem dX6_isAsSeen_8 : decode cX6_isAsSeen 8 = .ok (.istore 4, 2) := by decide +kernel
theorem dX6_isAsSeen_10 : decode cX6_isAsSeen 10 = .ok (.iload 4, 2) := by decide +kernel
theorem dX6_isAsSeen_12 : decode cX6_isAsSeen 12 = .ok (.bipush 40, 2) := by decide +kernel
theorem dX6_isAsSeen_14 : decode cX6_isAsSeen 14 = .ok (.if_icmp .gt 143, 3) := by decide +kernel
theorem dX6_isAsSeen_17 : decode cX6_isAsSeen 17 = .ok (.aload_n 0, 1) := by decide +kernel
theorem dX6_isAsSeen_18 : decode cX6_isAsSeen 18 = .ok (.getfield 32, 3) := by decide +kernel
theorem dX6_isAsSeen_21 : decode cX6_isAsSeen 21 = .ok (.bipush 41, 2) := by decide +kernel
theorem dX6_isAsSeen_23 : decode cX6_isAsSeen 23 = .ok (.iload_n 1, 1) := by decide +kernel
theorem dX6_isAsSeen_24 : decode cX6_isAsSeen 24 = .ok (.imul, 1) := by decide +kernel
theorem dX6_isAsSeen_25 : decode cX6_isAsSeen 25 = .ok (.iload 4, 2) := by decide +kernel
theorem dX6_isAsSeen_27 : decode cX6_isAsSeen 27 = .ok (.iadd, 1) := by decide +kernel
theorem dX6_isAsSeen_28 : decode cX6_isAsSeen 28 = .ok (.aload_n 0, 1) := by decide +kernel
theorem dX6_isAsSeen_29 : decode cX6_isAsSeen 29 = .ok (.getfield 7, 3) := by decide +kernel
theorem dX6_isAsSeen_32 : decode cX6_isAsSeen 32 = .ok (.sipush 179, 3) := by decide +kernel
theorem dX6_isAsSeen_35 : decode cX6_isAsSeen 35 = .ok (.iload_n 2, 1) := by decide +kernel
theorem dX6_isAsSeen_36 : decode cX6_isAsSeen 36 = .ok (.iadd, 1) := by decide +kernel
theorem dX6_isAsSeen_37 : decode cX6_isAsSeen 37 = .ok (.iaload, 1) := by decide +kernel
theorem dX6_isAsSeen_38 : decode cX6_isAsSeen 38 = .ok (.iastore, 1) := by decide +kernel
theorem dX6_isAsSeen_39 : decode cX6_isAsSeen 39 = .ok (.iconst 0, 1) := by decide +kernel
theorem dX6_isAsSeen_40 : decode cX6_isAsSeen 40 = .ok (.istore 5, 2) := by decide +kernel
theorem dX6_isAsSeen_42 : decode cX6_isAsSeen 42 = .ok (.iload 5, 2) := by decide +kernel
theorem dX6_isAsSeen_44 : decode cX6_isAsSeen 44 = .ok (.aload_n 0, 1) := by decide +kernel
theorem dX6_isAsSeen_45 : decode cX6_isAsSeen 45 = .ok (.getfield 117, 3) := by decide +kernel
theorem dX6_isAsSeen_48 : decode cX6_isAsSeen 48 = .ok (.if_icmp .ge 95, 3) := by decide +kernel
theorem dX6_isAsSeen_51 : decode cX6_isAsSeen 51 = .ok (.aload_n 0, 1) := by decide +kernel
theorem dX6_isAsSeen_52 : decode cX6_isAsSeen 52 = .ok (.getfield 29, 3) := by decide +kernel
theorem dX6_isAsSeen_55 : decode cX6_isAsSeen 55 = .ok (.iconst 3, 1) := by decide +kernel
theorem dX6_isAsSeen_56 : decode cX6_isAsSeen 56 = .ok (.iload 5, 2) := by decide +kernel
theorem dX6_isAsSeen_58 : decode cX6_isAsSeen 58 = .ok (.imul, 1) := by decide +kernel
theorem dX6_isAsSeen_59 : decode cX6_isAsSeen 59 = .ok (.iconst 1, 1) := by decide +kernel
theorem dX6_isAsSeen_60 : decode cX6_isAsSeen 60 = .ok (.iadd, 1) := by decide +kernel
theorem dX6_isAsSeen_61 : decode cX6_isAsSeen 61 = .ok (.iaload, 1) := by decide +kernel
theorem dX6_isAsSeen_62 : decode cX6_isAsSeen 62 = .ok (.istore 6, 2) := by decide +kernel
theorem dX6_isAsSeen_64 : decode cX6_isAsSeen 64 = .ok (.iload 6, 2) := by decide +kernel
theorem dX6_isAsSeen_66 : decode cX6_isAsSeen 66 = .ok (.aload_n 0, 1) := by decide +kernel
theorem dX6_isAsSeen_67 : decode cX6_isAsSeen 67 = .ok (.getfield 7, 3) := by decide +kernel
theorem dX6_isAsSeen_70 : decode cX6_isAsSeen 70 = .ok (.bipush 35, 2) := by decide +kernel
theorem dX6_isAsSeen_72 : decode cX6_isAsSeen 72 = .ok (.iaload, 1) := by decide +kernel
theorem dX6_isAsSeen_73 : decode cX6_isAsSeen 73 = .ok (.if_icmp .ge 32, 3) := by decide +kernel
theorem dX6_isAsSeen_76 : decode cX6_isAsSeen 76 = .ok (.aload_n 0, 1) := by decide +kernel
theorem dX6_isAsSeen_77 : decode cX6_isAsSeen 77 = .ok (.getfield 7, 3) := by decide +kernel
theorem dX6_isAsSeen_80 : decode cX6_isAsSeen 80 = .ok (.sipush 179, 3) := by decide +kernel
theorem dX6_isAsSeen_83 : decode cX6_isAsSeen 83 = .ok (.iload 6, 2) := by decide +kernel
theorem dX6_isAsSeen_85 : decode cX6_isAsSeen 85 = .ok (.iadd, 1) := by decide +kernel
theorem dX6_isAsSeen_86 : decode cX6_isAsSeen 86 = .ok (.iaload, 1) := by decide +kernel
theorem dX6_isAsSeen_87 : decode cX6_isAsSeen 87 = .ok (.aload_n 0, 1) := by decide +kernel
theorem dX6_isAsSeen_88 : decode cX6_isAsSeen 88 = .ok (.getfield 29, 3) := by decide +kernel
theorem dX6_isAsSeen_91 : decode cX6_isAsSeen 91 = .ok (.iconst 3, 1) := by decide +kernel
theorem dX6_isAsSeen_92 : decode cX6_isAsSeen 92 = .ok (.iload 5, 2) := by decide +kernel
theorem dX6_isAsSeen_94 : decode cX6_isAsSeen 94 = .ok (.imul, 1) := by decide +kernel
theorem dX6_isAsSeen_95 : decode cX6_isAsSeen 95 = .ok (.iconst 2, 1) := by decide +kernel
theorem dX6_isAsSeen_96 : decode cX6_isAsSeen 96 = .ok (.iadd, 1) := by decide +kernel
theorem dX6_isAsSeen_97 : decode cX6_isAsSeen 97 = .ok (.iaload, 1) := by decide +kernel
theorem dX6_isAsSeen_98 : decode cX6_isAsSeen 98 = .ok (.if_icmp .ne 7, 3) := by decide +kernel
theorem dX6_isAsSeen_101 : decode cX6_isAsSeen 101 = .ok (.iconst 1, 1) := by decide +kernel
theorem dX6_isAsSeen_102 : decode cX6_isAsSeen 102 = .ok (.goto 4, 3) := by decide +kernel
theorem dX6_isAsSeen_105 : decode cX6_isAsSeen 105 = .ok (.iconst 0, 1) := by decide +kernel
theorem dX6_isAsSeen_106 : decode cX6_isAsSeen 106 = .ok (.istore 7, 2) := by decide +kernel
theorem dX6_isAsSeen_108 : decode cX6_isAsSeen 108 = .ok (.iload_n 3, 1) := by decide +kernel
theorem dX6_isAsSeen_109 : decode cX6_isAsSeen 109 = .ok (.ifCond .eq 26, 3) := by decide +kernel
theorem dX6_isAsSeen_112 : decode cX6_isAsSeen 112 = .ok (.aload_n 0, 1) := by decide +kernel
theorem dX6_isAsSeen_113 : decode cX6_isAsSeen 113 = .ok (.getfield 29, 3) := by decide +kernel
theorem dX6_isAsSeen_116 : decode cX6_isAsSeen 116 = .ok (.iconst 3, 1) := by decide +kernel
theorem dX6_isAsSeen_117 : decode cX6_isAsSeen 117 = .ok (.iload 5, 2) := by decide +kernel
theorem dX6_isAsSeen_119 : decode cX6_isAsSeen 119 = .ok (.imul, 1) := by decide +kernel
theorem dX6_isAsSeen_120 : decode cX6_isAsSeen 120 = .ok (.iaload, 1) := by decide +kernel
theorem dX6_isAsSeen_121 : decode cX6_isAsSeen 121 = .ok (.iload 4, 2) := by decide +kernel
theorem dX6_isAsSeen_123 : decode cX6_isAsSeen 123 = .ok (.if_icmp .ne 8, 3) := by decide +kernel
theorem dX6_isAsSeen_126 : decode cX6_isAsSeen 126 = .ok (.iload 7, 2) := by decide +kernel
theorem dX6_isAsSeen_128 : decode cX6_isAsSeen 128 = .ok (.ifCond .eq 7, 3) := by decide +kernel
theorem dX6_isAsSeen_131 : decode cX6_isAsSeen 131 = .ok (.iconst 1, 1) := by decide +kernel
theorem dX6_isAsSeen_132 : decode cX6_isAsSeen 132 = .ok (.goto 4, 3) := by decide +kernel
theorem dX6_isAsSeen_135 : decode cX6_isAsSeen 135 = .ok (.iconst 0, 1) := by decide +kernel
theorem dX6_isAsSeen_136 : decode cX6_isAsSeen 136 = .ok (.istore_n 3, 1) := by decide +kernel
theorem dX6_isAsSeen_137 : decode cX6_isAsSeen 137 = .ok (.iinc 5 1, 3) := by decide +kernel
theorem dX6_isAsSeen_140 : decode cX6_isAsSeen 140 = .ok (.goto (-98), 3) := by decide +kernel
theorem dX6_isAsSeen_143 : decode cX6_isAsSeen 143 = .ok (.aload_n 0, 1) := by decide +kernel
theorem dX6_isAsSeen_144 : decode cX6_isAsSeen 144 = .ok (.sipush 148, 3) := by decide +kernel
theorem dX6_isAsSeen_147 : decode cX6_isAsSeen 147 = .ok (.iconst 0, 1) := by decide +kernel
theorem dX6_isAsSeen_148 : decode cX6_isAsSeen 148 = .ok (.invokevirtual 199, 3) := by decide +kernel
theorem dX6_isAsSeen_151 : decode cX6_isAsSeen 151 = .ok (.iinc 4 1, 3) := by decide +kernel
theorem dX6_isAsSeen_154 : decode cX6_isAsSeen 154 = .ok (.goto (-144), 3) := by decide +kernel
theorem dX6_isAsSeen_157 : decode cX6_isAsSeen 157 = .ok (.iload_n 3, 1) := by decide +kernel
theorem dX6_isAsSeen_158 : decode cX6_isAsSeen 158 = .ok (.ireturn, 1) := by decide +kernel
set_option maxRecDepth 20000 in
theorem ggX6_numbersAt_X6_isAsSeen : GoodIn wsX6_numbersAt wsX6_isAsSeen := goodIn_r _ [6, 7, 1, 8, 9, 10, 11, 12, 5, 13, 14, 15, 16, 17, 18, 19, 20, 21, 22, 23, 24, 25, 26, 27, 28, 29, 30, 31, 32, 33, 34, 35, 36, 37, 38, 39, 40, 41, 42, 43, 44, 45, 46, 47, 48, 49, 50, 51, 52, 53, 54, 55, 56, 57, 58, 59, 60, 61, 62, 63, 64, 65, 66, 67, 68, 69, 70, 71, 72, 73, 74] (by decide +kernel) (by decide +kernel)
set_option maxRecDepth 20000 in
theorem gX6_numbersAt_X6_isAsSeen : GoodIn wsX6_numbersAt (wsV RX6 232 RX6 yX6_isAsSeen wsX6_isAsSeen) := goodIn_app (goodIn_of _ (by decide +kernel)) ggX6_numbersAt_X6_isAsSeen
theorem dX6_numbersAt_0 : decode cX6_numbersAt 0 = .ok (.aload_n 0, 1) := by decide +kernel
theorem dX6_numbersAt_1 : decode cX6_numbersAt 1 = .ok (.getfield 7, 3) := by decide +kernel
theorem dX6_numbersAt_4 : decode cX6_numbersAt 4 = .ok (.iload_n 1, 1) := by decide +kernel
theorem dX6_numbersAt_5 : decode cX6_numbersAt 5 = .ok (.iaload, 1) := by decide +kernel
theorem dX6_numbersAt_6 : decode cX6_numbersAt 6 = .ok (.istore 5, 2) := by decide +kernel
theorem dX6_numbersAt_8 : decode cX6_numbersAt 8 = .ok (.iconst 0, 1) := by decide +kernel
theorem dX6_numbersAt_9 : decode cX6_numbersAt 9 = .ok (.istore 6, 2) := by decide +kernel
theorem dX6_numbersAt_11 : decode cX6_numbersAt 11 = .ok (.iload_n 3, 1) := by decide +kernel
theorem dX6_numbersAt_12 : decode cX6_numbersAt 12 = .ok (.istore 7, 2) := by decide +kernel
theorem dX6_numbersAt_14 : decode cX6_numbersAt 14 = .ok (.iload 7, 2) := by decide +kernel
theorem dX6_numbersAt_16 : decode cX6_numbersAt 16 = .ok (.iload 4, 2) := by decide +kernel
theorem dX6_numbersAt_18 : decode cX6_numbersAt 18 = .ok (.if_icmp .gt 40, 3) := by decide +kernel
theorem dX6_numbersAt_21 : decode cX6_numbersAt 21 = .ok (.aload_n 0, 1) := by decide +kernel
theorem dX6_numbersAt_22 : decode cX6_numbersAt 22 = .ok (.getfield 7, 3) := by decide +kernel
theorem dX6_numbersAt_25 : decode cX6_numbersAt 25 = .ok (.iload_n 1, 1) := by decide +kernel
theorem dX6_numbersAt_26 : decode cX6_numbersAt 26 = .ok (.iload 7, 2) := by decide +kernel
theorem dX6_numbersAt_28 : decode cX6_numbersAt 28 = .ok (.iastore, 1) := by decide +kernel
theorem dX6_numbersAt_29 : decode cX6_numbersAt 29 = .ok (.iload 6, 2) := by decide +kernel
theorem dX6_numbersAt_31 : decode cX6_numbersAt 31 = .ok (.aload_n 0, 1) := by decide +kernel
theorem dX6_numbersAt_32 : decode cX6_numbersAt 32 = .ok (.iload 7, 2) := by decide +kernel
theorem dX6_numbersAt_34 : decode cX6_numbersAt 34 = .ok (.iload_n 2, 1) := by decide +kernel
theorem dX6_numbersAt_35 : decode cX6_numbersAt 35 = .ok (.invokevirtual 232, 3) := by decide +kernel
theorem dX6_numbersAt_38 : decode cX6_numbersAt 38 = .ok (.ifCond .eq 10, 3) := by decide +kernel
theorem dX6_numbersAt_41 : decode cX6_numbersAt 41 = .ok (.iconst 1, 1) := by decide +kernel
theorem dX6_numbersAt_42 : decode cX6_numbersAt 42 = .ok (.iload 7, 2) := by decide +kernel
theorem dX6_numbersAt_44 : decode cX6_numbersAt 44 = .ok (.ishl, 1) := by decide +kernel
theorem dX6_numbersAt_45 : decode cX6_numbersAt 45 = .ok (.goto 4, 3) := by decide +kernel
theorem dX6_numbersAt_48 : decode cX6_numbersAt 48 = .ok (.iconst 0, 1) := by decide +kernel
theorem dX6_numbersAt_49 : decode cX6_numbersAt 49 = .ok (.ior, 1) := by decide +kernel
theorem dX6_numbersAt_50 : decode cX6_numbersAt 50 = .ok (.istore 6, 2) := by decide +kernel
theorem dX6_numbersAt_52 : decode cX6_numbersAt 52 = .ok (.iinc 7 1, 3) := by decide +kernel
theorem dX6_numbersAt_55 : decode cX6_numbersAt 55 = .ok (.goto (-41), 3) := by decide +kernel
theorem dX6_numbersAt_58 : decode cX6_numbersAt 58 = .ok (.aload_n 0, 1) := by decide +kernel
theorem dX6_numbersAt_59 : decode cX6_numbersAt 59 = .ok (.getfield 7, 3) := by decide +kernel
theorem dX6_numbersAt_62 : decode cX6_numbersAt 62 = .ok (.iload_n 1, 1) := by decide +kernel
theorem dX6_numbersAt_63 : decode cX6_numbersAt 63 = .ok (.iload 5, 2) := by decide +kernel
theorem dX6_numbersAt_65 : decode cX6_numbersAt 65 = .ok (.iastore, 1) := by decide +kernel
theorem dX6_numbersAt_66 : decode cX6_numbersAt 66 = .ok (.iload 6, 2) := by decide +kernel
theorem dX6_numbersAt_68 : decode cX6_numbersAt 68 = .ok (.ireturn, 1) := by decide +kernel
set_option maxRecDepth 20000 in
theorem ggX6_kinds_X6_isWheel : GoodIn wsX6_kinds wsX6_isWheel := goodIn_r _ [5, 6, 7, 8, 4, 9, 60, 61, 62, 63, 64, 65, 66, 67, 68, 69, 70, 71, 72, 73, 74, 75, 76, 77, 78, 79, 80, 81, 82, 83, 84, 85] (by decide +kernel) (by decide +kernel)
set_option maxRecDepth 20000 in
theorem gX6_kinds_X6_isWheel : GoodIn wsX6_kinds (wsV RX6 165 RX6 yX6_isWheel wsX6_isWheel) := goodIn_app (goodIn_of _ (by decide +kernel)) ggX6_kinds_X6_isWheel
set_option maxRecDepth 20000 in
theorem ggX6_kinds_X6_numbersAt : GoodIn wsX6_kinds wsX6_numbersAt := goodIn_r _ [13, 6, 14, 15, 16, 4, 17, 18, 19, 20, 21, 22, 23, 24, 25, 26, 27, 28, 29, 30, 31, 32, 33, 34, 35, 36, 37, 38, 39, 40, 41, 42, 43, 44, 45, 46, 47, 48, 49, 50, 51, 52, 53, 54, 55, 56, 57, 58, 59, 60, 61, 62, 63, 64, 65, 66, 67, 68, 69, 70, 71, 72, 73, 74, 75, 76, 77, 78, 79, 80, 81, 82, 83, 84, 85] (by decide +kernel) (by decide +kernel)
set_option maxRecDepth 20000 in
theorem gX6_kinds_X6_numbersAt : GoodIn wsX6_kinds (wsV RX6 235 RX6 yX6_numbersAt wsX6_numbersAt) := goodIn_app (goodIn_of _ (by decide +kernel)) ggX6_kinds_X6_numbersAt
theorem dX6_kinds_0 : decode cX6_kinds 0 = .ok (.aload_n 0, 1) := by decide +kernel
theorem dX6_kinds_1 : decode cX6_kinds 1 = .ok (.iload_n 1, 1) := by decide +kernel
theorem dX6_kinds_2 : decode cX6_kinds 2 = .ok (.invokevirtual 165, 3) := by decide +kernel
theorem dX6_kinds_5 : decode cX6_kinds 5 = .ok (.ifCond .eq 17, 3) := by decide +kernel
theorem dX6_kinds_8 : decode cX6_kinds 8 = .ok (.aload_n 0, 1) := by decide +kernel
theorem dX6_kinds_9 : decode cX6_kinds 9 = .ok (.bipush 23, 2) := by decide +kernel
theorem dX6_kinds_11 : decode cX6_kinds 11 = .ok (.iload_n 1, 1) := by decide +kernel
theorem dX6_kinds_12 : decode cX6_kinds 12 = .ok (.iadd, 1) := by decide +kernel
theorem dX6_kinds_13 : decode cX6_kinds 13 = .ok (.iload_n 1, 1) := by decide +kernel
theorem dX6_kinds_14 : decode cX6_kinds 14 = .ok (.iconst 0, 1) := by decide +kernel
theorem dX6_kinds_15 : decode cX6_kinds 15 = .ok (.iconst 3, 1) := by decide +kernel
theorem dX6_kinds_16 : decode cX6_kinds 16 = .ok (.invokevirtual 235, 3) := by decide +kernel
theorem dX6_kinds_19 : decode cX6_kinds 19 = .ok (.goto 4, 3) := by decide +kernel
theorem dX6_kinds_22 : decode cX6_kinds 22 = .ok (.iconst (-1), 1) := by decide +kernel
theorem dX6_kinds_23 : decode cX6_kinds 23 = .ok (.ireturn, 1) := by decide +kernel
set_option maxRecDepth 20000 in
theorem ggX6_steps_X6_isWheel : GoodIn wsX6_steps wsX6_isWheel := goodIn_r _ [5, 6, 7, 8, 4, 9, 60, 61, 62, 63, 64, 65, 66, 67, 68, 69, 70, 71, 72, 73, 74, 75, 76, 77, 78, 79, 80, 81, 82, 83, 84, 85] (by decide +kernel) (by decide +kernel)
set_option maxRecDepth 20000 in
theorem gX6_steps_X6_isWheel : GoodIn wsX6_steps (wsV RX6 165 RX6 yX6_isWheel wsX6_isWheel) := goodIn_app (goodIn_of _ (by decide +kernel)) ggX6_steps_X6_isWheel
set_option maxRecDepth 20000 in
theorem ggX6_steps_X6_numbersAt : GoodIn wsX6_steps wsX6_numbersAt := goodIn_r _ [13, 6, 14, 15, 16, 4, 17, 18, 19, 20, 21, 22, 23, 24, 25, 26, 27, 28, 29, 30, 31, 32, 33, 34, 35, 36, 37, 38, 39, 40, 41, 42, 43, 44, 45, 46, 47, 48, 49, 50, 51, 52, 53, 54, 55, 56, 57, 58, 59, 60, 61, 62, 63, 64, 65, 66, 67, 68, 69, 70, 71, 72, 73, 74, 75, 76, 77, 78, 79, 80, 81, 82, 83, 84, 85] (by decide +kernel) (by decide +kernel)
set_option maxRecDepth 20000 in
theorem gX6_steps_X6_numbersAt : GoodIn wsX6_steps (wsV RX6 235 RX6 yX6_numbersAt wsX6_numbersAt) := goodIn_app (goodIn_of _ (by decide +kernel)) ggX6_steps_X6_numbersAt
theorem dX6_steps_0 : decode cX6_steps 0 = .ok (.aload_n 0, 1) := by decide +kernel
theorem dX6_steps_1 : decode cX6_steps 1 = .ok (.iload_n 1, 1) := by decide +kernel
theorem dX6_steps_2 : decode cX6_steps 2 = .ok (.invokevirtual 165, 3) := by decide +kernel
theorem dX6_steps_5 : decode cX6_steps 5 = .ok (.ifCond .eq 18, 3) := by decide +kernel
theorem dX6_steps_8 : decode cX6_steps 8 = .ok (.aload_n 0, 1) := by decide +kernel
theorem dX6_steps_9 : decode cX6_steps 9 = .ok (.bipush 27, 2) := by decide +kernel
theorem dX6_steps_11 : decode cX6_steps 11 = .ok (.iload_n 1, 1) := by decide +kernel
theorem dX6_steps_12 : decode cX6_steps 12 = .ok (.iadd, 1) := by decide +kernel
theorem dX6_steps_13 : decode cX6_steps 13 = .ok (.iload_n 1, 1) := by decide +kernel
theorem dX6_steps_14 : decode cX6_steps 14 = .ok (.iconst 1, 1) := by decide +kernel
theorem dX6_steps_15 : decode cX6_steps 15 = .ok (.bipush 9, 2) := by decide +kernel
theorem dX6_steps_17 : decode cX6_steps 17 = .ok (.invokevirtual 235, 3) := by decide +kernel
theorem dX6_steps_20 : decode cX6_steps 20 = .ok (.goto 4, 3) := by decide +kernel
theorem dX6_steps_23 : decode cX6_steps 23 = .ok (.iconst (-1), 1) := by decide +kernel
theorem dX6_steps_24 : decode cX6_steps 24 = .ok (.ireturn, 1) := by decide +kernel
theorem dX6_worstAt_0 : decode cX6_worstAt 0 = .ok (.iconst 0, 1) := by decide +kernel
theorem dX6_worstAt_1 : decode cX6_worstAt 1 = .ok (.istore_n 3, 1) := by decide +kernel
theorem dX6_worstAt_2 : decode cX6_worstAt 2 = .ok (.iconst 1, 1) := by decide +kernel
theorem dX6_worstAt_3 : decode cX6_worstAt 3 = .ok (.istore 4, 2) := by decide +kernel
theorem dX6_worstAt_5 : decode cX6_worstAt 5 = .ok (.iload 4, 2) := by decide +kernel
theorem dX6_worstAt_7 : decode cX6_worstAt 7 = .ok (.bipush 9, 2) := by decide +kernel
theorem dX6_worstAt_9 : decode cX6_worstAt 9 = .ok (.if_icmp .gt 98, 3) := by decide +kernel
theorem dX6_worstAt_12 : decode cX6_worstAt 12 = .ok (.iconst 0, 1) := by decide +kernel
theorem dX6_worstAt_13 : decode cX6_worstAt 13 = .ok (.istore 5, 2) := by decide +kernel
theorem dX6_worstAt_15 : decode cX6_worstAt 15 = .ok (.iconst 1, 1) := by decide +kernel
theorem dX6_worstAt_16 : decode cX6_worstAt 16 = .ok (.istore 6, 2) := by decide +kernel
theorem dX6_worstAt_18 : decode cX6_worstAt 18 = .ok (.iload 6, 2) := by decide +kernel
theorem dX6_worstAt_20 : decode cX6_worstAt 20 = .ok (.bipush 9, 2) := by decide +kernel
theorem dX6_worstAt_22 : decode cX6_worstAt 22 = .ok (.if_icmp .gt 66, 3) := by decide +kernel
theorem dX6_worstAt_25 : decode cX6_worstAt 25 = .ok (.iload_n 1, 1) := by decide +kernel
theorem dX6_worstAt_26 : decode cX6_worstAt 26 = .ok (.iload 4, 2) := by decide +kernel
theorem dX6_worstAt_28 : decode cX6_worstAt 28 = .ok (.ishr, 1) := by decide +kernel
theorem dX6_worstAt_29 : decode cX6_worstAt 29 = .ok (.iconst 1, 1) := by decide +kernel
theorem dX6_worstAt_30 : decode cX6_worstAt 30 = .ok (.iand, 1) := by decide +kernel
theorem dX6_worstAt_31 : decode cX6_worstAt 31 = .ok (.iconst 1, 1) := by decide +kernel
theorem dX6_worstAt_32 : decode cX6_worstAt 32 = .ok (.if_icmp .ne 56, 3) := by decide +kernel
theorem dX6_worstAt_35 : decode cX6_worstAt 35 = .ok (.iload 5, 2) := by decide +kernel
theorem dX6_worstAt_37 : decode cX6_worstAt 37 = .ok (.iload_n 1, 1) := by decide +kernel
theorem dX6_worstAt_38 : decode cX6_worstAt 38 = .ok (.iload 6, 2) := by decide +kernel
theorem dX6_worstAt_40 : decode cX6_worstAt 40 = .ok (.ishr, 1) := by decide +kernel
theorem dX6_worstAt_41 : decode cX6_worstAt 41 = .ok (.iconst 1, 1) := by decide +kernel
theorem dX6_worstAt_42 : decode cX6_worstAt 42 = .ok (.iand, 1) := by decide +kernel
theorem dX6_worstAt_43 : decode cX6_worstAt 43 = .ok (.iconst 1, 1) := by decide +kernel
theorem dX6_worstAt_44 : decode cX6_worstAt 44 = .ok (.if_icmp .ne 34, 3) := by decide +kernel
theorem dX6_worstAt_47 : decode cX6_worstAt 47 = .ok (.aload_n 0, 1) := by decide +kernel
theorem dX6_worstAt_48 : decode cX6_worstAt 48 = .ok (.getfield 32, 3) := by decide +kernel
theorem dX6_worstAt_51 : decode cX6_worstAt 51 = .ok (.bipush 41, 2) := by decide +kernel
theorem dX6_worstAt_53 : decode cX6_worstAt 53 = .ok (.iload 4, 2) := by decide +kernel
theorem dX6_worstAt_55 : decode cX6_worstAt 55 = .ok (.imul, 1) := by decide +kernel
theorem dX6_worstAt_56 : decode cX6_worstAt 56 = .ok (.iload_n 2, 1) := by decide +kernel
theorem dX6_worstAt_57 : decode cX6_worstAt 57 = .ok (.iadd, 1) := by decide +kernel
theorem dX6_worstAt_58 : decode cX6_worstAt 58 = .ok (.iaload, 1) := by decide +kernel
theorem dX6_worstAt_59 : decode cX6_worstAt 59 = .ok (.aload_n 0, 1) := by decide +kernel
theorem dX6_worstAt_60 : decode cX6_worstAt 60 = .ok (.getfield 32, 3) := by decide +kernel
theorem dX6_worstAt_63 : decode cX6_worstAt 63 = .ok (.bipush 41, 2) := by decide +kernel
theorem dX6_worstAt_65 : decode cX6_worstAt 65 = .ok (.iload 6, 2) := by decide +kernel
theorem dX6_worstAt_67 : decode cX6_worstAt 67 = .ok (.imul, 1) := by decide +kernel
theorem dX6_worstAt_68 : decode cX6_worstAt 68 = .ok (.iload_n 2, 1) := by decide +kernel
theorem dX6_worstAt_69 : decode cX6_worstAt 69 = .ok (.iadd, 1) := by decide +kernel
theorem dX6_worstAt_70 : decode cX6_worstAt 70 = .ok (.iaload, 1) := by decide +kernel
theorem dX6_worstAt_71 : decode cX6_worstAt 71 = .ok (.if_icmp .ne 7, 3) := by decide +kernel
theorem dX6_worstAt_74 : decode cX6_worstAt 74 = .ok (.iconst 1, 1) := by decide +kernel
theorem dX6_worstAt_75 : decode cX6_worstAt 75 = .ok (.goto 4, 3) := by decide +kernel
theorem dX6_worstAt_78 : decode cX6_worstAt 78 = .ok (.iconst 0, 1) := by decide +kernel
theorem dX6_worstAt_79 : decode cX6_worstAt 79 = .ok (.iadd, 1) := by decide +kernel
theorem dX6_worstAt_80 : decode cX6_worstAt 80 = .ok (.istore 5, 2) := by decide +kernel
theorem dX6_worstAt_82 : decode cX6_worstAt 82 = .ok (.iinc 6 1, 3) := by decide +kernel
theorem dX6_worstAt_85 : decode cX6_worstAt 85 = .ok (.goto (-67), 3) := by decide +kernel
theorem dX6_worstAt_88 : decode cX6_worstAt 88 = .ok (.iload 5, 2) := by decide +kernel
theorem dX6_worstAt_90 : decode cX6_worstAt 90 = .ok (.iload_n 3, 1) := by decide +kernel
theorem dX6_worstAt_91 : decode cX6_worstAt 91 = .ok (.if_icmp .le 8, 3) := by decide +kernel
theorem dX6_worstAt_94 : decode cX6_worstAt 94 = .ok (.iload 5, 2) := by decide +kernel
theorem dX6_worstAt_96 : decode cX6_worstAt 96 = .ok (.goto 4, 3) := by decide +kernel
theorem dX6_worstAt_99 : decode cX6_worstAt 99 = .ok (.iload_n 3, 1) := by decide +kernel
theorem dX6_worstAt_100 : decode cX6_worstAt 100 = .ok (.istore_n 3, 1) := by decide +kernel
theorem dX6_worstAt_101 : decode cX6_worstAt 101 = .ok (.iinc 4 1, 3) := by decide +kernel
theorem dX6_worstAt_104 : decode cX6_worstAt 104 = .ok (.goto (-99), 3) := by decide +kernel
theorem dX6_worstAt_107 : decode cX6_worstAt 107 = .ok (.iload_n 3, 1) := by decide +kernel
theorem dX6_worstAt_108 : decode cX6_worstAt 108 = .ok (.ireturn, 1) := by decide +kernel
set_option maxRecDepth 20000 in
theorem ggX6_ask_X6_isWheel : GoodIn wsX6_ask wsX6_isWheel := goodIn_r _ [5, 6, 7, 8, 4, 9, 64, 65, 66, 67, 68, 69, 70, 71, 72, 73, 74, 75, 76, 77, 78, 79, 80, 81, 82, 83, 84, 85, 86, 87, 88, 89] (by decide +kernel) (by decide +kernel)
set_option maxRecDepth 20000 in
theorem gX6_ask_X6_isWheel : GoodIn wsX6_ask (wsV RX6 165 RX6 yX6_isWheel wsX6_isWheel) := goodIn_app (goodIn_of _ (by decide +kernel)) ggX6_ask_X6_isWheel
set_option maxRecDepth 20000 in
theorem ggX6_ask_X6_in : GoodIn wsX6_ask wsX6_in := goodIn_r _ [9] (by decide +kernel) (by decide +kernel)
set_option maxRecDepth 20000 in
theorem gX6_ask_X6_in : GoodIn wsX6_ask (va_wsS RX6 50 yX6_in wsX6_in) := goodIn_app (goodIn_of _ (by decide +kernel)) ggX6_ask_X6_in
set_option maxRecDepth 20000 in
theorem ggX6_ask_X6_numbersAt : GoodIn wsX6_ask wsX6_numbersAt := goodIn_r _ [13, 6, 14, 15, 16, 4, 17, 18, 19, 20, 21, 22, 23, 24, 25, 26, 27, 28, 29, 30, 31, 32, 33, 34, 35, 36, 37, 38, 39, 40, 41, 42, 43, 44, 45, 46, 47, 48, 49, 50, 51, 52, 53, 54, 55, 56, 57, 58, 59, 64, 65, 66, 67, 68, 69, 70, 71, 72, 73, 74, 75, 76, 77, 78, 79, 80, 81, 82, 83, 84, 85, 86, 87, 88, 89] (by decide +kernel) (by decide +kernel)
set_option maxRecDepth 20000 in
theorem gX6_ask_X6_numbersAt : GoodIn wsX6_ask (wsV RX6 235 RX6 yX6_numbersAt wsX6_numbersAt) := goodIn_app (goodIn_of _ (by decide +kernel)) ggX6_ask_X6_numbersAt
set_option maxRecDepth 20000 in
theorem ggX6_ask_X6_worstAt : GoodIn wsX6_ask wsX6_worstAt := goodIn_r _ [63, 18, 64, 65, 66, 67, 68, 69, 70, 71, 72, 73, 74, 75, 76, 77, 78, 79, 80, 81, 82, 83, 84, 85, 86, 87, 88, 89] (by decide +kernel) (by decide +kernel)
set_option maxRecDepth 20000 in
theorem gX6_ask_X6_worstAt : GoodIn wsX6_ask (wsV RX6 238 RX6 yX6_worstAt wsX6_worstAt) := goodIn_app (goodIn_of _ (by decide +kernel)) ggX6_ask_X6_worstAt
theorem dX6_ask_0 : decode cX6_ask 0 = .ok (.aload_n 0, 1) := by decide +kernel
theorem dX6_ask_1 : decode cX6_ask 1 = .ok (.iload_n 1, 1) := by decide +kernel
theorem dX6_ask_2 : decode cX6_ask 2 = .ok (.invokevirtual 165, 3) := by decide +kernel
theorem dX6_ask_5 : decode cX6_ask 5 = .ok (.ifCond .eq 13, 3) := by decide +kernel
theorem dX6_ask_8 : decode cX6_ask 8 = .ok (.iload_n 2, 1) := by decide +kernel
theorem dX6_ask_9 : decode cX6_ask 9 = .ok (.i2l, 1) := by decide +kernel
theorem dX6_ask_10 : decode cX6_ask 10 = .ok (.lconst 0, 1) := by decide +kernel
theorem dX6_ask_11 : decode cX6_ask 11 = .ok (.lconst 1, 1) := by decide +kernel
theorem dX6_ask_12 : decode cX6_ask 12 = .ok (.invokestatic 50, 3) := by decide +kernel
theorem dX6_ask_15 : decode cX6_ask 15 = .ok (.ifCond .ne 5, 3) := by decide +kernel
theorem dX6_ask_18 : decode cX6_ask 18 = .ok (.iconst (-1), 1) := by decide +kernel
theorem dX6_ask_19 : decode cX6_ask 19 = .ok (.ireturn, 1) := by decide +kernel
theorem dX6_ask_20 : decode cX6_ask 20 = .ok (.aload_n 0, 1) := by decide +kernel
theorem dX6_ask_21 : decode cX6_ask 21 = .ok (.bipush 27, 2) := by decide +kernel
theorem dX6_ask_23 : decode cX6_ask 23 = .ok (.iload_n 1, 1) := by decide +kernel
theorem dX6_ask_24 : decode cX6_ask 24 = .ok (.iadd, 1) := by decide +kernel
theorem dX6_ask_25 : decode cX6_ask 25 = .ok (.iload_n 1, 1) := by decide +kernel
theorem dX6_ask_26 : decode cX6_ask 26 = .ok (.iconst 1, 1) := by decide +kernel
theorem dX6_ask_27 : decode cX6_ask 27 = .ok (.bipush 9, 2) := by decide +kernel
theorem dX6_ask_29 : decode cX6_ask 29 = .ok (.invokevirtual 235, 3) := by decide +kernel
theorem dX6_ask_32 : decode cX6_ask 32 = .ok (.istore_n 3, 1) := by decide +kernel
theorem dX6_ask_33 : decode cX6_ask 33 = .ok (.iconst 0, 1) := by decide +kernel
theorem dX6_ask_34 : decode cX6_ask 34 = .ok (.istore 4, 2) := by decide +kernel
theorem dX6_ask_36 : decode cX6_ask 36 = .ok (.iconst 1, 1) := by decide +kernel
theorem dX6_ask_37 : decode cX6_ask 37 = .ok (.istore 5, 2) := by decide +kernel
theorem dX6_ask_39 : decode cX6_ask 39 = .ok (.iload 5, 2) := by decide +kernel
theorem dX6_ask_41 : decode cX6_ask 41 = .ok (.bipush 9, 2) := by decide +kernel
theorem dX6_ask_43 : decode cX6_ask 43 = .ok (.if_icmp .gt 20, 3) := by decide +kernel
theorem dX6_ask_46 : decode cX6_ask 46 = .ok (.iload 4, 2) := by decide +kernel
theorem dX6_ask_48 : decode cX6_ask 48 = .ok (.iload_n 3, 1) := by decide +kernel
theorem dX6_ask_49 : decode cX6_ask 49 = .ok (.iload 5, 2) := by decide +kernel
theorem dX6_ask_51 : decode cX6_ask 51 = .ok (.ishr, 1) := by decide +kernel
theorem dX6_ask_52 : decode cX6_ask 52 = .ok (.iconst 1, 1) := by decide +kernel
theorem dX6_ask_53 : decode cX6_ask 53 = .ok (.iand, 1) := by decide +kernel
theorem dX6_ask_54 : decode cX6_ask 54 = .ok (.iadd, 1) := by decide +kernel
theorem dX6_ask_55 : decode cX6_ask 55 = .ok (.istore 4, 2) := by decide +kernel
theorem dX6_ask_57 : decode cX6_ask 57 = .ok (.iinc 5 1, 3) := by decide +kernel
theorem dX6_ask_60 : decode cX6_ask 60 = .ok (.goto (-21), 3) := by decide +kernel
theorem dX6_ask_63 : decode cX6_ask 63 = .ok (.bipush (-4), 2) := by decide +kernel
theorem dX6_ask_65 : decode cX6_ask 65 = .ok (.istore 5, 2) := by decide +kernel
theorem dX6_ask_67 : decode cX6_ask 67 = .ok (.iconst 0, 1) := by decide +kernel
theorem dX6_ask_68 : decode cX6_ask 68 = .ok (.istore 6, 2) := by decide +kernel
theorem dX6_ask_70 : decode cX6_ask 70 = .ok (.iload 6, 2) := by decide +kernel
theorem dX6_ask_72 : decode cX6_ask 72 = .ok (.bipush 40, 2) := by decide +kernel
theorem dX6_ask_74 : decode cX6_ask 74 = .ok (.if_icmp .gt 50, 3) := by decide +kernel
theorem dX6_ask_77 : decode cX6_ask 77 = .ok (.aload_n 0, 1) := by decide +kernel
theorem dX6_ask_78 : decode cX6_ask 78 = .ok (.iload_n 3, 1) := by decide +kernel
theorem dX6_ask_79 : decode cX6_ask 79 = .ok (.iload 6, 2) := by decide +kernel
theorem dX6_ask_81 : decode cX6_ask 81 = .ok (.invokevirtual 238, 3) := by decide +kernel
theorem dX6_ask_84 : decode cX6_ask 84 = .ok (.istore 7, 2) := by decide +kernel
theorem dX6_ask_86 : decode cX6_ask 86 = .ok (.iload 7, 2) := by decide +kernel
theorem dX6_ask_88 : decode cX6_ask 88 = .ok (.iload 4, 2) := by decide +kernel
theorem dX6_ask_90 : decode cX6_ask 90 = .ok (.if_icmp .ge 8, 3) := by decide +kernel
theorem dX6_ask_93 : decode cX6_ask 93 = .ok (.iload 6, 2) := by decide +kernel
theorem dX6_ask_95 : decode cX6_ask 95 = .ok (.goto 5, 3) := by decide +kernel
theorem dX6_ask_98 : decode cX6_ask 98 = .ok (.iload 5, 2) := by decide +kernel
theorem dX6_ask_100 : decode cX6_ask 100 = .ok (.istore 5, 2) := by decide +kernel
theorem dX6_ask_102 : decode cX6_ask 102 = .ok (.iload 7, 2) := by decide +kernel
theorem dX6_ask_104 : decode cX6_ask 104 = .ok (.iload 4, 2) := by decide +kernel
theorem dX6_ask_106 : decode cX6_ask 106 = .ok (.if_icmp .ge 8, 3) := by decide +kernel
theorem dX6_ask_109 : decode cX6_ask 109 = .ok (.iload 7, 2) := by decide +kernel
theorem dX6_ask_111 : decode cX6_ask 111 = .ok (.goto 5, 3) := by decide +kernel
theorem dX6_ask_114 : decode cX6_ask 114 = .ok (.iload 4, 2) := by decide +kernel
theorem dX6_ask_116 : decode cX6_ask 116 = .ok (.istore 4, 2) := by decide +kernel
theorem dX6_ask_118 : decode cX6_ask 118 = .ok (.iinc 6 1, 3) := by decide +kernel
theorem dX6_ask_121 : decode cX6_ask 121 = .ok (.goto (-51), 3) := by decide +kernel
theorem dX6_ask_124 : decode cX6_ask 124 = .ok (.iload 5, 2) := by decide +kernel
theorem dX6_ask_126 : decode cX6_ask 126 = .ok (.bipush (-4), 2) := by decide +kernel
theorem dX6_ask_128 : decode cX6_ask 128 = .ok (.if_icmp .eq 7, 3) := by decide +kernel
theorem dX6_ask_131 : decode cX6_ask 131 = .ok (.iload_n 2, 1) := by decide +kernel
theorem dX6_ask_132 : decode cX6_ask 132 = .ok (.ifCond .ne 8, 3) := by decide +kernel
theorem dX6_ask_135 : decode cX6_ask 135 = .ok (.iload 5, 2) := by decide +kernel
theorem dX6_ask_137 : decode cX6_ask 137 = .ok (.goto 5, 3) := by decide +kernel
theorem dX6_ask_140 : decode cX6_ask 140 = .ok (.iload 4, 2) := by decide +kernel
theorem dX6_ask_142 : decode cX6_ask 142 = .ok (.ireturn, 1) := by decide +kernel
set_option maxRecDepth 20000 in
theorem ggX6_drift_X6_in : GoodIn wsX6_drift wsX6_in := goodIn_r _ [9] (by decide +kernel) (by decide +kernel)
set_option maxRecDepth 20000 in
theorem gX6_drift_X6_in : GoodIn wsX6_drift (va_wsS RX6 50 yX6_in wsX6_in) := goodIn_app (goodIn_of _ (by decide +kernel)) ggX6_drift_X6_in
set_option maxRecDepth 20000 in
theorem ggX6_drift_X6_edgesGo : GoodIn wsX6_drift wsX6_edgesGo := goodIn_r _ [13, 14, 15, 16, 8, 17, 2, 18, 19, 20, 21, 5, 22, 23, 24, 25, 26, 27, 28, 29, 30, 31, 32, 33, 34, 35, 36, 37, 38, 39, 40, 41, 42, 43, 44, 45, 46, 47, 48, 49, 50, 51, 52, 53, 54, 55, 56, 57, 58, 59, 60, 61, 62, 63, 64, 65, 66, 67, 68, 69, 70, 71, 72, 73] (by decide +kernel) (by decide +kernel)
set_option maxRecDepth 20000 in
theorem gX6_drift_X6_edgesGo : GoodIn wsX6_drift (wsV RX6 209 RX6 yX6_edgesGo wsX6_edgesGo) := goodIn_app (goodIn_of _ (by decide +kernel)) ggX6_drift_X6_edgesGo
set_option maxRecDepth 20000 in
theorem ggX6_drift_X6_edgeOn : GoodIn wsX6_drift wsX6_edgeOn := goodIn_r _ [32, 2, 5, 22, 24, 33, 34, 35, 8, 36, 37, 38, 39, 40, 41, 42, 43, 44, 45, 46, 47, 48, 49, 50, 51, 52, 53, 54, 55, 56, 57, 58, 59, 60, 61, 62, 63, 64, 65, 66, 67, 68, 69, 70, 71, 72, 73] (by decide +kernel) (by decide +kernel)
set_option maxRecDepth 20000 in
theorem gX6_drift_X6_edgeOn : GoodIn wsX6_drift (wsV RX6 154 RX6 yX6_edgeOn wsX6_edgeOn) := goodIn_app (goodIn_of _ (by decide +kernel)) ggX6_drift_X6_edgeOn
theorem dX6_drift_0 : decode cX6_drift 0 = .ok (.iload_n 2, 1) := by decide +kernel
theorem dX6_drift_1 : decode cX6_drift 1 = .ok (.i2l, 1) := by decide +kernel
theorem dX6_drift_2 : decode cX6_drift 2 = .ok (.lconst 1, 1) := by decide +kernel
theorem dX6_drift_3 : decode cX6_drift 3 = .ok (.ldc2_w 122, 3) := by decide +kernel
theorem dX6_drift_6 : decode cX6_drift 6 = .ok (.invokestatic 50, 3) := by decide +kernel
theorem dX6_drift_9 : decode cX6_drift 9 = .ok (.ifCond .eq 13, 3) := by decide +kernel
theorem dX6_drift_12 : decode cX6_drift 12 = .ok (.iload_n 3, 1) := by decide +kernel
theorem dX6_drift_13 : decode cX6_drift 13 = .ok (.i2l, 1) := by decide +kernel
theorem dX6_drift_14 : decode cX6_drift 14 = .ok (.lconst 0, 1) := by decide +kernel
theorem dX6_drift_15 : decode cX6_drift 15 = .ok (.lconst 1, 1) := by decide +kernel
theorem dX6_drift_16 : decode cX6_drift 16 = .ok (.invokestatic 50, 3) := by decide +kernel
theorem dX6_drift_19 : decode cX6_drift 19 = .ok (.ifCond .ne 5, 3) := by decide +kernel
theorem dX6_drift_22 : decode cX6_drift 22 = .ok (.iconst (-1), 1) := by decide +kernel
theorem dX6_drift_23 : decode cX6_drift 23 = .ok (.ireturn, 1) := by decide +kernel
theorem dX6_drift_24 : decode cX6_drift 24 = .ok (.aload_n 0, 1) := by decide +kernel
theorem dX6_drift_25 : decode cX6_drift 25 = .ok (.getfield 7, 3) := by decide +kernel
theorem dX6_drift_28 : decode cX6_drift 28 = .ok (.bipush 35, 2) := by decide +kernel
theorem dX6_drift_30 : decode cX6_drift 30 = .ok (.iaload, 1) := by decide +kernel
theorem dX6_drift_31 : decode cX6_drift 31 = .ok (.ifCond .eq 13, 3) := by decide +kernel
theorem dX6_drift_34 : decode cX6_drift 34 = .ok (.aload_n 0, 1) := by decide +kernel
theorem dX6_drift_35 : decode cX6_drift 35 = .ok (.getfield 7, 3) := by decide +kernel
theorem dX6_drift_38 : decode cX6_drift 38 = .ok (.bipush 20, 2) := by decide +kernel
theorem dX6_drift_40 : decode cX6_drift 40 = .ok (.iaload, 1) := by decide +kernel
theorem dX6_drift_41 : decode cX6_drift 41 = .ok (.ifCond .ne 6, 3) := by decide +kernel
theorem dX6_drift_44 : decode cX6_drift 44 = .ok (.bipush (-2), 2) := by decide +kernel
theorem dX6_drift_46 : decode cX6_drift 46 = .ok (.ireturn, 1) := by decide +kernel
theorem dX6_drift_47 : decode cX6_drift 47 = .ok (.aload_n 0, 1) := by decide +kernel
theorem dX6_drift_48 : decode cX6_drift 48 = .ok (.iconst 0, 1) := by decide +kernel
theorem dX6_drift_49 : decode cX6_drift 49 = .ok (.invokevirtual 209, 3) := by decide +kernel
theorem dX6_drift_52 : decode cX6_drift 52 = .ok (.iload_n 1, 1) := by decide +kernel
theorem dX6_drift_53 : decode cX6_drift 53 = .ok (.istore 4, 2) := by decide +kernel
theorem dX6_drift_55 : decode cX6_drift 55 = .ok (.iconst 0, 1) := by decide +kernel
theorem dX6_drift_56 : decode cX6_drift 56 = .ok (.istore 5, 2) := by decide +kernel
theorem dX6_drift_58 : decode cX6_drift 58 = .ok (.iload 5, 2) := by decide +kernel
theorem dX6_drift_60 : decode cX6_drift 60 = .ok (.iload_n 2, 1) := by decide +kernel
theorem dX6_drift_61 : decode cX6_drift 61 = .ok (.if_icmp .ge 44, 3) := by decide +kernel
theorem dX6_drift_64 : decode cX6_drift 64 = .ok (.iload 4, 2) := by decide +kernel
theorem dX6_drift_66 : decode cX6_drift 66 = .ok (.ldc 241, 2) := by decide +kernel
theorem dX6_drift_68 : decode cX6_drift 68 = .ok (.imul, 1) := by decide +kernel
theorem dX6_drift_69 : decode cX6_drift 69 = .ok (.sipush 12345, 3) := by decide +kernel
theorem dX6_drift_72 : decode cX6_drift 72 = .ok (.iadd, 1) := by decide +kernel
theorem dX6_drift_73 : decode cX6_drift 73 = .ok (.istore 4, 2) := by decide +kernel
theorem dX6_drift_75 : decode cX6_drift 75 = .ok (.aload_n 0, 1) := by decide +kernel
theorem dX6_drift_76 : decode cX6_drift 76 = .ok (.sipush 148, 3) := by decide +kernel
theorem dX6_drift_79 : decode cX6_drift 79 = .ok (.iload 4, 2) := by decide +kernel
theorem dX6_drift_81 : decode cX6_drift 81 = .ok (.bipush 16, 2) := by decide +kernel
theorem dX6_drift_83 : decode cX6_drift 83 = .ok (.ishr, 1) := by decide +kernel
theorem dX6_drift_84 : decode cX6_drift 84 = .ok (.sipush 32767, 3) := by decide +kernel
theorem dX6_drift_87 : decode cX6_drift 87 = .ok (.iand, 1) := by decide +kernel
theorem dX6_drift_88 : decode cX6_drift 88 = .ok (.aload_n 0, 1) := by decide +kernel
theorem dX6_drift_89 : decode cX6_drift 89 = .ok (.getfield 7, 3) := by decide +kernel
theorem dX6_drift_92 : decode cX6_drift 92 = .ok (.bipush 20, 2) := by decide +kernel
theorem dX6_drift_94 : decode cX6_drift 94 = .ok (.iaload, 1) := by decide +kernel
theorem dX6_drift_95 : decode cX6_drift 95 = .ok (.irem, 1) := by decide +kernel
theorem dX6_drift_96 : decode cX6_drift 96 = .ok (.invokevirtual 154, 3) := by decide +kernel
theorem dX6_drift_99 : decode cX6_drift 99 = .ok (.iinc 5 1, 3) := by decide +kernel
theorem dX6_drift_102 : decode cX6_drift 102 = .ok (.goto (-44), 3) := by decide +kernel
theorem dX6_drift_105 : decode cX6_drift 105 = .ok (.iload_n 3, 1) := by decide +kernel
theorem dX6_drift_106 : decode cX6_drift 106 = .ok (.ifCond .ne 17, 3) := by decide +kernel
theorem dX6_drift_109 : decode cX6_drift 109 = .ok (.ldc 168, 2) := by decide +kernel
theorem dX6_drift_111 : decode cX6_drift 111 = .ok (.aload_n 0, 1) := by decide +kernel
theorem dX6_drift_112 : decode cX6_drift 112 = .ok (.getfield 7, 3) := by decide +kernel
theorem dX6_drift_115 : decode cX6_drift 115 = .ok (.sipush 179, 3) := by decide +kernel
theorem dX6_drift_118 : decode cX6_drift 118 = .ok (.iaload, 1) := by decide +kernel
theorem dX6_drift_119 : decode cX6_drift 119 = .ok (.iadd, 1) := by decide +kernel
theorem dX6_drift_120 : decode cX6_drift 120 = .ok (.goto 7, 3) := by decide +kernel
theorem dX6_drift_123 : decode cX6_drift 123 = .ok (.aload_n 0, 1) := by decide +kernel
theorem dX6_drift_124 : decode cX6_drift 124 = .ok (.getfield 144, 3) := by decide +kernel
theorem dX6_drift_127 : decode cX6_drift 127 = .ok (.ireturn, 1) := by decide +kernel
set_option maxRecDepth 20000 in
theorem ggX6_keep_X6_in : GoodIn wsX6_keep wsX6_in := goodIn_r _ [5] (by decide +kernel) (by decide +kernel)
set_option maxRecDepth 20000 in
theorem gX6_keep_X6_in : GoodIn wsX6_keep (va_wsS RX6 50 yX6_in wsX6_in) := goodIn_app (goodIn_of _ (by decide +kernel)) ggX6_keep_X6_in
set_option maxRecDepth 20000 in
theorem ggX6_keep_X6_copies : GoodIn wsX6_keep wsX6_copies := goodIn_r _ [9, 10, 11, 12, 13, 14, 15, 16, 17, 18, 19, 20, 21, 22, 23, 24, 25, 26, 27, 28, 29, 30, 31, 32, 33, 34, 35, 36] (by decide +kernel) (by decide +kernel)
set_option maxRecDepth 20000 in
theorem gX6_keep_X6_copies : GoodIn wsX6_keep (wsV RX6 203 RX6 yX6_copies wsX6_copies) := goodIn_app (goodIn_of _ (by decide +kernel)) ggX6_keep_X6_copies
theorem dX6_keep_0 : decode cX6_keep 0 = .ok (.iload_n 1, 1) := by decide +kernel
theorem dX6_keep_1 : decode cX6_keep 1 = .ok (.i2l, 1) := by decide +kernel
theorem dX6_keep_2 : decode cX6_keep 2 = .ok (.lconst 0, 1) := by decide +kernel
theorem dX6_keep_3 : decode cX6_keep 3 = .ok (.lconst 1, 1) := by decide +kernel
theorem dX6_keep_4 : decode cX6_keep 4 = .ok (.invokestatic 50, 3) := by decide +kernel
theorem dX6_keep_7 : decode cX6_keep 7 = .ok (.ifCond .ne 5, 3) := by decide +kernel
theorem dX6_keep_10 : decode cX6_keep 10 = .ok (.iconst (-1), 1) := by decide +kernel
theorem dX6_keep_11 : decode cX6_keep 11 = .ok (.ireturn, 1) := by decide +kernel
theorem dX6_keep_12 : decode cX6_keep 12 = .ok (.aload_n 0, 1) := by decide +kernel
theorem dX6_keep_13 : decode cX6_keep 13 = .ok (.iconst 0, 1) := by decide +kernel
theorem dX6_keep_14 : decode cX6_keep 14 = .ok (.bipush 37, 2) := by decide +kernel
theorem dX6_keep_16 : decode cX6_keep 16 = .ok (.iload_n 1, 1) := by decide +kernel
theorem dX6_keep_17 : decode cX6_keep 17 = .ok (.iconst 1, 1) := by decide +kernel
theorem dX6_keep_18 : decode cX6_keep 18 = .ok (.iadd, 1) := by decide +kernel
theorem dX6_keep_19 : decode cX6_keep 19 = .ok (.imul, 1) := by decide +kernel
theorem dX6_keep_20 : decode cX6_keep 20 = .ok (.invokevirtual 203, 3) := by decide +kernel
theorem dX6_keep_23 : decode cX6_keep 23 = .ok (.aload_n 0, 1) := by decide +kernel
theorem dX6_keep_24 : decode cX6_keep 24 = .ok (.getfield 35, 3) := by decide +kernel
theorem dX6_keep_27 : decode cX6_keep 27 = .ok (.iload_n 1, 1) := by decide +kernel
theorem dX6_keep_28 : decode cX6_keep 28 = .ok (.baload, 1) := by decide +kernel
theorem dX6_keep_29 : decode cX6_keep 29 = .ok (.ifCond .eq 7, 3) := by decide +kernel
theorem dX6_keep_32 : decode cX6_keep 32 = .ok (.iconst 1, 1) := by decide +kernel
theorem dX6_keep_33 : decode cX6_keep 33 = .ok (.goto 4, 3) := by decide +kernel
theorem dX6_keep_36 : decode cX6_keep 36 = .ok (.iconst 0, 1) := by decide +kernel
theorem dX6_keep_37 : decode cX6_keep 37 = .ok (.istore_n 2, 1) := by decide +kernel
theorem dX6_keep_38 : decode cX6_keep 38 = .ok (.aload_n 0, 1) := by decide +kernel
theorem dX6_keep_39 : decode cX6_keep 39 = .ok (.getfield 35, 3) := by decide +kernel
theorem dX6_keep_42 : decode cX6_keep 42 = .ok (.iload_n 1, 1) := by decide +kernel
theorem dX6_keep_43 : decode cX6_keep 43 = .ok (.iconst 1, 1) := by decide +kernel
theorem dX6_keep_44 : decode cX6_keep 44 = .ok (.bastore, 1) := by decide +kernel
theorem dX6_keep_45 : decode cX6_keep 45 = .ok (.iload_n 2, 1) := by decide +kernel
theorem dX6_keep_46 : decode cX6_keep 46 = .ok (.ireturn, 1) := by decide +kernel
set_option maxRecDepth 20000 in
theorem ggX6_back_X6_in : GoodIn wsX6_back wsX6_in := goodIn_r _ [6] (by decide +kernel) (by decide +kernel)
set_option maxRecDepth 20000 in
theorem gX6_back_X6_in : GoodIn wsX6_back (va_wsS RX6 50 yX6_in wsX6_in) := goodIn_app (goodIn_of _ (by decide +kernel)) ggX6_back_X6_in
set_option maxRecDepth 20000 in
theorem ggX6_back_X6_copies : GoodIn wsX6_back wsX6_copies := goodIn_r _ [10, 2, 11, 12, 13, 14, 15, 16, 17, 18, 19, 20, 21, 22, 23, 24, 25, 26, 27, 28, 29, 30, 31, 32, 33, 34, 35, 36] (by decide +kernel) (by decide +kernel)
set_option maxRecDepth 20000 in
theorem gX6_back_X6_copies : GoodIn wsX6_back (wsV RX6 203 RX6 yX6_copies wsX6_copies) := goodIn_app (goodIn_of _ (by decide +kernel)) ggX6_back_X6_copies
theorem dX6_back_0 : decode cX6_back 0 = .ok (.iload_n 1, 1) := by decide +kernel
theorem dX6_back_1 : decode cX6_back 1 = .ok (.i2l, 1) := by decide +kernel
theorem dX6_back_2 : decode cX6_back 2 = .ok (.lconst 0, 1) := by decide +kernel
theorem dX6_back_3 : decode cX6_back 3 = .ok (.lconst 1, 1) := by decide +kernel
theorem dX6_back_4 : decode cX6_back 4 = .ok (.invokestatic 50, 3) := by decide +kernel
theorem dX6_back_7 : decode cX6_back 7 = .ok (.ifCond .ne 5, 3) := by decide +kernel
theorem dX6_back_10 : decode cX6_back 10 = .ok (.iconst (-1), 1) := by decide +kernel
theorem dX6_back_11 : decode cX6_back 11 = .ok (.ireturn, 1) := by decide +kernel
theorem dX6_back_12 : decode cX6_back 12 = .ok (.aload_n 0, 1) := by decide +kernel
theorem dX6_back_13 : decode cX6_back 13 = .ok (.getfield 35, 3) := by decide +kernel
theorem dX6_back_16 : decode cX6_back 16 = .ok (.iload_n 1, 1) := by decide +kernel
theorem dX6_back_17 : decode cX6_back 17 = .ok (.baload, 1) := by decide +kernel
theorem dX6_back_18 : decode cX6_back 18 = .ok (.ifCond .ne 6, 3) := by decide +kernel
theorem dX6_back_21 : decode cX6_back 21 = .ok (.bipush (-2), 2) := by decide +kernel
theorem dX6_back_23 : decode cX6_back 23 = .ok (.ireturn, 1) := by decide +kernel
theorem dX6_back_24 : decode cX6_back 24 = .ok (.aload_n 0, 1) := by decide +kernel
theorem dX6_back_25 : decode cX6_back 25 = .ok (.bipush 37, 2) := by decide +kernel
theorem dX6_back_27 : decode cX6_back 27 = .ok (.iload_n 1, 1) := by decide +kernel
theorem dX6_back_28 : decode cX6_back 28 = .ok (.iconst 1, 1) := by decide +kernel
theorem dX6_back_29 : decode cX6_back 29 = .ok (.iadd, 1) := by decide +kernel
theorem dX6_back_30 : decode cX6_back 30 = .ok (.imul, 1) := by decide +kernel
theorem dX6_back_31 : decode cX6_back 31 = .ok (.iconst 0, 1) := by decide +kernel
theorem dX6_back_32 : decode cX6_back 32 = .ok (.invokevirtual 203, 3) := by decide +kernel
theorem dX6_back_35 : decode cX6_back 35 = .ok (.aload_n 0, 1) := by decide +kernel
theorem dX6_back_36 : decode cX6_back 36 = .ok (.getfield 7, 3) := by decide +kernel
theorem dX6_back_39 : decode cX6_back 39 = .ok (.bipush 36, 2) := by decide +kernel
theorem dX6_back_41 : decode cX6_back 41 = .ok (.iaload, 1) := by decide +kernel
theorem dX6_back_42 : decode cX6_back 42 = .ok (.ireturn, 1) := by decide +kernel
set_option maxRecDepth 20000 in
theorem ggX6_sheet_X6_in : GoodIn wsX6_sheet wsX6_in := goodIn_r _ [9] (by decide +kernel) (by decide +kernel)
set_option maxRecDepth 20000 in
theorem gX6_sheet_X6_in : GoodIn wsX6_sheet (va_wsS RX6 50 yX6_in wsX6_in) := goodIn_app (goodIn_of _ (by decide +kernel)) ggX6_sheet_X6_in
theorem dX6_sheet_0 : decode cX6_sheet 0 = .ok (.iload_n 1, 1) := by decide +kernel
theorem dX6_sheet_1 : decode cX6_sheet 1 = .ok (.i2l, 1) := by decide +kernel
theorem dX6_sheet_2 : decode cX6_sheet 2 = .ok (.lconst 0, 1) := by decide +kernel
theorem dX6_sheet_3 : decode cX6_sheet 3 = .ok (.ldc2_w 175, 3) := by decide +kernel
theorem dX6_sheet_6 : decode cX6_sheet 6 = .ok (.invokestatic 50, 3) := by decide +kernel
theorem dX6_sheet_9 : decode cX6_sheet 9 = .ok (.ifCond .eq 21, 3) := by decide +kernel
theorem dX6_sheet_12 : decode cX6_sheet 12 = .ok (.iload_n 2, 1) := by decide +kernel
theorem dX6_sheet_13 : decode cX6_sheet 13 = .ok (.i2l, 1) := by decide +kernel
theorem dX6_sheet_14 : decode cX6_sheet 14 = .ok (.lconst 0, 1) := by decide +kernel
theorem dX6_sheet_15 : decode cX6_sheet 15 = .ok (.ldc2_w 163, 3) := by decide +kernel
theorem dX6_sheet_18 : decode cX6_sheet 18 = .ok (.invokestatic 50, 3) := by decide +kernel
theorem dX6_sheet_21 : decode cX6_sheet 21 = .ok (.ifCond .eq 9, 3) := by decide +kernel
theorem dX6_sheet_24 : decode cX6_sheet 24 = .ok (.iload_n 3, 1) := by decide +kernel
theorem dX6_sheet_25 : decode cX6_sheet 25 = .ok (.bipush 40, 2) := by decide +kernel
theorem dX6_sheet_27 : decode cX6_sheet 27 = .ok (.if_icmp .le 5, 3) := by decide +kernel
theorem dX6_sheet_30 : decode cX6_sheet 30 = .ok (.iconst (-1), 1) := by decide +kernel
theorem dX6_sheet_31 : decode cX6_sheet 31 = .ok (.ireturn, 1) := by decide +kernel
theorem dX6_sheet_32 : decode cX6_sheet 32 = .ok (.iload_n 3, 1) := by decide +kernel
theorem dX6_sheet_33 : decode cX6_sheet 33 = .ok (.ifCond .ge 6, 3) := by decide +kernel
theorem dX6_sheet_36 : decode cX6_sheet 36 = .ok (.bipush (-14), 2) := by decide +kernel
theorem dX6_sheet_38 : decode cX6_sheet 38 = .ok (.ireturn, 1) := by decide +kernel
theorem dX6_sheet_39 : decode cX6_sheet 39 = .ok (.aload_n 0, 1) := by decide +kernel
theorem dX6_sheet_40 : decode cX6_sheet 40 = .ok (.getfield 39, 3) := by decide +kernel
theorem dX6_sheet_43 : decode cX6_sheet 43 = .ok (.iload_n 1, 1) := by decide +kernel
theorem dX6_sheet_44 : decode cX6_sheet 44 = .ok (.iload_n 2, 1) := by decide +kernel
theorem dX6_sheet_45 : decode cX6_sheet 45 = .ok (.iastore, 1) := by decide +kernel
theorem dX6_sheet_46 : decode cX6_sheet 46 = .ok (.aload_n 0, 1) := by decide +kernel
theorem dX6_sheet_47 : decode cX6_sheet 47 = .ok (.getfield 42, 3) := by decide +kernel
theorem dX6_sheet_50 : decode cX6_sheet 50 = .ok (.iload_n 1, 1) := by decide +kernel
theorem dX6_sheet_51 : decode cX6_sheet 51 = .ok (.iload_n 3, 1) := by decide +kernel
theorem dX6_sheet_52 : decode cX6_sheet 52 = .ok (.iastore, 1) := by decide +kernel
theorem dX6_sheet_53 : decode cX6_sheet 53 = .ok (.iconst 0, 1) := by decide +kernel
theorem dX6_sheet_54 : decode cX6_sheet 54 = .ok (.istore 4, 2) := by decide +kernel
theorem dX6_sheet_56 : decode cX6_sheet 56 = .ok (.iload 4, 2) := by decide +kernel
theorem dX6_sheet_58 : decode cX6_sheet 58 = .ok (.bipush 40, 2) := by decide +kernel
theorem dX6_sheet_60 : decode cX6_sheet 60 = .ok (.if_icmp .ge 22, 3) := by decide +kernel
theorem dX6_sheet_63 : decode cX6_sheet 63 = .ok (.aload_n 0, 1) := by decide +kernel
theorem dX6_sheet_64 : decode cX6_sheet 64 = .ok (.getfield 45, 3) := by decide +kernel
theorem dX6_sheet_67 : decode cX6_sheet 67 = .ok (.bipush 40, 2) := by decide +kernel
theorem dX6_sheet_69 : decode cX6_sheet 69 = .ok (.iload_n 1, 1) := by decide +kernel
theorem dX6_sheet_70 : decode cX6_sheet 70 = .ok (.imul, 1) := by decide +kernel
theorem dX6_sheet_71 : decode cX6_sheet 71 = .ok (.iload 4, 2) := by decide +kernel
theorem dX6_sheet_73 : decode cX6_sheet 73 = .ok (.iadd, 1) := by decide +kernel
theorem dX6_sheet_74 : decode cX6_sheet 74 = .ok (.iconst 0, 1) := by decide +kernel
theorem dX6_sheet_75 : decode cX6_sheet 75 = .ok (.iastore, 1) := by decide +kernel
theorem dX6_sheet_76 : decode cX6_sheet 76 = .ok (.iinc 4 1, 3) := by decide +kernel
theorem dX6_sheet_79 : decode cX6_sheet 79 = .ok (.goto (-23), 3) := by decide +kernel
theorem dX6_sheet_82 : decode cX6_sheet 82 = .ok (.iconst 1, 1) := by decide +kernel
theorem dX6_sheet_83 : decode cX6_sheet 83 = .ok (.ireturn, 1) := by decide +kernel
set_option maxRecDepth 20000 in
theorem ggX6_lay_X6_in : GoodIn wsX6_lay wsX6_in := goodIn_r _ [8] (by decide +kernel) (by decide +kernel)
set_option maxRecDepth 20000 in
theorem gX6_lay_X6_in : GoodIn wsX6_lay (va_wsS RX6 50 yX6_in wsX6_in) := goodIn_app (goodIn_of _ (by decide +kernel)) ggX6_lay_X6_in
theorem dX6_lay_0 : decode cX6_lay 0 = .ok (.iload_n 1, 1) := by decide +kernel
theorem dX6_lay_1 : decode cX6_lay 1 = .ok (.i2l, 1) := by decide +kernel
theorem dX6_lay_2 : decode cX6_lay 2 = .ok (.lconst 0, 1) := by decide +kernel
theorem dX6_lay_3 : decode cX6_lay 3 = .ok (.ldc2_w 175, 3) := by decide +kernel
theorem dX6_lay_6 : decode cX6_lay 6 = .ok (.invokestatic 50, 3) := by decide +kernel
theorem dX6_lay_9 : decode cX6_lay 9 = .ok (.ifCond .ne 5, 3) := by decide +kernel
theorem dX6_lay_12 : decode cX6_lay 12 = .ok (.iconst (-1), 1) := by decide +kernel
theorem dX6_lay_13 : decode cX6_lay 13 = .ok (.ireturn, 1) := by decide +kernel
theorem dX6_lay_14 : decode cX6_lay 14 = .ok (.aload_n 0, 1) := by decide +kernel
theorem dX6_lay_15 : decode cX6_lay 15 = .ok (.getfield 39, 3) := by decide +kernel
theorem dX6_lay_18 : decode cX6_lay 18 = .ok (.iload_n 1, 1) := by decide +kernel
theorem dX6_lay_19 : decode cX6_lay 19 = .ok (.iaload, 1) := by decide +kernel
theorem dX6_lay_20 : decode cX6_lay 20 = .ok (.bipush (-4), 2) := by decide +kernel
theorem dX6_lay_22 : decode cX6_lay 22 = .ok (.if_icmp .ne 6, 3) := by decide +kernel
theorem dX6_lay_25 : decode cX6_lay 25 = .ok (.bipush (-11), 2) := by decide +kernel
theorem dX6_lay_27 : decode cX6_lay 27 = .ok (.ireturn, 1) := by decide +kernel
theorem dX6_lay_28 : decode cX6_lay 28 = .ok (.iload_n 2, 1) := by decide +kernel
theorem dX6_lay_29 : decode cX6_lay 29 = .ok (.i2l, 1) := by decide +kernel
theorem dX6_lay_30 : decode cX6_lay 30 = .ok (.lconst 0, 1) := by decide +kernel
theorem dX6_lay_31 : decode cX6_lay 31 = .ok (.aload_n 0, 1) := by decide +kernel
theorem dX6_lay_32 : decode cX6_lay 32 = .ok (.getfield 42, 3) := by decide +kernel
theorem dX6_lay_35 : decode cX6_lay 35 = .ok (.iload_n 1, 1) := by decide +kernel
theorem dX6_lay_36 : decode cX6_lay 36 = .ok (.iaload, 1) := by decide +kernel
theorem dX6_lay_37 : decode cX6_lay 37 = .ok (.iconst 1, 1) := by decide +kernel
theorem dX6_lay_38 : decode cX6_lay 38 = .ok (.isub, 1) := by decide +kernel
theorem dX6_lay_39 : decode cX6_lay 39 = .ok (.i2l, 1) := by decide +kernel
theorem dX6_lay_40 : decode cX6_lay 40 = .ok (.invokestatic 50, 3) := by decide +kernel
theorem dX6_lay_43 : decode cX6_lay 43 = .ok (.ifCond .ne 6, 3) := by decide +kernel
theorem dX6_lay_46 : decode cX6_lay 46 = .ok (.bipush (-12), 2) := by decide +kernel
theorem dX6_lay_48 : decode cX6_lay 48 = .ok (.ireturn, 1) := by decide +kernel
theorem dX6_lay_49 : decode cX6_lay 49 = .ok (.aload_n 0, 1) := by decide +kernel
theorem dX6_lay_50 : decode cX6_lay 50 = .ok (.getfield 45, 3) := by decide +kernel
theorem dX6_lay_53 : decode cX6_lay 53 = .ok (.bipush 40, 2) := by decide +kernel
theorem dX6_lay_55 : decode cX6_lay 55 = .ok (.iload_n 1, 1) := by decide +kernel
theorem dX6_lay_56 : decode cX6_lay 56 = .ok (.imul, 1) := by decide +kernel
theorem dX6_lay_57 : decode cX6_lay 57 = .ok (.iload_n 2, 1) := by decide +kernel
theorem dX6_lay_58 : decode cX6_lay 58 = .ok (.iadd, 1) := by decide +kernel
theorem dX6_lay_59 : decode cX6_lay 59 = .ok (.aload_n 0, 1) := by decide +kernel
theorem dX6_lay_60 : decode cX6_lay 60 = .ok (.getfield 39, 3) := by decide +kernel
theorem dX6_lay_63 : decode cX6_lay 63 = .ok (.iload_n 1, 1) := by decide +kernel
theorem dX6_lay_64 : decode cX6_lay 64 = .ok (.iaload, 1) := by decide +kernel
theorem dX6_lay_65 : decode cX6_lay 65 = .ok (.ifCond .ne 13, 3) := by decide +kernel
theorem dX6_lay_68 : decode cX6_lay 68 = .ok (.iload_n 3, 1) := by decide +kernel
theorem dX6_lay_69 : decode cX6_lay 69 = .ok (.bipush 24, 2) := by decide +kernel
theorem dX6_lay_71 : decode cX6_lay 71 = .ok (.ishl, 1) := by decide +kernel
theorem dX6_lay_72 : decode cX6_lay 72 = .ok (.bipush 24, 2) := by decide +kernel
theorem dX6_lay_74 : decode cX6_lay 74 = .ok (.ishr, 1) := by decide +kernel
theorem dX6_lay_75 : decode cX6_lay 75 = .ok (.goto 24, 3) := by decide +kernel
theorem dX6_lay_78 : decode cX6_lay 78 = .ok (.aload_n 0, 1) := by decide +kernel
theorem dX6_lay_79 : decode cX6_lay 79 = .ok (.getfield 39, 3) := by decide +kernel
theorem dX6_lay_82 : decode cX6_lay 82 = .ok (.iload_n 1, 1) := by decide +kernel
theorem dX6_lay_83 : decode cX6_lay 83 = .ok (.iaload, 1) := by decide +kernel
theorem dX6_lay_84 : decode cX6_lay 84 = .ok (.iconst 1, 1) := by decide +kernel
theorem dX6_lay_85 : decode cX6_lay 85 = .ok (.if_icmp .ne 13, 3) := by decide +kernel
theorem dX6_lay_88 : decode cX6_lay 88 = .ok (.iload_n 3, 1) := by decide +kernel
theorem dX6_lay_89 : decode cX6_lay 89 = .ok (.bipush 16, 2) := by decide +kernel
theorem dX6_lay_91 : decode cX6_lay 91 = .ok (.ishl, 1) := by decide +kernel
theorem dX6_lay_92 : decode cX6_lay 92 = .ok (.bipush 16, 2) := by decide +kernel
theorem dX6_lay_94 : decode cX6_lay 94 = .ok (.ishr, 1) := by decide +kernel
theorem dX6_lay_95 : decode cX6_lay 95 = .ok (.goto 4, 3) := by decide +kernel
theorem dX6_lay_98 : decode cX6_lay 98 = .ok (.iload_n 3, 1) := by decide +kernel
theorem dX6_lay_99 : decode cX6_lay 99 = .ok (.iastore, 1) := by decide +kernel
theorem dX6_lay_100 : decode cX6_lay 100 = .ok (.iconst 1, 1) := by decide +kernel
theorem dX6_lay_101 : decode cX6_lay 101 = .ok (.ireturn, 1) := by decide +kernel
set_option maxRecDepth 20000 in
theorem ggX6_read_X6_in : GoodIn wsX6_read wsX6_in := goodIn_r _ [11] (by decide +kernel) (by decide +kernel)
set_option maxRecDepth 20000 in
theorem gX6_read_X6_in : GoodIn wsX6_read (va_wsS RX6 50 yX6_in wsX6_in) := goodIn_app (goodIn_of _ (by decide +kernel)) ggX6_read_X6_in
set_option maxRecDepth 20000 in
theorem ggX6_read_X6_copies : GoodIn wsX6_read wsX6_copies := goodIn_r _ [15, 16, 24, 25, 26, 27, 28, 29, 30, 31, 32, 33, 34, 35, 36, 37, 38, 39, 40, 41, 42, 43, 44, 45, 46, 47, 48, 49] (by decide +kernel) (by decide +kernel)
set_option maxRecDepth 20000 in
theorem gX6_read_X6_copies : GoodIn wsX6_read (wsV RX6 203 RX6 yX6_copies wsX6_copies) := goodIn_app (goodIn_of _ (by decide +kernel)) ggX6_read_X6_copies
set_option maxRecDepth 20000 in
theorem ggX6_read_X6_adds : GoodIn wsX6_read wsX6_adds := goodIn_r _ [20, 16, 21, 22, 10, 23, 3, 8, 9, 11, 24, 25, 26, 27, 28, 29, 30, 31, 32, 33, 34, 35, 36, 37, 38, 39, 40, 41, 42, 43, 44, 45, 46, 47, 48, 49] (by decide +kernel) (by decide +kernel)
set_option maxRecDepth 20000 in
theorem gX6_read_X6_adds : GoodIn wsX6_read (wsV RX6 191 RX6 yX6_adds wsX6_adds) := goodIn_app (goodIn_of _ (by decide +kernel)) ggX6_read_X6_adds
theorem dX6_read_0 : decode cX6_read 0 = .ok (.iload_n 1, 1) := by decide +kernel
theorem dX6_read_1 : decode cX6_read 1 = .ok (.i2l, 1) := by decide +kernel
theorem dX6_read_2 : decode cX6_read 2 = .ok (.lconst 0, 1) := by decide +kernel
theorem dX6_read_3 : decode cX6_read 3 = .ok (.ldc2_w 175, 3) := by decide +kernel
theorem dX6_read_6 : decode cX6_read 6 = .ok (.invokestatic 50, 3) := by decide +kernel
theorem dX6_read_9 : decode cX6_read 9 = .ok (.ifCond .eq 28, 3) := by decide +kernel
theorem dX6_read_12 : decode cX6_read 12 = .ok (.iload_n 2, 1) := by decide +kernel
theorem dX6_read_13 : decode cX6_read 13 = .ok (.i2l, 1) := by decide +kernel
theorem dX6_read_14 : decode cX6_read 14 = .ok (.lconst 0, 1) := by decide +kernel
theorem dX6_read_15 : decode cX6_read 15 = .ok (.ldc2_w 163, 3) := by decide +kernel
theorem dX6_read_18 : decode cX6_read 18 = .ok (.invokestatic 50, 3) := by decide +kernel
theorem dX6_read_21 : decode cX6_read 21 = .ok (.ifCond .eq 16, 3) := by decide +kernel
theorem dX6_read_24 : decode cX6_read 24 = .ok (.iload 4, 2) := by decide +kernel
theorem dX6_read_26 : decode cX6_read 26 = .ok (.i2l, 1) := by decide +kernel
theorem dX6_read_27 : decode cX6_read 27 = .ok (.lconst 0, 1) := by decide +kernel
theorem dX6_read_28 : decode cX6_read 28 = .ok (.ldc2_w 120, 3) := by decide +kernel
theorem dX6_read_31 : decode cX6_read 31 = .ok (.invokestatic 50, 3) := by decide +kernel
theorem dX6_read_34 : decode cX6_read 34 = .ok (.ifCond .ne 5, 3) := by decide +kernel
theorem dX6_read_37 : decode cX6_read 37 = .ok (.iconst (-1), 1) := by decide +kernel
theorem dX6_read_38 : decode cX6_read 38 = .ok (.ireturn, 1) := by decide +kernel
theorem dX6_read_39 : decode cX6_read 39 = .ok (.aload_n 0, 1) := by decide +kernel
theorem dX6_read_40 : decode cX6_read 40 = .ok (.iconst 0, 1) := by decide +kernel
theorem dX6_read_41 : decode cX6_read 41 = .ok (.bipush 111, 2) := by decide +kernel
theorem dX6_read_43 : decode cX6_read 43 = .ok (.invokevirtual 203, 3) := by decide +kernel
theorem dX6_read_46 : decode cX6_read 46 = .ok (.iconst 0, 1) := by decide +kernel
theorem dX6_read_47 : decode cX6_read 47 = .ok (.istore 5, 2) := by decide +kernel
theorem dX6_read_49 : decode cX6_read 49 = .ok (.iconst 0, 1) := by decide +kernel
theorem dX6_read_50 : decode cX6_read 50 = .ok (.istore 6, 2) := by decide +kernel
theorem dX6_read_52 : decode cX6_read 52 = .ok (.iconst 0, 1) := by decide +kernel
theorem dX6_read_53 : decode cX6_read 53 = .ok (.istore 7, 2) := by decide +kernel
theorem dX6_read_55 : decode cX6_read 55 = .ok (.iload 7, 2) := by decide +kernel
theorem dX6_read_57 : decode cX6_read 57 = .ok (.iconst 2, 1) := by decide +kernel
theorem dX6_read_58 : decode cX6_read 58 = .ok (.iload 4, 2) := by decide +kernel
theorem dX6_read_60 : decode cX6_read 60 = .ok (.imul, 1) := by decide +kernel
theorem dX6_read_61 : decode cX6_read 61 = .ok (.if_icmp .ge 135, 3) := by decide +kernel
theorem dX6_read_64 : decode cX6_read 64 = .ok (.iload 5, 2) := by decide +kernel
theorem dX6_read_66 : decode cX6_read 66 = .ok (.ifCond .ne 130, 3) := by decide +kernel
theorem dX6_read_69 : decode cX6_read 69 = .ok (.aload_n 0, 1) := by decide +kernel
theorem dX6_read_70 : decode cX6_read 70 = .ok (.getfield 39, 3) := by decide +kernel
theorem dX6_read_73 : decode cX6_read 73 = .ok (.iload_n 1, 1) := by decide +kernel
theorem dX6_read_74 : decode cX6_read 74 = .ok (.iaload, 1) := by decide +kernel
theorem dX6_read_75 : decode cX6_read 75 = .ok (.bipush (-4), 2) := by decide +kernel
theorem dX6_read_77 : decode cX6_read 77 = .ok (.if_icmp .ne 7, 3) := by decide +kernel
theorem dX6_read_80 : decode cX6_read 80 = .ok (.iconst 1, 1) := by decide +kernel
theorem dX6_read_81 : decode cX6_read 81 = .ok (.goto 44, 3) := by decide +kernel
theorem dX6_read_84 : decode cX6_read 84 = .ok (.aload_n 0, 1) := by decide +kernel
theorem dX6_read_85 : decode cX6_read 85 = .ok (.getfield 39, 3) := by decide +kernel
theorem dX6_read_88 : decode cX6_read 88 = .ok (.iload_n 1, 1) := by decide +kernel
theorem dX6_read_89 : decode cX6_read 89 = .ok (.iaload, 1) := by decide +kernel
theorem dX6_read_90 : decode cX6_read 90 = .ok (.iload_n 2, 1) := by decide +kernel
theorem dX6_read_91 : decode cX6_read 91 = .ok (.if_icmp .eq 7, 3) := by decide +kernel
theorem dX6_read_94 : decode cX6_read 94 = .ok (.iconst 3, 1) := by decide +kernel
theorem dX6_read_95 : decode cX6_read 95 = .ok (.goto 30, 3) := by decide +kernel
theorem dX6_read_98 : decode cX6_read 98 = .ok (.iload_n 3, 1) := by decide +kernel
theorem dX6_read_99 : decode cX6_read 99 = .ok (.i2l, 1) := by decide +kernel
theorem dX6_read_100 : decode cX6_read 100 = .ok (.iload 7, 2) := by decide +kernel
theorem dX6_read_102 : decode cX6_read 102 = .ok (.i2l, 1) := by decide +kernel
theorem dX6_read_103 : decode cX6_read 103 = .ok (.ladd, 1) := by decide +kernel
theorem dX6_read_104 : decode cX6_read 104 = .ok (.lconst 0, 1) := by decide +kernel
theorem dX6_read_105 : decode cX6_read 105 = .ok (.aload_n 0, 1) := by decide +kernel
theorem dX6_read_106 : decode cX6_read 106 = .ok (.getfield 42, 3) := by decide +kernel
theorem dX6_read_109 : decode cX6_read 109 = .ok (.iload_n 1, 1) := by decide +kernel
theorem dX6_read_110 : decode cX6_read 110 = .ok (.iaload, 1) := by decide +kernel
theorem dX6_read_111 : decode cX6_read 111 = .ok (.iconst 1, 1) := by decide +kernel
theorem dX6_read_112 : decode cX6_read 112 = .ok (.isub, 1) := by decide +kernel
theorem dX6_read_113 : decode cX6_read 113 = .ok (.i2l, 1) := by decide +kernel
theorem dX6_read_114 : decode cX6_read 114 = .ok (.invokestatic 50, 3) := by decide +kernel
theorem dX6_read_117 : decode cX6_read 117 = .ok (.ifCond .ne 7, 3) := by decide +kernel
theorem dX6_read_120 : decode cX6_read 120 = .ok (.iconst 2, 1) := by decide +kernel
theorem dX6_read_121 : decode cX6_read 121 = .ok (.goto 4, 3) := by decide +kernel
theorem dX6_read_124 : decode cX6_read 124 = .ok (.iconst 0, 1) := by decide +kernel
theorem dX6_read_125 : decode cX6_read 125 = .ok (.istore 5, 2) := by decide +kernel
theorem dX6_read_127 : decode cX6_read 127 = .ok (.iload 5, 2) := by decide +kernel
theorem dX6_read_129 : decode cX6_read 129 = .ok (.ifCond .ne 61, 3) := by decide +kernel
theorem dX6_read_132 : decode cX6_read 132 = .ok (.iload 7, 2) := by decide +kernel
theorem dX6_read_134 : decode cX6_read 134 = .ok (.iconst 2, 1) := by decide +kernel
theorem dX6_read_135 : decode cX6_read 135 = .ok (.irem, 1) := by decide +kernel
theorem dX6_read_136 : decode cX6_read 136 = .ok (.iconst 1, 1) := by decide +kernel
theorem dX6_read_137 : decode cX6_read 137 = .ok (.if_icmp .ne 53, 3) := by decide +kernel
theorem dX6_read_140 : decode cX6_read 140 = .ok (.bipush 40, 2) := by decide +kernel
theorem dX6_read_142 : decode cX6_read 142 = .ok (.iload_n 1, 1) := by decide +kernel
theorem dX6_read_143 : decode cX6_read 143 = .ok (.imul, 1) := by decide +kernel
theorem dX6_read_144 : decode cX6_read 144 = .ok (.iload_n 3, 1) := by decide +kernel
theorem dX6_read_145 : decode cX6_read 145 = .ok (.iadd, 1) := by decide +kernel
theorem dX6_read_146 : decode cX6_read 146 = .ok (.iload 7, 2) := by decide +kernel
theorem dX6_read_148 : decode cX6_read 148 = .ok (.iadd, 1) := by decide +kernel
theorem dX6_read_149 : decode cX6_read 149 = .ok (.istore 8, 2) := by decide +kernel
theorem dX6_read_151 : decode cX6_read 151 = .ok (.aload_n 0, 1) := by decide +kernel
theorem dX6_read_152 : decode cX6_read 152 = .ok (.aload_n 0, 1) := by decide +kernel
theorem dX6_read_153 : decode cX6_read 153 = .ok (.getfield 45, 3) := by decide +kernel
theorem dX6_read_156 : decode cX6_read 156 = .ok (.iload 8, 2) := by decide +kernel
theorem dX6_read_158 : decode cX6_read 158 = .ok (.iconst 1, 1) := by decide +kernel
theorem dX6_read_159 : decode cX6_read 159 = .ok (.isub, 1) := by decide +kernel
theorem dX6_read_160 : decode cX6_read 160 = .ok (.iaload, 1) := by decide +kernel
theorem dX6_read_161 : decode cX6_read 161 = .ok (.aload_n 0, 1) := by decide +kernel
theorem dX6_read_162 : decode cX6_read 162 = .ok (.getfield 45, 3) := by decide +kernel
theorem dX6_read_165 : decode cX6_read 165 = .ok (.iload 8, 2) := by decide +kernel
theorem dX6_read_167 : decode cX6_read 167 = .ok (.iaload, 1) := by decide +kernel
theorem dX6_read_168 : decode cX6_read 168 = .ok (.invokevirtual 191, 3) := by decide +kernel
theorem dX6_read_171 : decode cX6_read 171 = .ok (.ifCond .ge 16, 3) := by decide +kernel
theorem dX6_read_174 : decode cX6_read 174 = .ok (.aload_n 0, 1) := by decide +kernel
theorem dX6_read_175 : decode cX6_read 175 = .ok (.bipush 111, 2) := by decide +kernel
theorem dX6_read_177 : decode cX6_read 177 = .ok (.iconst 0, 1) := by decide +kernel
theorem dX6_read_178 : decode cX6_read 178 = .ok (.invokevirtual 203, 3) := by decide +kernel
theorem dX6_read_181 : decode cX6_read 181 = .ok (.bipush (-20), 2) := by decide +kernel
theorem dX6_read_183 : decode cX6_read 183 = .ok (.iload 6, 2) := by decide +kernel
theorem dX6_read_185 : decode cX6_read 185 = .ok (.isub, 1) := by decide +kernel
theorem dX6_read_186 : decode cX6_read 186 = .ok (.ireturn, 1) := by decide +kernel
theorem dX6_read_187 : decode cX6_read 187 = .ok (.iinc 6 1, 3) := by decide +kernel
theorem dX6_read_190 : decode cX6_read 190 = .ok (.iinc 7 1, 3) := by decide +kernel
theorem dX6_read_193 : decode cX6_read 193 = .ok (.goto (-138), 3) := by decide +kernel
theorem dX6_read_196 : decode cX6_read 196 = .ok (.aload_n 0, 1) := by decide +kernel
theorem dX6_read_197 : decode cX6_read 197 = .ok (.iload 5, 2) := by decide +kernel
theorem dX6_read_199 : decode cX6_read 199 = .ok (.putfield 242, 3) := by decide +kernel
theorem dX6_read_202 : decode cX6_read 202 = .ok (.iload 6, 2) := by decide +kernel
theorem dX6_read_204 : decode cX6_read 204 = .ok (.ireturn, 1) := by decide +kernel
theorem dX6_torn_0 : decode cX6_torn 0 = .ok (.aload_n 0, 1) := by decide +kernel
theorem dX6_torn_1 : decode cX6_torn 1 = .ok (.getfield 242, 3) := by decide +kernel
theorem dX6_torn_4 : decode cX6_torn 4 = .ok (.ireturn, 1) := by decide +kernel
theorem dX6_count_0 : decode cX6_count 0 = .ok (.iconst 0, 1) := by decide +kernel
theorem dX6_count_1 : decode cX6_count 1 = .ok (.istore_n 2, 1) := by decide +kernel
theorem dX6_count_2 : decode cX6_count 2 = .ok (.iconst 0, 1) := by decide +kernel
theorem dX6_count_3 : decode cX6_count 3 = .ok (.istore_n 3, 1) := by decide +kernel
theorem dX6_count_4 : decode cX6_count 4 = .ok (.iconst 0, 1) := by decide +kernel
theorem dX6_count_5 : decode cX6_count 5 = .ok (.istore 4, 2) := by decide +kernel
theorem dX6_count_7 : decode cX6_count 7 = .ok (.iload 4, 2) := by decide +kernel
theorem dX6_count_9 : decode cX6_count 9 = .ok (.aload_n 0, 1) := by decide +kernel
theorem dX6_count_10 : decode cX6_count 10 = .ok (.getfield 7, 3) := by decide +kernel
theorem dX6_count_13 : decode cX6_count 13 = .ok (.bipush 35, 2) := by decide +kernel
theorem dX6_count_15 : decode cX6_count 15 = .ok (.iaload, 1) := by decide +kernel
theorem dX6_count_16 : decode cX6_count 16 = .ok (.if_icmp .ge 22, 3) := by decide +kernel
theorem dX6_count_19 : decode cX6_count 19 = .ok (.iload_n 2, 1) := by decide +kernel
theorem dX6_count_20 : decode cX6_count 20 = .ok (.aload_n 0, 1) := by decide +kernel
theorem dX6_count_21 : decode cX6_count 21 = .ok (.getfield 7, 3) := by decide +kernel
theorem dX6_count_24 : decode cX6_count 24 = .ok (.bipush 27, 2) := by decide +kernel
theorem dX6_count_26 : decode cX6_count 26 = .ok (.iload 4, 2) := by decide +kernel
theorem dX6_count_28 : decode cX6_count 28 = .ok (.iadd, 1) := by decide +kernel
theorem dX6_count_29 : decode cX6_count 29 = .ok (.iaload, 1) := by decide +kernel
theorem dX6_count_30 : decode cX6_count 30 = .ok (.iadd, 1) := by decide +kernel
theorem dX6_count_31 : decode cX6_count 31 = .ok (.istore_n 2, 1) := by decide +kernel
theorem dX6_count_32 : decode cX6_count 32 = .ok (.iinc 4 1, 3) := by decide +kernel
theorem dX6_count_35 : decode cX6_count 35 = .ok (.goto (-28), 3) := by decide +kernel
theorem dX6_count_38 : decode cX6_count 38 = .ok (.iconst 0, 1) := by decide +kernel
theorem dX6_count_39 : decode cX6_count 39 = .ok (.istore 4, 2) := by decide +kernel
theorem dX6_count_41 : decode cX6_count 41 = .ok (.iload 4, 2) := by decide +kernel
theorem dX6_count_43 : decode cX6_count 43 = .ok (.aload_n 0, 1) := by decide +kernel
theorem dX6_count_44 : decode cX6_count 44 = .ok (.getfield 7, 3) := by decide +kernel
theorem dX6_count_47 : decode cX6_count 47 = .ok (.bipush 20, 2) := by decide +kernel
theorem dX6_count_49 : decode cX6_count 49 = .ok (.iaload, 1) := by decide +kernel
theorem dX6_count_50 : decode cX6_count 50 = .ok (.if_icmp .ge 30, 3) := by decide +kernel
theorem dX6_count_53 : decode cX6_count 53 = .ok (.iload_n 3, 1) := by decide +kernel
theorem dX6_count_54 : decode cX6_count 54 = .ok (.aload_n 0, 1) := by decide +kernel
theorem dX6_count_55 : decode cX6_count 55 = .ok (.getfield 7, 3) := by decide +kernel
theorem dX6_count_58 : decode cX6_count 58 = .ok (.iload 4, 2) := by decide +kernel
theorem dX6_count_60 : decode cX6_count 60 = .ok (.iaload, 1) := by decide +kernel
theorem dX6_count_61 : decode cX6_count 61 = .ok (.aload_n 0, 1) := by decide +kernel
theorem dX6_count_62 : decode cX6_count 62 = .ok (.getfield 7, 3) := by decide +kernel
theorem dX6_count_65 : decode cX6_count 65 = .ok (.bipush 10, 2) := by decide +kernel
theorem dX6_count_67 : decode cX6_count 67 = .ok (.iload 4, 2) := by decide +kernel
theorem dX6_count_69 : decode cX6_count 69 = .ok (.iadd, 1) := by decide +kernel
theorem dX6_count_70 : decode cX6_count 70 = .ok (.iaload, 1) := by decide +kernel
theorem dX6_count_71 : decode cX6_count 71 = .ok (.iadd, 1) := by decide +kernel
theorem dX6_count_72 : decode cX6_count 72 = .ok (.iadd, 1) := by decide +kernel
theorem dX6_count_73 : decode cX6_count 73 = .ok (.istore_n 3, 1) := by decide +kernel
theorem dX6_count_74 : decode cX6_count 74 = .ok (.iinc 4 1, 3) := by decide +kernel
theorem dX6_count_77 : decode cX6_count 77 = .ok (.goto (-36), 3) := by decide +kernel
theorem dX6_count_80 : decode cX6_count 80 = .ok (.iload_n 1, 1) := by decide +kernel
theorem dX6_count_81 : decode cX6_count 81 = .ok (.tableswitch 106 0 5 #[39, 44, 74, 79, 102, 104], 39) := by decide +kernel
theorem dX6_count_120 : decode cX6_count 120 = .ok (.aload_n 0, 1) := by decide +kernel
theorem dX6_count_121 : decode cX6_count 121 = .ok (.getfield 117, 3) := by decide +kernel
theorem dX6_count_124 : decode cX6_count 124 = .ok (.ireturn, 1) := by decide +kernel
theorem dX6_count_125 : decode cX6_count 125 = .ok (.aload_n 0, 1) := by decide +kernel
theorem dX6_count_126 : decode cX6_count 126 = .ok (.getfield 35, 3) := by decide +kernel
theorem dX6_count_129 : decode cX6_count 129 = .ok (.iconst 0, 1) := by decide +kernel
theorem dX6_count_130 : decode cX6_count 130 = .ok (.baload, 1) := by decide +kernel
theorem dX6_count_131 : decode cX6_count 131 = .ok (.ifCond .eq 7, 3) := by decide +kernel
theorem dX6_count_134 : decode cX6_count 134 = .ok (.iconst 1, 1) := by decide +kernel
theorem dX6_count_135 : decode cX6_count 135 = .ok (.goto 4, 3) := by decide +kernel
theorem dX6_count_138 : decode cX6_count 138 = .ok (.iconst 0, 1) := by decide +kernel
theorem dX6_count_139 : decode cX6_count 139 = .ok (.aload_n 0, 1) := by decide +kernel
theorem dX6_count_140 : decode cX6_count 140 = .ok (.getfield 35, 3) := by decide +kernel
theorem dX6_count_143 : decode cX6_count 143 = .ok (.iconst 1, 1) := by decide +kernel
theorem dX6_count_144 : decode cX6_count 144 = .ok (.baload, 1) := by decide +kernel
theorem dX6_count_145 : decode cX6_count 145 = .ok (.ifCond .eq 7, 3) := by decide +kernel
theorem dX6_count_148 : decode cX6_count 148 = .ok (.iconst 1, 1) := by decide +kernel
theorem dX6_count_149 : decode cX6_count 149 = .ok (.goto 4, 3) := by decide +kernel
theorem dX6_count_152 : decode cX6_count 152 = .ok (.iconst 0, 1) := by decide +kernel
theorem dX6_count_153 : decode cX6_count 153 = .ok (.iadd, 1) := by decide +kernel
theorem dX6_count_154 : decode cX6_count 154 = .ok (.ireturn, 1) := by decide +kernel
theorem dX6_count_155 : decode cX6_count 155 = .ok (.aload_n 0, 1) := by decide +kernel
theorem dX6_count_156 : decode cX6_count 156 = .ok (.getfield 54, 3) := by decide +kernel
theorem dX6_count_159 : decode cX6_count 159 = .ok (.ireturn, 1) := by decide +kernel
theorem dX6_count_160 : decode cX6_count 160 = .ok (.aload_n 0, 1) := by decide +kernel
theorem dX6_count_161 : decode cX6_count 161 = .ok (.getfield 39, 3) := by decide +kernel
theorem dX6_count_164 : decode cX6_count 164 = .ok (.iconst 0, 1) := by decide +kernel
theorem dX6_count_165 : decode cX6_count 165 = .ok (.iaload, 1) := by decide +kernel
theorem dX6_count_166 : decode cX6_count 166 = .ok (.bipush (-4), 2) := by decide +kernel
theorem dX6_count_168 : decode cX6_count 168 = .ok (.if_icmp .ne 8, 3) := by decide +kernel
theorem dX6_count_171 : decode cX6_count 171 = .ok (.bipush (-4), 2) := by decide +kernel
theorem dX6_count_173 : decode cX6_count 173 = .ok (.goto 9, 3) := by decide +kernel
theorem dX6_count_176 : decode cX6_count 176 = .ok (.aload_n 0, 1) := by decide +kernel
theorem dX6_count_177 : decode cX6_count 177 = .ok (.getfield 42, 3) := by decide +kernel
theorem dX6_count_180 : decode cX6_count 180 = .ok (.iconst 0, 1) := by decide +kernel
theorem dX6_count_181 : decode cX6_count 181 = .ok (.iaload, 1) := by decide +kernel
theorem dX6_count_182 : decode cX6_count 182 = .ok (.ireturn, 1) := by decide +kernel
theorem dX6_count_183 : decode cX6_count 183 = .ok (.iload_n 2, 1) := by decide +kernel
theorem dX6_count_184 : decode cX6_count 184 = .ok (.ireturn, 1) := by decide +kernel
theorem dX6_count_185 : decode cX6_count 185 = .ok (.iload_n 3, 1) := by decide +kernel
theorem dX6_count_186 : decode cX6_count 186 = .ok (.ireturn, 1) := by decide +kernel
theorem dX6_count_187 : decode cX6_count 187 = .ok (.iconst (-1), 1) := by decide +kernel
theorem dX6_count_188 : decode cX6_count 188 = .ok (.ireturn, 1) := by decide +kernel

theorem dX5_init_0 : decode cX5_init 0 = .ok (.aload_n 0, 1) := by decide +kernel
theorem dX5_init_1 : decode cX5_init 1 = .ok (.invokespecial 1, 3) := by decide +kernel
theorem dX5_init_4 : decode cX5_init 4 = .ok (.aload_n 0, 1) := by decide +kernel
theorem dX5_init_5 : decode cX5_init 5 = .ok (.bipush 6, 2) := by decide +kernel
theorem dX5_init_7 : decode cX5_init 7 = .ok (.newarray .int, 2) := by decide +kernel
theorem dX5_init_9 : decode cX5_init 9 = .ok (.putfield 7, 3) := by decide +kernel
theorem dX5_init_12 : decode cX5_init 12 = .ok (.aload_n 0, 1) := by decide +kernel
theorem dX5_init_13 : decode cX5_init 13 = .ok (.bipush 6, 2) := by decide +kernel
theorem dX5_init_15 : decode cX5_init 15 = .ok (.newarray .int, 2) := by decide +kernel
theorem dX5_init_17 : decode cX5_init 17 = .ok (.putfield 13, 3) := by decide +kernel
theorem dX5_init_20 : decode cX5_init 20 = .ok (.aload_n 0, 1) := by decide +kernel
theorem dX5_init_21 : decode cX5_init 21 = .ok (.bipush 6, 2) := by decide +kernel
theorem dX5_init_23 : decode cX5_init 23 = .ok (.newarray .int, 2) := by decide +kernel
theorem dX5_init_25 : decode cX5_init 25 = .ok (.putfield 16, 3) := by decide +kernel
theorem dX5_init_28 : decode cX5_init 28 = .ok (.aload_n 0, 1) := by decide +kernel
theorem dX5_init_29 : decode cX5_init 29 = .ok (.bipush 6, 2) := by decide +kernel
theorem dX5_init_31 : decode cX5_init 31 = .ok (.newarray .int, 2) := by decide +kernel
theorem dX5_init_33 : decode cX5_init 33 = .ok (.putfield 19, 3) := by decide +kernel
theorem dX5_init_36 : decode cX5_init 36 = .ok (.aload_n 0, 1) := by decide +kernel
theorem dX5_init_37 : decode cX5_init 37 = .ok (.iconst 5, 1) := by decide +kernel
theorem dX5_init_38 : decode cX5_init 38 = .ok (.newarray .int, 2) := by decide +kernel
theorem dX5_init_40 : decode cX5_init 40 = .ok (.putfield 22, 3) := by decide +kernel
theorem dX5_init_43 : decode cX5_init 43 = .ok (.aload_n 0, 1) := by decide +kernel
theorem dX5_init_44 : decode cX5_init 44 = .ok (.bipush 15, 2) := by decide +kernel
theorem dX5_init_46 : decode cX5_init 46 = .ok (.newarray .int, 2) := by decide +kernel
theorem dX5_init_48 : decode cX5_init 48 = .ok (.putfield 25, 3) := by decide +kernel
theorem dX5_init_51 : decode cX5_init 51 = .ok (.aload_n 0, 1) := by decide +kernel
theorem dX5_init_52 : decode cX5_init 52 = .ok (.bipush 15, 2) := by decide +kernel
theorem dX5_init_54 : decode cX5_init 54 = .ok (.newarray .int, 2) := by decide +kernel
theorem dX5_init_56 : decode cX5_init 56 = .ok (.putfield 28, 3) := by decide +kernel
theorem dX5_init_59 : decode cX5_init 59 = .ok (.aload_n 0, 1) := by decide +kernel
theorem dX5_init_60 : decode cX5_init 60 = .ok (.iconst 5, 1) := by decide +kernel
theorem dX5_init_61 : decode cX5_init 61 = .ok (.newarray .int, 2) := by decide +kernel
theorem dX5_init_63 : decode cX5_init 63 = .ok (.putfield 31, 3) := by decide +kernel
theorem dX5_init_66 : decode cX5_init 66 = .ok (.aload_n 0, 1) := by decide +kernel
theorem dX5_init_67 : decode cX5_init 67 = .ok (.iconst 5, 1) := by decide +kernel
theorem dX5_init_68 : decode cX5_init 68 = .ok (.newarray .int, 2) := by decide +kernel
theorem dX5_init_70 : decode cX5_init 70 = .ok (.putfield 34, 3) := by decide +kernel
theorem dX5_init_73 : decode cX5_init 73 = .ok (.aload_n 0, 1) := by decide +kernel
theorem dX5_init_74 : decode cX5_init 74 = .ok (.iconst 5, 1) := by decide +kernel
theorem dX5_init_75 : decode cX5_init 75 = .ok (.newarray .int, 2) := by decide +kernel
theorem dX5_init_77 : decode cX5_init 77 = .ok (.putfield 37, 3) := by decide +kernel
theorem dX5_init_80 : decode cX5_init 80 = .ok (.aload_n 0, 1) := by decide +kernel
theorem dX5_init_81 : decode cX5_init 81 = .ok (.iconst 5, 1) := by decide +kernel
theorem dX5_init_82 : decode cX5_init 82 = .ok (.newarray .int, 2) := by decide +kernel
theorem dX5_init_84 : decode cX5_init 84 = .ok (.putfield 40, 3) := by decide +kernel
theorem dX5_init_87 : decode cX5_init 87 = .ok (.aload_n 0, 1) := by decide +kernel
theorem dX5_init_88 : decode cX5_init 88 = .ok (.bipush 90, 2) := by decide +kernel
theorem dX5_init_90 : decode cX5_init 90 = .ok (.newarray .long, 2) := by decide +kernel
theorem dX5_init_92 : decode cX5_init 92 = .ok (.putfield 43, 3) := by decide +kernel
theorem dX5_init_95 : decode cX5_init 95 = .ok (.aload_n 0, 1) := by decide +kernel
theorem dX5_init_96 : decode cX5_init 96 = .ok (.bipush 30, 2) := by decide +kernel
theorem dX5_init_98 : decode cX5_init 98 = .ok (.newarray .int, 2) := by decide +kernel
theorem dX5_init_100 : decode cX5_init 100 = .ok (.putfield 47, 3) := by decide +kernel
theorem dX5_init_103 : decode cX5_init 103 = .ok (.aload_n 0, 1) := by decide +kernel
theorem dX5_init_104 : decode cX5_init 104 = .ok (.bipush 50, 2) := by decide +kernel
theorem dX5_init_106 : decode cX5_init 106 = .ok (.putfield 50, 3) := by decide +kernel
theorem dX5_init_109 : decode cX5_init 109 = .ok (.aload_n 0, 1) := by decide +kernel
theorem dX5_init_110 : decode cX5_init 110 = .ok (.bipush 64, 2) := by decide +kernel
theorem dX5_init_112 : decode cX5_init 112 = .ok (.newarray .int, 2) := by decide +kernel
theorem dX5_init_114 : decode cX5_init 114 = .ok (.putfield 54, 3) := by decide +kernel
theorem dX5_init_117 : decode cX5_init 117 = .ok (.aload_n 0, 1) := by decide +kernel
theorem dX5_init_118 : decode cX5_init 118 = .ok (.bipush 12, 2) := by decide +kernel
theorem dX5_init_120 : decode cX5_init 120 = .ok (.newarray .int, 2) := by decide +kernel
theorem dX5_init_122 : decode cX5_init 122 = .ok (.putfield 57, 3) := by decide +kernel
theorem dX5_init_125 : decode cX5_init 125 = .ok (.aload_n 0, 1) := by decide +kernel
theorem dX5_init_126 : decode cX5_init 126 = .ok (.bipush 7, 2) := by decide +kernel
theorem dX5_init_128 : decode cX5_init 128 = .ok (.newarray .int, 2) := by decide +kernel
theorem dX5_init_130 : decode cX5_init 130 = .ok (.putfield 60, 3) := by decide +kernel
theorem dX5_init_133 : decode cX5_init 133 = .ok (.aload_n 0, 1) := by decide +kernel
theorem dX5_init_134 : decode cX5_init 134 = .ok (.bipush 32, 2) := by decide +kernel
theorem dX5_init_136 : decode cX5_init 136 = .ok (.newarray .int, 2) := by decide +kernel
theorem dX5_init_138 : decode cX5_init 138 = .ok (.putfield 63, 3) := by decide +kernel
theorem dX5_init_141 : decode cX5_init 141 = .ok (.aload_n 0, 1) := by decide +kernel
theorem dX5_init_142 : decode cX5_init 142 = .ok (.bipush 32, 2) := by decide +kernel
theorem dX5_init_144 : decode cX5_init 144 = .ok (.newarray .int, 2) := by decide +kernel
theorem dX5_init_146 : decode cX5_init 146 = .ok (.putfield 66, 3) := by decide +kernel
theorem dX5_init_149 : decode cX5_init 149 = .ok (.aload_n 0, 1) := by decide +kernel
theorem dX5_init_150 : decode cX5_init 150 = .ok (.sipush 288, 3) := by decide +kernel
theorem dX5_init_153 : decode cX5_init 153 = .ok (.newarray .int, 2) := by decide +kernel
theorem dX5_init_155 : decode cX5_init 155 = .ok (.putfield 69, 3) := by decide +kernel
theorem dX5_init_158 : decode cX5_init 158 = .ok (.aload_n 0, 1) := by decide +kernel
theorem dX5_init_159 : decode cX5_init 159 = .ok (.bipush 32, 2) := by decide +kernel
theorem dX5_init_161 : decode cX5_init 161 = .ok (.newarray .int, 2) := by decide +kernel
theorem dX5_init_163 : decode cX5_init 163 = .ok (.putfield 72, 3) := by decide +kernel
theorem dX5_init_166 : decode cX5_init 166 = .ok (.aload_n 0, 1) := by decide +kernel
theorem dX5_init_167 : decode cX5_init 167 = .ok (.iconst (-1), 1) := by decide +kernel
theorem dX5_init_168 : decode cX5_init 168 = .ok (.putfield 75, 3) := by decide +kernel
theorem dX5_init_171 : decode cX5_init 171 = .ok (.aload_n 0, 1) := by decide +kernel
theorem dX5_init_172 : decode cX5_init 172 = .ok (.iconst 5, 1) := by decide +kernel
theorem dX5_init_173 : decode cX5_init 173 = .ok (.newarray .int, 2) := by decide +kernel
theorem dX5_init_175 : decode cX5_init 175 = .ok (.putfield 78, 3) := by decide +kernel
theorem dX5_init_178 : decode cX5_init 178 = .ok (.aload_n 0, 1) := by decide +kernel
theorem dX5_init_179 : decode cX5_init 179 = .ok (.iconst 5, 1) := by decide +kernel
theorem dX5_init_180 : decode cX5_init 180 = .ok (.newarray .int, 2) := by decide +kernel
theorem dX5_init_182 : decode cX5_init 182 = .ok (.putfield 81, 3) := by decide +kernel
theorem dX5_init_185 : decode cX5_init 185 = .ok (.aload_n 0, 1) := by decide +kernel
theorem dX5_init_186 : decode cX5_init 186 = .ok (.iconst 5, 1) := by decide +kernel
theorem dX5_init_187 : decode cX5_init 187 = .ok (.newarray .int, 2) := by decide +kernel
theorem dX5_init_189 : decode cX5_init 189 = .ok (.putfield 84, 3) := by decide +kernel
theorem dX5_init_192 : decode cX5_init 192 = .ok (.aload_n 0, 1) := by decide +kernel
theorem dX5_init_193 : decode cX5_init 193 = .ok (.bipush 6, 2) := by decide +kernel
theorem dX5_init_195 : decode cX5_init 195 = .ok (.newarray .int, 2) := by decide +kernel
theorem dX5_init_197 : decode cX5_init 197 = .ok (.putfield 87, 3) := by decide +kernel
theorem dX5_init_200 : decode cX5_init 200 = .ok (.aload_n 0, 1) := by decide +kernel
theorem dX5_init_201 : decode cX5_init 201 = .ok (.bipush 90, 2) := by decide +kernel
theorem dX5_init_203 : decode cX5_init 203 = .ok (.newarray .long, 2) := by decide +kernel
theorem dX5_init_205 : decode cX5_init 205 = .ok (.putfield 90, 3) := by decide +kernel
theorem dX5_init_208 : decode cX5_init 208 = .ok (.aload_n 0, 1) := by decide +kernel
theorem dX5_init_209 : decode cX5_init 209 = .ok (.iconst 5, 1) := by decide +kernel
theorem dX5_init_210 : decode cX5_init 210 = .ok (.newarray .int, 2) := by decide +kernel
theorem dX5_init_212 : decode cX5_init 212 = .ok (.putfield 93, 3) := by decide +kernel
theorem dX5_init_215 : decode cX5_init 215 = .ok (.aload_n 0, 1) := by decide +kernel
theorem dX5_init_216 : decode cX5_init 216 = .ok (.bipush 6, 2) := by decide +kernel
theorem dX5_init_218 : decode cX5_init 218 = .ok (.newarray .int, 2) := by decide +kernel
theorem dX5_init_220 : decode cX5_init 220 = .ok (.putfield 96, 3) := by decide +kernel
theorem dX5_init_223 : decode cX5_init 223 = .ok (.aload_n 0, 1) := by decide +kernel
theorem dX5_init_224 : decode cX5_init 224 = .ok (.bipush 6, 2) := by decide +kernel
theorem dX5_init_226 : decode cX5_init 226 = .ok (.newarray .int, 2) := by decide +kernel
theorem dX5_init_228 : decode cX5_init 228 = .ok (.putfield 99, 3) := by decide +kernel
theorem dX5_init_231 : decode cX5_init 231 = .ok (.aload_n 0, 1) := by decide +kernel
theorem dX5_init_232 : decode cX5_init 232 = .ok (.bipush 6, 2) := by decide +kernel
theorem dX5_init_234 : decode cX5_init 234 = .ok (.newarray .int, 2) := by decide +kernel
theorem dX5_init_236 : decode cX5_init 236 = .ok (.putfield 102, 3) := by decide +kernel
theorem dX5_init_239 : decode cX5_init 239 = .ok (.aload_n 0, 1) := by decide +kernel
theorem dX5_init_240 : decode cX5_init 240 = .ok (.bipush 6, 2) := by decide +kernel
theorem dX5_init_242 : decode cX5_init 242 = .ok (.newarray .int, 2) := by decide +kernel
theorem dX5_init_244 : decode cX5_init 244 = .ok (.putfield 105, 3) := by decide +kernel
theorem dX5_init_247 : decode cX5_init 247 = .ok (.aload_n 0, 1) := by decide +kernel
theorem dX5_init_248 : decode cX5_init 248 = .ok (.iconst 5, 1) := by decide +kernel
theorem dX5_init_249 : decode cX5_init 249 = .ok (.newarray .int, 2) := by decide +kernel
theorem dX5_init_251 : decode cX5_init 251 = .ok (.putfield 108, 3) := by decide +kernel
theorem dX5_init_254 : decode cX5_init 254 = .ok (.aload_n 0, 1) := by decide +kernel
theorem dX5_init_255 : decode cX5_init 255 = .ok (.bipush 15, 2) := by decide +kernel
theorem dX5_init_257 : decode cX5_init 257 = .ok (.newarray .int, 2) := by decide +kernel
theorem dX5_init_259 : decode cX5_init 259 = .ok (.putfield 111, 3) := by decide +kernel
theorem dX5_init_262 : decode cX5_init 262 = .ok (.aload_n 0, 1) := by decide +kernel
theorem dX5_init_263 : decode cX5_init 263 = .ok (.bipush 15, 2) := by decide +kernel
theorem dX5_init_265 : decode cX5_init 265 = .ok (.newarray .int, 2) := by decide +kernel
theorem dX5_init_267 : decode cX5_init 267 = .ok (.putfield 114, 3) := by decide +kernel
theorem dX5_init_270 : decode cX5_init 270 = .ok (.aload_n 0, 1) := by decide +kernel
theorem dX5_init_271 : decode cX5_init 271 = .ok (.iconst 5, 1) := by decide +kernel
theorem dX5_init_272 : decode cX5_init 272 = .ok (.newarray .int, 2) := by decide +kernel
theorem dX5_init_274 : decode cX5_init 274 = .ok (.putfield 117, 3) := by decide +kernel
theorem dX5_init_277 : decode cX5_init 277 = .ok (.aload_n 0, 1) := by decide +kernel
theorem dX5_init_278 : decode cX5_init 278 = .ok (.iconst 5, 1) := by decide +kernel
theorem dX5_init_279 : decode cX5_init 279 = .ok (.newarray .int, 2) := by decide +kernel
theorem dX5_init_281 : decode cX5_init 281 = .ok (.putfield 120, 3) := by decide +kernel
theorem dX5_init_284 : decode cX5_init 284 = .ok (.aload_n 0, 1) := by decide +kernel
theorem dX5_init_285 : decode cX5_init 285 = .ok (.iconst 5, 1) := by decide +kernel
theorem dX5_init_286 : decode cX5_init 286 = .ok (.newarray .int, 2) := by decide +kernel
theorem dX5_init_288 : decode cX5_init 288 = .ok (.putfield 123, 3) := by decide +kernel
theorem dX5_init_291 : decode cX5_init 291 = .ok (.aload_n 0, 1) := by decide +kernel
theorem dX5_init_292 : decode cX5_init 292 = .ok (.iconst 5, 1) := by decide +kernel
theorem dX5_init_293 : decode cX5_init 293 = .ok (.newarray .int, 2) := by decide +kernel
theorem dX5_init_295 : decode cX5_init 295 = .ok (.putfield 126, 3) := by decide +kernel
theorem dX5_init_298 : decode cX5_init 298 = .ok (.aload_n 0, 1) := by decide +kernel
theorem dX5_init_299 : decode cX5_init 299 = .ok (.bipush 30, 2) := by decide +kernel
theorem dX5_init_301 : decode cX5_init 301 = .ok (.newarray .int, 2) := by decide +kernel
theorem dX5_init_303 : decode cX5_init 303 = .ok (.putfield 129, 3) := by decide +kernel
theorem dX5_init_306 : decode cX5_init 306 = .ok (.aload_n 0, 1) := by decide +kernel
theorem dX5_init_307 : decode cX5_init 307 = .ok (.bipush 90, 2) := by decide +kernel
theorem dX5_init_309 : decode cX5_init 309 = .ok (.newarray .long, 2) := by decide +kernel
theorem dX5_init_311 : decode cX5_init 311 = .ok (.putfield 132, 3) := by decide +kernel
theorem dX5_init_314 : decode cX5_init 314 = .ok (.return_, 1) := by decide +kernel
theorem dX5_in_0 : decode cX5_in 0 = .ok (.iload_n 0, 1) := by decide +kernel
theorem dX5_in_1 : decode cX5_in 1 = .ok (.iload_n 1, 1) := by decide +kernel
theorem dX5_in_2 : decode cX5_in 2 = .ok (.if_icmp .lt 12, 3) := by decide +kernel
theorem dX5_in_5 : decode cX5_in 5 = .ok (.iload_n 0, 1) := by decide +kernel
theorem dX5_in_6 : decode cX5_in 6 = .ok (.iload_n 2, 1) := by decide +kernel
theorem dX5_in_7 : decode cX5_in 7 = .ok (.if_icmp .gt 7, 3) := by decide +kernel
theorem dX5_in_10 : decode cX5_in 10 = .ok (.iconst 1, 1) := by decide +kernel
theorem dX5_in_11 : decode cX5_in 11 = .ok (.goto 4, 3) := by decide +kernel
theorem dX5_in_14 : decode cX5_in 14 = .ok (.iconst 0, 1) := by decide +kernel
theorem dX5_in_15 : decode cX5_in 15 = .ok (.ireturn, 1) := by decide +kernel
theorem dX5_refuse_0 : decode cX5_refuse 0 = .ok (.aload_n 0, 1) := by decide +kernel
theorem dX5_refuse_1 : decode cX5_refuse 1 = .ok (.getfield 60, 3) := by decide +kernel
theorem dX5_refuse_4 : decode cX5_refuse 4 = .ok (.iload_n 1, 1) := by decide +kernel
theorem dX5_refuse_5 : decode cX5_refuse 5 = .ok (.ineg, 1) := by decide +kernel
theorem dX5_refuse_6 : decode cX5_refuse 6 = .ok (.dup2, 1) := by decide +kernel
theorem dX5_refuse_7 : decode cX5_refuse 7 = .ok (.iaload, 1) := by decide +kernel
theorem dX5_refuse_8 : decode cX5_refuse 8 = .ok (.iconst 1, 1) := by decide +kernel
theorem dX5_refuse_9 : decode cX5_refuse 9 = .ok (.iadd, 1) := by decide +kernel
theorem dX5_refuse_10 : decode cX5_refuse 10 = .ok (.iastore, 1) := by decide +kernel
theorem dX5_refuse_11 : decode cX5_refuse 11 = .ok (.iload_n 1, 1) := by decide +kernel
theorem dX5_refuse_12 : decode cX5_refuse 12 = .ok (.ireturn, 1) := by decide +kernel
theorem dX5_refuseLong_0 : decode cX5_refuseLong 0 = .ok (.ldc2_w 135, 3) := by decide +kernel
theorem dX5_refuseLong_3 : decode cX5_refuseLong 3 = .ok (.aload_n 0, 1) := by decide +kernel
theorem dX5_refuseLong_4 : decode cX5_refuseLong 4 = .ok (.iload_n 1, 1) := by decide +kernel
theorem dX5_refuseLong_5 : decode cX5_refuseLong 5 = .ok (.invokevirtual 137, 3) := by decide +kernel
theorem dX5_refuseLong_8 : decode cX5_refuseLong 8 = .ok (.i2l, 1) := by decide +kernel
theorem dX5_refuseLong_9 : decode cX5_refuseLong 9 = .ok (.lsub, 1) := by decide +kernel
theorem dX5_refuseLong_10 : decode cX5_refuseLong 10 = .ok (.lreturn, 1) := by decide +kernel
theorem dX5_refuseFar_0 : decode cX5_refuseFar 0 = .ok (.ldc 141, 2) := by decide +kernel
theorem dX5_refuseFar_2 : decode cX5_refuseFar 2 = .ok (.aload_n 0, 1) := by decide +kernel
theorem dX5_refuseFar_3 : decode cX5_refuseFar 3 = .ok (.iload_n 1, 1) := by decide +kernel
theorem dX5_refuseFar_4 : decode cX5_refuseFar 4 = .ok (.invokevirtual 137, 3) := by decide +kernel
theorem dX5_refuseFar_7 : decode cX5_refuseFar 7 = .ok (.isub, 1) := by decide +kernel
theorem dX5_refuseFar_8 : decode cX5_refuseFar 8 = .ok (.ireturn, 1) := by decide +kernel
theorem dX5_isPerson_0 : decode cX5_isPerson 0 = .ok (.iload_n 1, 1) := by decide +kernel
theorem dX5_isPerson_1 : decode cX5_isPerson 1 = .ok (.iconst 0, 1) := by decide +kernel
theorem dX5_isPerson_2 : decode cX5_isPerson 2 = .ok (.aload_n 0, 1) := by decide +kernel
theorem dX5_isPerson_3 : decode cX5_isPerson 3 = .ok (.getfield 142, 3) := by decide +kernel
theorem dX5_isPerson_6 : decode cX5_isPerson 6 = .ok (.iconst 1, 1) := by decide +kernel
theorem dX5_isPerson_7 : decode cX5_isPerson 7 = .ok (.isub, 1) := by decide +kernel
theorem dX5_isPerson_8 : decode cX5_isPerson 8 = .ok (.invokestatic 145, 3) := by decide +kernel
theorem dX5_isPerson_11 : decode cX5_isPerson 11 = .ok (.ireturn, 1) := by decide +kernel
theorem dX5_isPaper_0 : decode cX5_isPaper 0 = .ok (.iload_n 1, 1) := by decide +kernel
theorem dX5_isPaper_1 : decode cX5_isPaper 1 = .ok (.iconst 0, 1) := by decide +kernel
theorem dX5_isPaper_2 : decode cX5_isPaper 2 = .ok (.aload_n 0, 1) := by decide +kernel
theorem dX5_isPaper_3 : decode cX5_isPaper 3 = .ok (.getfield 149, 3) := by decide +kernel
theorem dX5_isPaper_6 : decode cX5_isPaper 6 = .ok (.iconst 1, 1) := by decide +kernel
theorem dX5_isPaper_7 : decode cX5_isPaper 7 = .ok (.isub, 1) := by decide +kernel
theorem dX5_isPaper_8 : decode cX5_isPaper 8 = .ok (.invokestatic 145, 3) := by decide +kernel
theorem dX5_isPaper_11 : decode cX5_isPaper 11 = .ok (.ireturn, 1) := by decide +kernel
theorem dX5_ones_0 : decode cX5_ones 0 = .ok (.iconst 0, 1) := by decide +kernel
theorem dX5_ones_1 : decode cX5_ones 1 = .ok (.istore_n 1, 1) := by decide +kernel
theorem dX5_ones_2 : decode cX5_ones 2 = .ok (.iconst 0, 1) := by decide +kernel
theorem dX5_ones_3 : decode cX5_ones 3 = .ok (.istore_n 2, 1) := by decide +kernel
theorem dX5_ones_4 : decode cX5_ones 4 = .ok (.iload_n 2, 1) := by decide +kernel
theorem dX5_ones_5 : decode cX5_ones 5 = .ok (.bipush 6, 2) := by decide +kernel
theorem dX5_ones_7 : decode cX5_ones 7 = .ok (.if_icmp .ge 17, 3) := by decide +kernel
theorem dX5_ones_10 : decode cX5_ones 10 = .ok (.iload_n 1, 1) := by decide +kernel
theorem dX5_ones_11 : decode cX5_ones 11 = .ok (.iload_n 0, 1) := by decide +kernel
theorem dX5_ones_12 : decode cX5_ones 12 = .ok (.iload_n 2, 1) := by decide +kernel
theorem dX5_ones_13 : decode cX5_ones 13 = .ok (.ishr, 1) := by decide +kernel
theorem dX5_ones_14 : decode cX5_ones 14 = .ok (.iconst 1, 1) := by decide +kernel
theorem dX5_ones_15 : decode cX5_ones 15 = .ok (.iand, 1) := by decide +kernel
theorem dX5_ones_16 : decode cX5_ones 16 = .ok (.iadd, 1) := by decide +kernel
theorem dX5_ones_17 : decode cX5_ones 17 = .ok (.istore_n 1, 1) := by decide +kernel
theorem dX5_ones_18 : decode cX5_ones 18 = .ok (.iinc 2 1, 3) := by decide +kernel
theorem dX5_ones_21 : decode cX5_ones 21 = .ok (.goto (-17), 3) := by decide +kernel
theorem dX5_ones_24 : decode cX5_ones 24 = .ok (.iload_n 1, 1) := by decide +kernel
theorem dX5_ones_25 : decode cX5_ones 25 = .ok (.ireturn, 1) := by decide +kernel
theorem dX5_isBound_0 : decode cX5_isBound 0 = .ok (.aload_n 0, 1) := by decide +kernel
theorem dX5_isBound_1 : decode cX5_isBound 1 = .ok (.getfield 22, 3) := by decide +kernel
theorem dX5_isBound_4 : decode cX5_isBound 4 = .ok (.iload_n 2, 1) := by decide +kernel
theorem dX5_isBound_5 : decode cX5_isBound 5 = .ok (.iaload, 1) := by decide +kernel
theorem dX5_isBound_6 : decode cX5_isBound 6 = .ok (.iload_n 1, 1) := by decide +kernel
theorem dX5_isBound_7 : decode cX5_isBound 7 = .ok (.ishr, 1) := by decide +kernel
theorem dX5_isBound_8 : decode cX5_isBound 8 = .ok (.iconst 1, 1) := by decide +kernel
theorem dX5_isBound_9 : decode cX5_isBound 9 = .ok (.iand, 1) := by decide +kernel
theorem dX5_isBound_10 : decode cX5_isBound 10 = .ok (.iconst 1, 1) := by decide +kernel
theorem dX5_isBound_11 : decode cX5_isBound 11 = .ok (.if_icmp .ne 7, 3) := by decide +kernel
theorem dX5_isBound_14 : decode cX5_isBound 14 = .ok (.iconst 1, 1) := by decide +kernel
theorem dX5_isBound_15 : decode cX5_isBound 15 = .ok (.goto 4, 3) := by decide +kernel
theorem dX5_isBound_18 : decode cX5_isBound 18 = .ok (.iconst 0, 1) := by decide +kernel
theorem dX5_isBound_19 : decode cX5_isBound 19 = .ok (.ireturn, 1) := by decide +kernel
theorem dX5_hasRead_0 : decode cX5_hasRead 0 = .ok (.aload_n 0, 1) := by decide +kernel
theorem dX5_hasRead_1 : decode cX5_hasRead 1 = .ok (.getfield 34, 3) := by decide +kernel
theorem dX5_hasRead_4 : decode cX5_hasRead 4 = .ok (.iload_n 2, 1) := by decide +kernel
theorem dX5_hasRead_5 : decode cX5_hasRead 5 = .ok (.iaload, 1) := by decide +kernel
theorem dX5_hasRead_6 : decode cX5_hasRead 6 = .ok (.iload_n 1, 1) := by decide +kernel
theorem dX5_hasRead_7 : decode cX5_hasRead 7 = .ok (.ishr, 1) := by decide +kernel
theorem dX5_hasRead_8 : decode cX5_hasRead 8 = .ok (.iconst 1, 1) := by decide +kernel
theorem dX5_hasRead_9 : decode cX5_hasRead 9 = .ok (.iand, 1) := by decide +kernel
theorem dX5_hasRead_10 : decode cX5_hasRead 10 = .ok (.iconst 1, 1) := by decide +kernel
theorem dX5_hasRead_11 : decode cX5_hasRead 11 = .ok (.if_icmp .ne 7, 3) := by decide +kernel
theorem dX5_hasRead_14 : decode cX5_hasRead 14 = .ok (.iconst 1, 1) := by decide +kernel
theorem dX5_hasRead_15 : decode cX5_hasRead 15 = .ok (.goto 4, 3) := by decide +kernel
theorem dX5_hasRead_18 : decode cX5_hasRead 18 = .ok (.iconst 0, 1) := by decide +kernel
theorem dX5_hasRead_19 : decode cX5_hasRead 19 = .ok (.ireturn, 1) := by decide +kernel
theorem dX5_letter_0 : decode cX5_letter 0 = .ok (.iload_n 1, 1) := by decide +kernel
theorem dX5_letter_1 : decode cX5_letter 1 = .ok (.ifCond .ge 10, 3) := by decide +kernel
theorem dX5_letter_4 : decode cX5_letter 4 = .ok (.aload_n 0, 1) := by decide +kernel
theorem dX5_letter_5 : decode cX5_letter 5 = .ok (.bipush (-4), 2) := by decide +kernel
theorem dX5_letter_7 : decode cX5_letter 7 = .ok (.invokevirtual 137, 3) := by decide +kernel
theorem dX5_letter_10 : decode cX5_letter 10 = .ok (.ireturn, 1) := by decide +kernel
theorem dX5_letter_11 : decode cX5_letter 11 = .ok (.iload_n 1, 1) := by decide +kernel
theorem dX5_letter_12 : decode cX5_letter 12 = .ok (.sipush 255, 3) := by decide +kernel
theorem dX5_letter_15 : decode cX5_letter 15 = .ok (.if_icmp .gt 12, 3) := by decide +kernel
theorem dX5_letter_18 : decode cX5_letter 18 = .ok (.aload_n 0, 1) := by decide +kernel
theorem dX5_letter_19 : decode cX5_letter 19 = .ok (.getfield 152, 3) := by decide +kernel
theorem dX5_letter_22 : decode cX5_letter 22 = .ok (.bipush 64, 2) := by decide +kernel
theorem dX5_letter_24 : decode cX5_letter 24 = .ok (.if_icmp .ne 10, 3) := by decide +kernel
theorem dX5_letter_27 : decode cX5_letter 27 = .ok (.aload_n 0, 1) := by decide +kernel
theorem dX5_letter_28 : decode cX5_letter 28 = .ok (.bipush (-6), 2) := by decide +kernel
theorem dX5_letter_30 : decode cX5_letter 30 = .ok (.invokevirtual 137, 3) := by decide +kernel
theorem dX5_letter_33 : decode cX5_letter 33 = .ok (.ireturn, 1) := by decide +kernel
theorem dX5_letter_34 : decode cX5_letter 34 = .ok (.aload_n 0, 1) := by decide +kernel
theorem dX5_letter_35 : decode cX5_letter 35 = .ok (.getfield 54, 3) := by decide +kernel
theorem dX5_letter_38 : decode cX5_letter 38 = .ok (.aload_n 0, 1) := by decide +kernel
theorem dX5_letter_39 : decode cX5_letter 39 = .ok (.getfield 152, 3) := by decide +kernel
theorem dX5_letter_42 : decode cX5_letter 42 = .ok (.iload_n 1, 1) := by decide +kernel
theorem dX5_letter_43 : decode cX5_letter 43 = .ok (.iastore, 1) := by decide +kernel
theorem dX5_letter_44 : decode cX5_letter 44 = .ok (.aload_n 0, 1) := by decide +kernel
theorem dX5_letter_45 : decode cX5_letter 45 = .ok (.dup, 1) := by decide +kernel
theorem dX5_letter_46 : decode cX5_letter 46 = .ok (.getfield 152, 3) := by decide +kernel
theorem dX5_letter_49 : decode cX5_letter 49 = .ok (.iconst 1, 1) := by decide +kernel
theorem dX5_letter_50 : decode cX5_letter 50 = .ok (.iadd, 1) := by decide +kernel
theorem dX5_letter_51 : decode cX5_letter 51 = .ok (.putfield 152, 3) := by decide +kernel
theorem dX5_letter_54 : decode cX5_letter 54 = .ok (.aload_n 0, 1) := by decide +kernel
theorem dX5_letter_55 : decode cX5_letter 55 = .ok (.getfield 152, 3) := by decide +kernel
theorem dX5_letter_58 : decode cX5_letter 58 = .ok (.ireturn, 1) := by decide +kernel
theorem dX5_sign_0 : decode cX5_sign 0 = .ok (.aload_n 0, 1) := by decide +kernel
theorem dX5_sign_1 : decode cX5_sign 1 = .ok (.getfield 155, 3) := by decide +kernel
theorem dX5_sign_4 : decode cX5_sign 4 = .ok (.aload_n 0, 1) := by decide +kernel
theorem dX5_sign_5 : decode cX5_sign 5 = .ok (.getfield 152, 3) := by decide +kernel
theorem dX5_sign_8 : decode cX5_sign 8 = .ok (.if_icmp .ge 15, 3) := by decide +kernel
theorem dX5_sign_11 : decode cX5_sign 11 = .ok (.aload_n 0, 1) := by decide +kernel
theorem dX5_sign_12 : decode cX5_sign 12 = .ok (.getfield 54, 3) := by decide +kernel
theorem dX5_sign_15 : decode cX5_sign 15 = .ok (.aload_n 0, 1) := by decide +kernel
theorem dX5_sign_16 : decode cX5_sign 16 = .ok (.getfield 155, 3) := by decide +kernel
theorem dX5_sign_19 : decode cX5_sign 19 = .ok (.iaload, 1) := by decide +kernel
theorem dX5_sign_20 : decode cX5_sign 20 = .ok (.goto 4, 3) := by decide +kernel
theorem dX5_sign_23 : decode cX5_sign 23 = .ok (.iconst (-1), 1) := by decide +kernel
theorem dX5_sign_24 : decode cX5_sign 24 = .ok (.ireturn, 1) := by decide +kernel
theorem dX5_goesBy_0 : decode cX5_goesBy 0 = .ok (.aload_n 0, 1) := by decide +kernel
theorem dX5_goesBy_1 : decode cX5_goesBy 1 = .ok (.invokevirtual 158, 3) := by decide +kernel
theorem dX5_goesBy_4 : decode cX5_goesBy 4 = .ok (.iload_n 1, 1) := by decide +kernel
theorem dX5_goesBy_5 : decode cX5_goesBy 5 = .ok (.if_icmp .eq 5, 3) := by decide +kernel
theorem dX5_goesBy_8 : decode cX5_goesBy 8 = .ok (.iconst 0, 1) := by decide +kernel
theorem dX5_goesBy_9 : decode cX5_goesBy 9 = .ok (.ireturn, 1) := by decide +kernel
theorem dX5_goesBy_10 : decode cX5_goesBy 10 = .ok (.aload_n 0, 1) := by decide +kernel
theorem dX5_goesBy_11 : decode cX5_goesBy 11 = .ok (.dup, 1) := by decide +kernel
theorem dX5_goesBy_12 : decode cX5_goesBy 12 = .ok (.getfield 155, 3) := by decide +kernel
theorem dX5_goesBy_15 : decode cX5_goesBy 15 = .ok (.iconst 1, 1) := by decide +kernel
theorem dX5_goesBy_16 : decode cX5_goesBy 16 = .ok (.iadd, 1) := by decide +kernel
theorem dX5_goesBy_17 : decode cX5_goesBy 17 = .ok (.putfield 155, 3) := by decide +kernel
theorem dX5_goesBy_20 : decode cX5_goesBy 20 = .ok (.iconst 1, 1) := by decide +kernel
theorem dX5_goesBy_21 : decode cX5_goesBy 21 = .ok (.ireturn, 1) := by decide +kernel
theorem dX5_numberTo_0 : decode cX5_numberTo 0 = .ok (.iconst 0, 1) := by decide +kernel
theorem dX5_numberTo_1 : decode cX5_numberTo 1 = .ok (.istore_n 3, 1) := by decide +kernel
theorem dX5_numberTo_2 : decode cX5_numberTo 2 = .ok (.iconst 0, 1) := by decide +kernel
theorem dX5_numberTo_3 : decode cX5_numberTo 3 = .ok (.istore 4, 2) := by decide +kernel
theorem dX5_numberTo_5 : decode cX5_numberTo 5 = .ok (.iload 4, 2) := by decide +kernel
theorem dX5_numberTo_7 : decode cX5_numberTo 7 = .ok (.iload_n 2, 1) := by decide +kernel
theorem dX5_numberTo_8 : decode cX5_numberTo 8 = .ok (.if_icmp .ge 46, 3) := by decide +kernel
theorem dX5_numberTo_11 : decode cX5_numberTo 11 = .ok (.aload_n 0, 1) := by decide +kernel
theorem dX5_numberTo_12 : decode cX5_numberTo 12 = .ok (.invokevirtual 158, 3) := by decide +kernel
theorem dX5_numberTo_15 : decode cX5_numberTo 15 = .ok (.bipush 48, 2) := by decide +kernel
theorem dX5_numberTo_17 : decode cX5_numberTo 17 = .ok (.bipush 57, 2) := by decide +kernel
theorem dX5_numberTo_19 : decode cX5_numberTo 19 = .ok (.invokestatic 145, 3) := by decide +kernel
theorem dX5_numberTo_22 : decode cX5_numberTo 22 = .ok (.ifCond .eq 32, 3) := by decide +kernel
theorem dX5_numberTo_25 : decode cX5_numberTo 25 = .ok (.bipush 10, 2) := by decide +kernel
theorem dX5_numberTo_27 : decode cX5_numberTo 27 = .ok (.iload_n 3, 1) := by decide +kernel
theorem dX5_numberTo_28 : decode cX5_numberTo 28 = .ok (.imul, 1) := by decide +kernel
theorem dX5_numberTo_29 : decode cX5_numberTo 29 = .ok (.aload_n 0, 1) := by decide +kernel
theorem dX5_numberTo_30 : decode cX5_numberTo 30 = .ok (.invokevirtual 158, 3) := by decide +kernel
theorem dX5_numberTo_33 : decode cX5_numberTo 33 = .ok (.iadd, 1) := by decide +kernel
theorem dX5_numberTo_34 : decode cX5_numberTo 34 = .ok (.bipush 48, 2) := by decide +kernel
theorem dX5_numberTo_36 : decode cX5_numberTo 36 = .ok (.isub, 1) := by decide +kernel
theorem dX5_numberTo_37 : decode cX5_numberTo 37 = .ok (.istore_n 3, 1) := by decide +kernel
theorem dX5_numberTo_38 : decode cX5_numberTo 38 = .ok (.aload_n 0, 1) := by decide +kernel
theorem dX5_numberTo_39 : decode cX5_numberTo 39 = .ok (.dup, 1) := by decide +kernel
theorem dX5_numberTo_40 : decode cX5_numberTo 40 = .ok (.getfield 155, 3) := by decide +kernel
theorem dX5_numberTo_43 : decode cX5_numberTo 43 = .ok (.iconst 1, 1) := by decide +kernel
theorem dX5_numberTo_44 : decode cX5_numberTo 44 = .ok (.iadd, 1) := by decide +kernel
theorem dX5_numberTo_45 : decode cX5_numberTo 45 = .ok (.putfield 155, 3) := by decide +kernel
theorem dX5_numberTo_48 : decode cX5_numberTo 48 = .ok (.iinc 4 1, 3) := by decide +kernel
theorem dX5_numberTo_51 : decode cX5_numberTo 51 = .ok (.goto (-46), 3) := by decide +kernel
theorem dX5_numberTo_54 : decode cX5_numberTo 54 = .ok (.aload_n 0, 1) := by decide +kernel
theorem dX5_numberTo_55 : decode cX5_numberTo 55 = .ok (.getfield 69, 3) := by decide +kernel
theorem dX5_numberTo_58 : decode cX5_numberTo 58 = .ok (.iload_n 1, 1) := by decide +kernel
theorem dX5_numberTo_59 : decode cX5_numberTo 59 = .ok (.iload_n 3, 1) := by decide +kernel
theorem dX5_numberTo_60 : decode cX5_numberTo 60 = .ok (.iastore, 1) := by decide +kernel
theorem dX5_numberTo_61 : decode cX5_numberTo 61 = .ok (.iload 4, 2) := by decide +kernel
theorem dX5_numberTo_63 : decode cX5_numberTo 63 = .ok (.ifCond .le 7, 3) := by decide +kernel
theorem dX5_numberTo_66 : decode cX5_numberTo 66 = .ok (.iconst 1, 1) := by decide +kernel
theorem dX5_numberTo_67 : decode cX5_numberTo 67 = .ok (.goto 4, 3) := by decide +kernel
theorem dX5_numberTo_70 : decode cX5_numberTo 70 = .ok (.iconst 0, 1) := by decide +kernel
theorem dX5_numberTo_71 : decode cX5_numberTo 71 = .ok (.ireturn, 1) := by decide +kernel
theorem dX5_kindOf_0 : decode cX5_kindOf 0 = .ok (.iload_n 0, 1) := by decide +kernel
theorem dX5_kindOf_1 : decode cX5_kindOf 1 = .ok (.bipush 98, 2) := by decide +kernel
theorem dX5_kindOf_3 : decode cX5_kindOf 3 = .ok (.if_icmp .ne 7, 3) := by decide +kernel
theorem dX5_kindOf_6 : decode cX5_kindOf 6 = .ok (.iconst 0, 1) := by decide +kernel
theorem dX5_kindOf_7 : decode cX5_kindOf 7 = .ok (.goto 65, 3) := by decide +kernel
theorem dX5_kindOf_10 : decode cX5_kindOf 10 = .ok (.iload_n 0, 1) := by decide +kernel
theorem dX5_kindOf_11 : decode cX5_kindOf 11 = .ok (.bipush 108, 2) := by decide +kernel
theorem dX5_kindOf_13 : decode cX5_kindOf 13 = .ok (.if_icmp .ne 7, 3) := by decide +kernel
theorem dX5_kindOf_16 : decode cX5_kindOf 16 = .ok (.iconst 1, 1) := by decide +kernel
theorem dX5_kindOf_17 : decode cX5_kindOf 17 = .ok (.goto 55, 3) := by decide +kernel
theorem dX5_kindOf_20 : decode cX5_kindOf 20 = .ok (.iload_n 0, 1) := by decide +kernel
theorem dX5_kindOf_21 : decode cX5_kindOf 21 = .ok (.bipush 116, 2) := by decide +kernel
theorem dX5_kindOf_23 : decode cX5_kindOf 23 = .ok (.if_icmp .ne 7, 3) := by decide +kernel
theorem dX5_kindOf_26 : decode cX5_kindOf 26 = .ok (.iconst 2, 1) := by decide +kernel
theorem dX5_kindOf_27 : decode cX5_kindOf 27 = .ok (.goto 45, 3) := by decide +kernel
theorem dX5_kindOf_30 : decode cX5_kindOf 30 = .ok (.iload_n 0, 1) := by decide +kernel
theorem dX5_kindOf_31 : decode cX5_kindOf 31 = .ok (.bipush 101, 2) := by decide +kernel
theorem dX5_kindOf_33 : decode cX5_kindOf 33 = .ok (.if_icmp .ne 7, 3) := by decide +kernel
theorem dX5_kindOf_36 : decode cX5_kindOf 36 = .ok (.iconst 3, 1) := by decide +kernel
theorem dX5_kindOf_37 : decode cX5_kindOf 37 = .ok (.goto 35, 3) := by decide +kernel
theorem dX5_kindOf_40 : decode cX5_kindOf 40 = .ok (.iload_n 0, 1) := by decide +kernel
theorem dX5_kindOf_41 : decode cX5_kindOf 41 = .ok (.bipush 119, 2) := by decide +kernel
theorem dX5_kindOf_43 : decode cX5_kindOf 43 = .ok (.if_icmp .ne 7, 3) := by decide +kernel
theorem dX5_kindOf_46 : decode cX5_kindOf 46 = .ok (.iconst 4, 1) := by decide +kernel
theorem dX5_kindOf_47 : decode cX5_kindOf 47 = .ok (.goto 25, 3) := by decide +kernel
theorem dX5_kindOf_50 : decode cX5_kindOf 50 = .ok (.iload_n 0, 1) := by decide +kernel
theorem dX5_kindOf_51 : decode cX5_kindOf 51 = .ok (.bipush 103, 2) := by decide +kernel
theorem dX5_kindOf_53 : decode cX5_kindOf 53 = .ok (.if_icmp .ne 7, 3) := by decide +kernel
theorem dX5_kindOf_56 : decode cX5_kindOf 56 = .ok (.iconst 5, 1) := by decide +kernel
theorem dX5_kindOf_57 : decode cX5_kindOf 57 = .ok (.goto 15, 3) := by decide +kernel
theorem dX5_kindOf_60 : decode cX5_kindOf 60 = .ok (.iload_n 0, 1) := by decide +kernel
theorem dX5_kindOf_61 : decode cX5_kindOf 61 = .ok (.bipush 115, 2) := by decide +kernel
theorem dX5_kindOf_63 : decode cX5_kindOf 63 = .ok (.if_icmp .ne 8, 3) := by decide +kernel
theorem dX5_kindOf_66 : decode cX5_kindOf 66 = .ok (.bipush 6, 2) := by decide +kernel
theorem dX5_kindOf_68 : decode cX5_kindOf 68 = .ok (.goto 4, 3) := by decide +kernel
theorem dX5_kindOf_71 : decode cX5_kindOf 71 = .ok (.iconst (-1), 1) := by decide +kernel
theorem dX5_kindOf_72 : decode cX5_kindOf 72 = .ok (.ireturn, 1) := by decide +kernel
theorem dX5_personTold_0 : decode cX5_personTold 0 = .ok (.aload_n 0, 1) := by decide +kernel
theorem dX5_personTold_1 : decode cX5_personTold 1 = .ok (.invokevirtual 158, 3) := by decide +kernel
theorem dX5_personTold_4 : decode cX5_personTold 4 = .ok (.invokestatic 162, 3) := by decide +kernel
theorem dX5_personTold_7 : decode cX5_personTold 7 = .ok (.istore_n 2, 1) := by decide +kernel
theorem dX5_personTold_8 : decode cX5_personTold 8 = .ok (.iload_n 2, 1) := by decide +kernel
theorem dX5_personTold_9 : decode cX5_personTold 9 = .ok (.ifCond .ge 5, 3) := by decide +kernel
theorem dX5_personTold_12 : decode cX5_personTold 12 = .ok (.iconst 0, 1) := by decide +kernel
theorem dX5_personTold_13 : decode cX5_personTold 13 = .ok (.ireturn, 1) := by decide +kernel
theorem dX5_personTold_14 : decode cX5_personTold 14 = .ok (.aload_n 0, 1) := by decide +kernel
theorem dX5_personTold_15 : decode cX5_personTold 15 = .ok (.dup, 1) := by decide +kernel
theorem dX5_personTold_16 : decode cX5_personTold 16 = .ok (.getfield 155, 3) := by decide +kernel
theorem dX5_personTold_19 : decode cX5_personTold 19 = .ok (.iconst 1, 1) := by decide +kernel
theorem dX5_personTold_20 : decode cX5_personTold 20 = .ok (.iadd, 1) := by decide +kernel
theorem dX5_personTold_21 : decode cX5_personTold 21 = .ok (.putfield 155, 3) := by decide +kernel
theorem dX5_personTold_24 : decode cX5_personTold 24 = .ok (.aload_n 0, 1) := by decide +kernel
theorem dX5_personTold_25 : decode cX5_personTold 25 = .ok (.getfield 69, 3) := by decide +kernel
theorem dX5_personTold_28 : decode cX5_personTold 28 = .ok (.iload_n 1, 1) := by decide +kernel
theorem dX5_personTold_29 : decode cX5_personTold 29 = .ok (.iload_n 2, 1) := by decide +kernel
theorem dX5_personTold_30 : decode cX5_personTold 30 = .ok (.iastore, 1) := by decide +kernel
theorem dX5_personTold_31 : decode cX5_personTold 31 = .ok (.aload_n 0, 1) := by decide +kernel
theorem dX5_personTold_32 : decode cX5_personTold 32 = .ok (.iload_n 1, 1) := by decide +kernel
theorem dX5_personTold_33 : decode cX5_personTold 33 = .ok (.iconst 1, 1) := by decide +kernel
theorem dX5_personTold_34 : decode cX5_personTold 34 = .ok (.iadd, 1) := by decide +kernel
theorem dX5_personTold_35 : decode cX5_personTold 35 = .ok (.iconst 1, 1) := by decide +kernel
theorem dX5_personTold_36 : decode cX5_personTold 36 = .ok (.invokevirtual 165, 3) := by decide +kernel
theorem dX5_personTold_39 : decode cX5_personTold 39 = .ok (.ifCond .eq 18, 3) := by decide +kernel
theorem dX5_personTold_42 : decode cX5_personTold 42 = .ok (.aload_n 0, 1) := by decide +kernel
theorem dX5_personTold_43 : decode cX5_personTold 43 = .ok (.iload_n 1, 1) := by decide +kernel
theorem dX5_personTold_44 : decode cX5_personTold 44 = .ok (.iconst 2, 1) := by decide +kernel
theorem dX5_personTold_45 : decode cX5_personTold 45 = .ok (.iadd, 1) := by decide +kernel
theorem dX5_personTold_46 : decode cX5_personTold 46 = .ok (.iconst 2, 1) := by decide +kernel
theorem dX5_personTold_47 : decode cX5_personTold 47 = .ok (.invokevirtual 165, 3) := by decide +kernel
theorem dX5_personTold_50 : decode cX5_personTold 50 = .ok (.ifCond .eq 7, 3) := by decide +kernel
theorem dX5_personTold_53 : decode cX5_personTold 53 = .ok (.iconst 1, 1) := by decide +kernel
theorem dX5_personTold_54 : decode cX5_personTold 54 = .ok (.goto 4, 3) := by decide +kernel
theorem dX5_personTold_57 : decode cX5_personTold 57 = .ok (.iconst 0, 1) := by decide +kernel
theorem dX5_personTold_58 : decode cX5_personTold 58 = .ok (.ireturn, 1) := by decide +kernel
theorem dX5_paperTold_0 : decode cX5_paperTold 0 = .ok (.iconst 0, 1) := by decide +kernel
theorem dX5_paperTold_1 : decode cX5_paperTold 1 = .ok (.istore_n 2, 1) := by decide +kernel
theorem dX5_paperTold_2 : decode cX5_paperTold 2 = .ok (.iconst (-1), 1) := by decide +kernel
theorem dX5_paperTold_3 : decode cX5_paperTold 3 = .ok (.istore_n 3, 1) := by decide +kernel
theorem dX5_paperTold_4 : decode cX5_paperTold 4 = .ok (.iconst 0, 1) := by decide +kernel
theorem dX5_paperTold_5 : decode cX5_paperTold 5 = .ok (.istore 4, 2) := by decide +kernel
theorem dX5_paperTold_7 : decode cX5_paperTold 7 = .ok (.iconst 1, 1) := by decide +kernel
theorem dX5_paperTold_8 : decode cX5_paperTold 8 = .ok (.istore 5, 2) := by decide +kernel
theorem dX5_paperTold_10 : decode cX5_paperTold 10 = .ok (.iload 4, 2) := by decide +kernel
theorem dX5_paperTold_12 : decode cX5_paperTold 12 = .ok (.bipush 6, 2) := by decide +kernel
theorem dX5_paperTold_14 : decode cX5_paperTold 14 = .ok (.if_icmp .ge 70, 3) := by decide +kernel
theorem dX5_paperTold_17 : decode cX5_paperTold 17 = .ok (.aload_n 0, 1) := by decide +kernel
theorem dX5_paperTold_18 : decode cX5_paperTold 18 = .ok (.invokevirtual 158, 3) := by decide +kernel
theorem dX5_paperTold_21 : decode cX5_paperTold 21 = .ok (.bipush 48, 2) := by decide +kernel
theorem dX5_paperTold_23 : decode cX5_paperTold 23 = .ok (.bipush 57, 2) := by decide +kernel
theorem dX5_paperTold_25 : decode cX5_paperTold 25 = .ok (.invokestatic 145, 3) := by decide +kernel
theorem dX5_paperTold_28 : decode cX5_paperTold 28 = .ok (.ifCond .eq 56, 3) := by decide +kernel
theorem dX5_paperTold_31 : decode cX5_paperTold 31 = .ok (.aload_n 0, 1) := by decide +kernel
theorem dX5_paperTold_32 : decode cX5_paperTold 32 = .ok (.invokevirtual 158, 3) := by decide +kernel
theorem dX5_paperTold_35 : decode cX5_paperTold 35 = .ok (.bipush 48, 2) := by decide +kernel
theorem dX5_paperTold_37 : decode cX5_paperTold 37 = .ok (.isub, 1) := by decide +kernel
theorem dX5_paperTold_38 : decode cX5_paperTold 38 = .ok (.istore 6, 2) := by decide +kernel
theorem dX5_paperTold_40 : decode cX5_paperTold 40 = .ok (.iload 5, 2) := by decide +kernel
theorem dX5_paperTold_42 : decode cX5_paperTold 42 = .ok (.ifCond .eq 13, 3) := by decide +kernel
theorem dX5_paperTold_45 : decode cX5_paperTold 45 = .ok (.iload 6, 2) := by decide +kernel
theorem dX5_paperTold_47 : decode cX5_paperTold 47 = .ok (.iload_n 3, 1) := by decide +kernel
theorem dX5_paperTold_48 : decode cX5_paperTold 48 = .ok (.if_icmp .le 7, 3) := by decide +kernel
theorem dX5_paperTold_51 : decode cX5_paperTold 51 = .ok (.iconst 1, 1) := by decide +kernel
theorem dX5_paperTold_52 : decode cX5_paperTold 52 = .ok (.goto 4, 3) := by decide +kernel
theorem dX5_paperTold_55 : decode cX5_paperTold 55 = .ok (.iconst 0, 1) := by decide +kernel
theorem dX5_paperTold_56 : decode cX5_paperTold 56 = .ok (.istore 5, 2) := by decide +kernel
theorem dX5_paperTold_58 : decode cX5_paperTold 58 = .ok (.iload 6, 2) := by decide +kernel
theorem dX5_paperTold_60 : decode cX5_paperTold 60 = .ok (.istore_n 3, 1) := by decide +kernel
theorem dX5_paperTold_61 : decode cX5_paperTold 61 = .ok (.iload_n 2, 1) := by decide +kernel
theorem dX5_paperTold_62 : decode cX5_paperTold 62 = .ok (.iconst 1, 1) := by decide +kernel
theorem dX5_paperTold_63 : decode cX5_paperTold 63 = .ok (.iload 6, 2) := by decide +kernel
theorem dX5_paperTold_65 : decode cX5_paperTold 65 = .ok (.ishl, 1) := by decide +kernel
theorem dX5_paperTold_66 : decode cX5_paperTold 66 = .ok (.ior, 1) := by decide +kernel
theorem dX5_paperTold_67 : decode cX5_paperTold 67 = .ok (.istore_n 2, 1) := by decide +kernel
theorem dX5_paperTold_68 : decode cX5_paperTold 68 = .ok (.aload_n 0, 1) := by decide +kernel
theorem dX5_paperTold_69 : decode cX5_paperTold 69 = .ok (.dup, 1) := by decide +kernel
theorem dX5_paperTold_70 : decode cX5_paperTold 70 = .ok (.getfield 155, 3) := by decide +kernel
theorem dX5_paperTold_73 : decode cX5_paperTold 73 = .ok (.iconst 1, 1) := by decide +kernel
theorem dX5_paperTold_74 : decode cX5_paperTold 74 = .ok (.iadd, 1) := by decide +kernel
theorem dX5_paperTold_75 : decode cX5_paperTold 75 = .ok (.putfield 155, 3) := by decide +kernel
theorem dX5_paperTold_78 : decode cX5_paperTold 78 = .ok (.iinc 4 1, 3) := by decide +kernel
theorem dX5_paperTold_81 : decode cX5_paperTold 81 = .ok (.goto (-71), 3) := by decide +kernel
theorem dX5_paperTold_84 : decode cX5_paperTold 84 = .ok (.aload_n 0, 1) := by decide +kernel
theorem dX5_paperTold_85 : decode cX5_paperTold 85 = .ok (.getfield 69, 3) := by decide +kernel
theorem dX5_paperTold_88 : decode cX5_paperTold 88 = .ok (.iload_n 1, 1) := by decide +kernel
theorem dX5_paperTold_89 : decode cX5_paperTold 89 = .ok (.iload_n 2, 1) := by decide +kernel
theorem dX5_paperTold_90 : decode cX5_paperTold 90 = .ok (.iastore, 1) := by decide +kernel
theorem dX5_paperTold_91 : decode cX5_paperTold 91 = .ok (.aload_n 0, 1) := by decide +kernel
theorem dX5_paperTold_92 : decode cX5_paperTold 92 = .ok (.getfield 69, 3) := by decide +kernel
theorem dX5_paperTold_95 : decode cX5_paperTold 95 = .ok (.iload_n 1, 1) := by decide +kernel
theorem dX5_paperTold_96 : decode cX5_paperTold 96 = .ok (.iconst 1, 1) := by decide +kernel
theorem dX5_paperTold_97 : decode cX5_paperTold 97 = .ok (.iadd, 1) := by decide +kernel
theorem dX5_paperTold_98 : decode cX5_paperTold 98 = .ok (.iload 5, 2) := by decide +kernel
theorem dX5_paperTold_100 : decode cX5_paperTold 100 = .ok (.ifCond .eq 7, 3) := by decide +kernel
theorem dX5_paperTold_103 : decode cX5_paperTold 103 = .ok (.iload_n 3, 1) := by decide +kernel
theorem dX5_paperTold_104 : decode cX5_paperTold 104 = .ok (.goto 5, 3) := by decide +kernel
theorem dX5_paperTold_107 : decode cX5_paperTold 107 = .ok (.bipush 99, 2) := by decide +kernel
theorem dX5_paperTold_109 : decode cX5_paperTold 109 = .ok (.iastore, 1) := by decide +kernel
theorem dX5_paperTold_110 : decode cX5_paperTold 110 = .ok (.iload 4, 2) := by decide +kernel
theorem dX5_paperTold_112 : decode cX5_paperTold 112 = .ok (.ifCond .le 90, 3) := by decide +kernel
theorem dX5_paperTold_115 : decode cX5_paperTold 115 = .ok (.aload_n 0, 1) := by decide +kernel
theorem dX5_paperTold_116 : decode cX5_paperTold 116 = .ok (.bipush 44, 2) := by decide +kernel
theorem dX5_paperTold_118 : decode cX5_paperTold 118 = .ok (.invokevirtual 169, 3) := by decide +kernel
theorem dX5_paperTold_121 : decode cX5_paperTold 121 = .ok (.ifCond .eq 81, 3) := by decide +kernel
theorem dX5_paperTold_124 : decode cX5_paperTold 124 = .ok (.aload_n 0, 1) := by decide +kernel
theorem dX5_paperTold_125 : decode cX5_paperTold 125 = .ok (.iload_n 1, 1) := by decide +kernel
theorem dX5_paperTold_126 : decode cX5_paperTold 126 = .ok (.iconst 2, 1) := by decide +kernel
theorem dX5_paperTold_127 : decode cX5_paperTold 127 = .ok (.iadd, 1) := by decide +kernel
theorem dX5_paperTold_128 : decode cX5_paperTold 128 = .ok (.iconst 3, 1) := by decide +kernel
theorem dX5_paperTold_129 : decode cX5_paperTold 129 = .ok (.invokevirtual 165, 3) := by decide +kernel
theorem dX5_paperTold_132 : decode cX5_paperTold 132 = .ok (.ifCond .eq 70, 3) := by decide +kernel
theorem dX5_paperTold_135 : decode cX5_paperTold 135 = .ok (.aload_n 0, 1) := by decide +kernel
theorem dX5_paperTold_136 : decode cX5_paperTold 136 = .ok (.bipush 44, 2) := by decide +kernel
theorem dX5_paperTold_138 : decode cX5_paperTold 138 = .ok (.invokevirtual 169, 3) := by decide +kernel
theorem dX5_paperTold_141 : decode cX5_paperTold 141 = .ok (.ifCond .eq 61, 3) := by decide +kernel
theorem dX5_paperTold_144 : decode cX5_paperTold 144 = .ok (.aload_n 0, 1) := by decide +kernel
theorem dX5_paperTold_145 : decode cX5_paperTold 145 = .ok (.iload_n 1, 1) := by decide +kernel
theorem dX5_paperTold_146 : decode cX5_paperTold 146 = .ok (.iconst 3, 1) := by decide +kernel
theorem dX5_paperTold_147 : decode cX5_paperTold 147 = .ok (.iadd, 1) := by decide +kernel
theorem dX5_paperTold_148 : decode cX5_paperTold 148 = .ok (.iconst 3, 1) := by decide +kernel
theorem dX5_paperTold_149 : decode cX5_paperTold 149 = .ok (.invokevirtual 165, 3) := by decide +kernel
theorem dX5_paperTold_152 : decode cX5_paperTold 152 = .ok (.ifCond .eq 50, 3) := by decide +kernel
theorem dX5_paperTold_155 : decode cX5_paperTold 155 = .ok (.aload_n 0, 1) := by decide +kernel
theorem dX5_paperTold_156 : decode cX5_paperTold 156 = .ok (.bipush 58, 2) := by decide +kernel
theorem dX5_paperTold_158 : decode cX5_paperTold 158 = .ok (.invokevirtual 169, 3) := by decide +kernel
theorem dX5_paperTold_161 : decode cX5_paperTold 161 = .ok (.ifCond .eq 41, 3) := by decide +kernel
theorem dX5_paperTold_164 : decode cX5_paperTold 164 = .ok (.aload_n 0, 1) := by decide +kernel
theorem dX5_paperTold_165 : decode cX5_paperTold 165 = .ok (.iload_n 1, 1) := by decide +kernel
theorem dX5_paperTold_166 : decode cX5_paperTold 166 = .ok (.iconst 4, 1) := by decide +kernel
theorem dX5_paperTold_167 : decode cX5_paperTold 167 = .ok (.iadd, 1) := by decide +kernel
theorem dX5_paperTold_168 : decode cX5_paperTold 168 = .ok (.iconst 1, 1) := by decide +kernel
theorem dX5_paperTold_169 : decode cX5_paperTold 169 = .ok (.invokevirtual 165, 3) := by decide +kernel
theorem dX5_paperTold_172 : decode cX5_paperTold 172 = .ok (.ifCond .eq 30, 3) := by decide +kernel
theorem dX5_paperTold_175 : decode cX5_paperTold 175 = .ok (.aload_n 0, 1) := by decide +kernel
theorem dX5_paperTold_176 : decode cX5_paperTold 176 = .ok (.iload_n 1, 1) := by decide +kernel
theorem dX5_paperTold_177 : decode cX5_paperTold 177 = .ok (.iconst 5, 1) := by decide +kernel
theorem dX5_paperTold_178 : decode cX5_paperTold 178 = .ok (.iadd, 1) := by decide +kernel
theorem dX5_paperTold_179 : decode cX5_paperTold 179 = .ok (.iconst 1, 1) := by decide +kernel
theorem dX5_paperTold_180 : decode cX5_paperTold 180 = .ok (.invokevirtual 165, 3) := by decide +kernel
theorem dX5_paperTold_183 : decode cX5_paperTold 183 = .ok (.ifCond .eq 19, 3) := by decide +kernel
theorem dX5_paperTold_186 : decode cX5_paperTold 186 = .ok (.aload_n 0, 1) := by decide +kernel
theorem dX5_paperTold_187 : decode cX5_paperTold 187 = .ok (.iload_n 1, 1) := by decide +kernel
theorem dX5_paperTold_188 : decode cX5_paperTold 188 = .ok (.bipush 6, 2) := by decide +kernel
theorem dX5_paperTold_190 : decode cX5_paperTold 190 = .ok (.iadd, 1) := by decide +kernel
theorem dX5_paperTold_191 : decode cX5_paperTold 191 = .ok (.iconst 1, 1) := by decide +kernel
theorem dX5_paperTold_192 : decode cX5_paperTold 192 = .ok (.invokevirtual 165, 3) := by decide +kernel
theorem dX5_paperTold_195 : decode cX5_paperTold 195 = .ok (.ifCond .eq 7, 3) := by decide +kernel
theorem dX5_paperTold_198 : decode cX5_paperTold 198 = .ok (.iconst 1, 1) := by decide +kernel
theorem dX5_paperTold_199 : decode cX5_paperTold 199 = .ok (.goto 4, 3) := by decide +kernel
theorem dX5_paperTold_202 : decode cX5_paperTold 202 = .ok (.iconst 0, 1) := by decide +kernel
theorem dX5_paperTold_203 : decode cX5_paperTold 203 = .ok (.ireturn, 1) := by decide +kernel
theorem dX5_statementTold_0 : decode cX5_statementTold 0 = .ok (.bipush 9, 2) := by decide +kernel
theorem dX5_statementTold_2 : decode cX5_statementTold 2 = .ok (.aload_n 0, 1) := by decide +kernel
theorem dX5_statementTold_3 : decode cX5_statementTold 3 = .ok (.getfield 173, 3) := by decide +kernel
theorem dX5_statementTold_6 : decode cX5_statementTold 6 = .ok (.imul, 1) := by decide +kernel
theorem dX5_statementTold_7 : decode cX5_statementTold 7 = .ok (.istore_n 1, 1) := by decide +kernel
theorem dX5_statementTold_8 : decode cX5_statementTold 8 = .ok (.aload_n 0, 1) := by decide +kernel
theorem dX5_statementTold_9 : decode cX5_statementTold 9 = .ok (.getfield 63, 3) := by decide +kernel
theorem dX5_statementTold_12 : decode cX5_statementTold 12 = .ok (.aload_n 0, 1) := by decide +kernel
theorem dX5_statementTold_13 : decode cX5_statementTold 13 = .ok (.getfield 173, 3) := by decide +kernel
theorem dX5_statementTold_16 : decode cX5_statementTold 16 = .ok (.aload_n 0, 1) := by decide +kernel
theorem dX5_statementTold_17 : decode cX5_statementTold 17 = .ok (.getfield 155, 3) := by decide +kernel
theorem dX5_statementTold_20 : decode cX5_statementTold 20 = .ok (.iastore, 1) := by decide +kernel
theorem dX5_statementTold_21 : decode cX5_statementTold 21 = .ok (.aload_n 0, 1) := by decide +kernel
theorem dX5_statementTold_22 : decode cX5_statementTold 22 = .ok (.invokevirtual 158, 3) := by decide +kernel
theorem dX5_statementTold_25 : decode cX5_statementTold 25 = .ok (.istore_n 2, 1) := by decide +kernel
theorem dX5_statementTold_26 : decode cX5_statementTold 26 = .ok (.aload_n 0, 1) := by decide +kernel
theorem dX5_statementTold_27 : decode cX5_statementTold 27 = .ok (.getfield 66, 3) := by decide +kernel
theorem dX5_statementTold_30 : decode cX5_statementTold 30 = .ok (.aload_n 0, 1) := by decide +kernel
theorem dX5_statementTold_31 : decode cX5_statementTold 31 = .ok (.getfield 173, 3) := by decide +kernel
theorem dX5_statementTold_34 : decode cX5_statementTold 34 = .ok (.iload_n 2, 1) := by decide +kernel
theorem dX5_statementTold_35 : decode cX5_statementTold 35 = .ok (.bipush 112, 2) := by decide +kernel
theorem dX5_statementTold_37 : decode cX5_statementTold 37 = .ok (.if_icmp .ne 7, 3) := by decide +kernel
theorem dX5_statementTold_40 : decode cX5_statementTold 40 = .ok (.iconst 0, 1) := by decide +kernel
theorem dX5_statementTold_41 : decode cX5_statementTold 41 = .ok (.goto 34, 3) := by decide +kernel
theorem dX5_statementTold_44 : decode cX5_statementTold 44 = .ok (.iload_n 2, 1) := by decide +kernel
theorem dX5_statementTold_45 : decode cX5_statementTold 45 = .ok (.bipush 97, 2) := by decide +kernel
theorem dX5_statementTold_47 : decode cX5_statementTold 47 = .ok (.if_icmp .ne 7, 3) := by decide +kernel
theorem dX5_statementTold_50 : decode cX5_statementTold 50 = .ok (.iconst 1, 1) := by decide +kernel
theorem dX5_statementTold_51 : decode cX5_statementTold 51 = .ok (.goto 24, 3) := by decide +kernel
theorem dX5_statementTold_54 : decode cX5_statementTold 54 = .ok (.iload_n 2, 1) := by decide +kernel
theorem dX5_statementTold_55 : decode cX5_statementTold 55 = .ok (.bipush 108, 2) := by decide +kernel
theorem dX5_statementTold_57 : decode cX5_statementTold 57 = .ok (.if_icmp .ne 7, 3) := by decide +kernel
theorem dX5_statementTold_60 : decode cX5_statementTold 60 = .ok (.iconst 2, 1) := by decide +kernel
theorem dX5_statementTold_61 : decode cX5_statementTold 61 = .ok (.goto 14, 3) := by decide +kernel
theorem dX5_statementTold_64 : decode cX5_statementTold 64 = .ok (.iload_n 2, 1) := by decide +kernel
theorem dX5_statementTold_65 : decode cX5_statementTold 65 = .ok (.bipush 99, 2) := by decide +kernel
theorem dX5_statementTold_67 : decode cX5_statementTold 67 = .ok (.if_icmp .ne 7, 3) := by decide +kernel
theorem dX5_statementTold_70 : decode cX5_statementTold 70 = .ok (.iconst 3, 1) := by decide +kernel
theorem dX5_statementTold_71 : decode cX5_statementTold 71 = .ok (.goto 4, 3) := by decide +kernel
theorem dX5_statementTold_74 : decode cX5_statementTold 74 = .ok (.iconst (-1), 1) := by decide +kernel
theorem dX5_statementTold_75 : decode cX5_statementTold 75 = .ok (.iastore, 1) := by decide +kernel
theorem dX5_statementTold_76 : decode cX5_statementTold 76 = .ok (.aload_n 0, 1) := by decide +kernel
theorem dX5_statementTold_77 : decode cX5_statementTold 77 = .ok (.getfield 66, 3) := by decide +kernel
theorem dX5_statementTold_80 : decode cX5_statementTold 80 = .ok (.aload_n 0, 1) := by decide +kernel
theorem dX5_statementTold_81 : decode cX5_statementTold 81 = .ok (.getfield 173, 3) := by decide +kernel
theorem dX5_statementTold_84 : decode cX5_statementTold 84 = .ok (.iaload, 1) := by decide +kernel
theorem dX5_statementTold_85 : decode cX5_statementTold 85 = .ok (.ifCond .ge 5, 3) := by decide +kernel
theorem dX5_statementTold_88 : decode cX5_statementTold 88 = .ok (.iconst 0, 1) := by decide +kernel
theorem dX5_statementTold_89 : decode cX5_statementTold 89 = .ok (.ireturn, 1) := by decide +kernel
theorem dX5_statementTold_90 : decode cX5_statementTold 90 = .ok (.aload_n 0, 1) := by decide +kernel
theorem dX5_statementTold_91 : decode cX5_statementTold 91 = .ok (.dup, 1) := by decide +kernel
theorem dX5_statementTold_92 : decode cX5_statementTold 92 = .ok (.getfield 155, 3) := by decide +kernel
theorem dX5_statementTold_95 : decode cX5_statementTold 95 = .ok (.iconst 1, 1) := by decide +kernel
theorem dX5_statementTold_96 : decode cX5_statementTold 96 = .ok (.iadd, 1) := by decide +kernel
theorem dX5_statementTold_97 : decode cX5_statementTold 97 = .ok (.putfield 155, 3) := by decide +kernel
theorem dX5_statementTold_100 : decode cX5_statementTold 100 = .ok (.iload_n 2, 1) := by decide +kernel
theorem dX5_statementTold_101 : decode cX5_statementTold 101 = .ok (.bipush 112, 2) := by decide +kernel
theorem dX5_statementTold_103 : decode cX5_statementTold 103 = .ok (.if_icmp .ne 11, 3) := by decide +kernel
theorem dX5_statementTold_106 : decode cX5_statementTold 106 = .ok (.aload_n 0, 1) := by decide +kernel
theorem dX5_statementTold_107 : decode cX5_statementTold 107 = .ok (.iload_n 1, 1) := by decide +kernel
theorem dX5_statementTold_108 : decode cX5_statementTold 108 = .ok (.invokevirtual 176, 3) := by decide +kernel
theorem dX5_statementTold_111 : decode cX5_statementTold 111 = .ok (.goto 33, 3) := by decide +kernel
theorem dX5_statementTold_114 : decode cX5_statementTold 114 = .ok (.iload_n 2, 1) := by decide +kernel
theorem dX5_statementTold_115 : decode cX5_statementTold 115 = .ok (.bipush 97, 2) := by decide +kernel
theorem dX5_statementTold_117 : decode cX5_statementTold 117 = .ok (.if_icmp .ne 11, 3) := by decide +kernel
theorem dX5_statementTold_120 : decode cX5_statementTold 120 = .ok (.aload_n 0, 1) := by decide +kernel
theorem dX5_statementTold_121 : decode cX5_statementTold 121 = .ok (.iload_n 1, 1) := by decide +kernel
theorem dX5_statementTold_122 : decode cX5_statementTold 122 = .ok (.invokevirtual 179, 3) := by decide +kernel
theorem dX5_statementTold_125 : decode cX5_statementTold 125 = .ok (.goto 19, 3) := by decide +kernel
theorem dX5_statementTold_128 : decode cX5_statementTold 128 = .ok (.aload_n 0, 1) := by decide +kernel
theorem dX5_statementTold_129 : decode cX5_statementTold 129 = .ok (.iload_n 1, 1) := by decide +kernel
theorem dX5_statementTold_130 : decode cX5_statementTold 130 = .ok (.iload_n 2, 1) := by decide +kernel
theorem dX5_statementTold_131 : decode cX5_statementTold 131 = .ok (.bipush 108, 2) := by decide +kernel
theorem dX5_statementTold_133 : decode cX5_statementTold 133 = .ok (.if_icmp .ne 7, 3) := by decide +kernel
theorem dX5_statementTold_136 : decode cX5_statementTold 136 = .ok (.iconst 1, 1) := by decide +kernel
theorem dX5_statementTold_137 : decode cX5_statementTold 137 = .ok (.goto 4, 3) := by decide +kernel
theorem dX5_statementTold_140 : decode cX5_statementTold 140 = .ok (.iconst 3, 1) := by decide +kernel
theorem dX5_statementTold_141 : decode cX5_statementTold 141 = .ok (.invokevirtual 165, 3) := by decide +kernel
theorem dX5_statementTold_144 : decode cX5_statementTold 144 = .ok (.istore_n 3, 1) := by decide +kernel
theorem dX5_statementTold_145 : decode cX5_statementTold 145 = .ok (.iload_n 3, 1) := by decide +kernel
theorem dX5_statementTold_146 : decode cX5_statementTold 146 = .ok (.ifCond .eq 12, 3) := by decide +kernel
theorem dX5_statementTold_149 : decode cX5_statementTold 149 = .ok (.aload_n 0, 1) := by decide +kernel
theorem dX5_statementTold_150 : decode cX5_statementTold 150 = .ok (.bipush 59, 2) := by decide +kernel
theorem dX5_statementTold_152 : decode cX5_statementTold 152 = .ok (.invokevirtual 169, 3) := by decide +kernel
theorem dX5_statementTold_155 : decode cX5_statementTold 155 = .ok (.ifCond .ne 5, 3) := by decide +kernel
theorem dX5_statementTold_158 : decode cX5_statementTold 158 = .ok (.iconst 0, 1) := by decide +kernel
theorem dX5_statementTold_159 : decode cX5_statementTold 159 = .ok (.ireturn, 1) := by decide +kernel
theorem dX5_statementTold_160 : decode cX5_statementTold 160 = .ok (.aload_n 0, 1) := by decide +kernel
theorem dX5_statementTold_161 : decode cX5_statementTold 161 = .ok (.dup, 1) := by decide +kernel
theorem dX5_statementTold_162 : decode cX5_statementTold 162 = .ok (.getfield 173, 3) := by decide +kernel
theorem dX5_statementTold_165 : decode cX5_statementTold 165 = .ok (.iconst 1, 1) := by decide +kernel
theorem dX5_statementTold_166 : decode cX5_statementTold 166 = .ok (.iadd, 1) := by decide +kernel
theorem dX5_statementTold_167 : decode cX5_statementTold 167 = .ok (.putfield 173, 3) := by decide +kernel
theorem dX5_statementTold_170 : decode cX5_statementTold 170 = .ok (.iconst 1, 1) := by decide +kernel
theorem dX5_statementTold_171 : decode cX5_statementTold 171 = .ok (.ireturn, 1) := by decide +kernel
theorem dX5_wrongOne_0 : decode cX5_wrongOne 0 = .ok (.aload_n 0, 1) := by decide +kernel
theorem dX5_wrongOne_1 : decode cX5_wrongOne 1 = .ok (.getfield 142, 3) := by decide +kernel
theorem dX5_wrongOne_4 : decode cX5_wrongOne 4 = .ok (.istore_n 1, 1) := by decide +kernel
theorem dX5_wrongOne_5 : decode cX5_wrongOne 5 = .ok (.aload_n 0, 1) := by decide +kernel
theorem dX5_wrongOne_6 : decode cX5_wrongOne 6 = .ok (.getfield 149, 3) := by decide +kernel
theorem dX5_wrongOne_9 : decode cX5_wrongOne 9 = .ok (.istore_n 2, 1) := by decide +kernel
theorem dX5_wrongOne_10 : decode cX5_wrongOne 10 = .ok (.iconst 0, 1) := by decide +kernel
theorem dX5_wrongOne_11 : decode cX5_wrongOne 11 = .ok (.istore_n 3, 1) := by decide +kernel
theorem dX5_wrongOne_12 : decode cX5_wrongOne 12 = .ok (.iload_n 3, 1) := by decide +kernel
theorem dX5_wrongOne_13 : decode cX5_wrongOne 13 = .ok (.aload_n 0, 1) := by decide +kernel
theorem dX5_wrongOne_14 : decode cX5_wrongOne 14 = .ok (.getfield 173, 3) := by decide +kernel
theorem dX5_wrongOne_17 : decode cX5_wrongOne 17 = .ok (.if_icmp .ge 151, 3) := by decide +kernel
theorem dX5_wrongOne_20 : decode cX5_wrongOne 20 = .ok (.bipush 9, 2) := by decide +kernel
theorem dX5_wrongOne_22 : decode cX5_wrongOne 22 = .ok (.iload_n 3, 1) := by decide +kernel
theorem dX5_wrongOne_23 : decode cX5_wrongOne 23 = .ok (.imul, 1) := by decide +kernel
theorem dX5_wrongOne_24 : decode cX5_wrongOne 24 = .ok (.istore 4, 2) := by decide +kernel
theorem dX5_wrongOne_26 : decode cX5_wrongOne 26 = .ok (.iconst 1, 1) := by decide +kernel
theorem dX5_wrongOne_27 : decode cX5_wrongOne 27 = .ok (.istore 5, 2) := by decide +kernel
theorem dX5_wrongOne_29 : decode cX5_wrongOne 29 = .ok (.aload_n 0, 1) := by decide +kernel
theorem dX5_wrongOne_30 : decode cX5_wrongOne 30 = .ok (.getfield 66, 3) := by decide +kernel
theorem dX5_wrongOne_33 : decode cX5_wrongOne 33 = .ok (.iload_n 3, 1) := by decide +kernel
theorem dX5_wrongOne_34 : decode cX5_wrongOne 34 = .ok (.iaload, 1) := by decide +kernel
theorem dX5_wrongOne_35 : decode cX5_wrongOne 35 = .ok (.ifCond .ne 22, 3) := by decide +kernel
theorem dX5_wrongOne_38 : decode cX5_wrongOne 38 = .ok (.iload_n 1, 1) := by decide +kernel
theorem dX5_wrongOne_39 : decode cX5_wrongOne 39 = .ok (.bipush 6, 2) := by decide +kernel
theorem dX5_wrongOne_41 : decode cX5_wrongOne 41 = .ok (.if_icmp .ge 7, 3) := by decide +kernel
theorem dX5_wrongOne_44 : decode cX5_wrongOne 44 = .ok (.iconst 1, 1) := by decide +kernel
theorem dX5_wrongOne_45 : decode cX5_wrongOne 45 = .ok (.goto 4, 3) := by decide +kernel
theorem dX5_wrongOne_48 : decode cX5_wrongOne 48 = .ok (.iconst 0, 1) := by decide +kernel
theorem dX5_wrongOne_49 : decode cX5_wrongOne 49 = .ok (.istore 5, 2) := by decide +kernel
theorem dX5_wrongOne_51 : decode cX5_wrongOne 51 = .ok (.iinc 1 1, 3) := by decide +kernel
theorem dX5_wrongOne_54 : decode cX5_wrongOne 54 = .ok (.goto 101, 3) := by decide +kernel
theorem dX5_wrongOne_57 : decode cX5_wrongOne 57 = .ok (.aload_n 0, 1) := by decide +kernel
theorem dX5_wrongOne_58 : decode cX5_wrongOne 58 = .ok (.getfield 66, 3) := by decide +kernel
theorem dX5_wrongOne_61 : decode cX5_wrongOne 61 = .ok (.iload_n 3, 1) := by decide +kernel
theorem dX5_wrongOne_62 : decode cX5_wrongOne 62 = .ok (.iaload, 1) := by decide +kernel
theorem dX5_wrongOne_63 : decode cX5_wrongOne 63 = .ok (.iconst 1, 1) := by decide +kernel
theorem dX5_wrongOne_64 : decode cX5_wrongOne 64 = .ok (.if_icmp .ne 58, 3) := by decide +kernel
theorem dX5_wrongOne_67 : decode cX5_wrongOne 67 = .ok (.iload_n 2, 1) := by decide +kernel
theorem dX5_wrongOne_68 : decode cX5_wrongOne 68 = .ok (.iconst 5, 1) := by decide +kernel
theorem dX5_wrongOne_69 : decode cX5_wrongOne 69 = .ok (.if_icmp .ge 44, 3) := by decide +kernel
theorem dX5_wrongOne_72 : decode cX5_wrongOne 72 = .ok (.aload_n 0, 1) := by decide +kernel
theorem dX5_wrongOne_73 : decode cX5_wrongOne 73 = .ok (.getfield 69, 3) := by decide +kernel
theorem dX5_wrongOne_76 : decode cX5_wrongOne 76 = .ok (.iload 4, 2) := by decide +kernel
theorem dX5_wrongOne_78 : decode cX5_wrongOne 78 = .ok (.iconst 1, 1) := by decide +kernel
theorem dX5_wrongOne_79 : decode cX5_wrongOne 79 = .ok (.iadd, 1) := by decide +kernel
theorem dX5_wrongOne_80 : decode cX5_wrongOne 80 = .ok (.iaload, 1) := by decide +kernel
theorem dX5_wrongOne_81 : decode cX5_wrongOne 81 = .ok (.iload_n 1, 1) := by decide +kernel
theorem dX5_wrongOne_82 : decode cX5_wrongOne 82 = .ok (.if_icmp .ge 31, 3) := by decide +kernel
theorem dX5_wrongOne_85 : decode cX5_wrongOne 85 = .ok (.aload_n 0, 1) := by decide +kernel
theorem dX5_wrongOne_86 : decode cX5_wrongOne 86 = .ok (.getfield 69, 3) := by decide +kernel
theorem dX5_wrongOne_89 : decode cX5_wrongOne 89 = .ok (.iload 4, 2) := by decide +kernel
theorem dX5_wrongOne_91 : decode cX5_wrongOne 91 = .ok (.iconst 2, 1) := by decide +kernel
theorem dX5_wrongOne_92 : decode cX5_wrongOne 92 = .ok (.iadd, 1) := by decide +kernel
theorem dX5_wrongOne_93 : decode cX5_wrongOne 93 = .ok (.iaload, 1) := by decide +kernel
theorem dX5_wrongOne_94 : decode cX5_wrongOne 94 = .ok (.aload_n 0, 1) := by decide +kernel
theorem dX5_wrongOne_95 : decode cX5_wrongOne 95 = .ok (.getfield 69, 3) := by decide +kernel
theorem dX5_wrongOne_98 : decode cX5_wrongOne 98 = .ok (.iload 4, 2) := by decide +kernel
theorem dX5_wrongOne_100 : decode cX5_wrongOne 100 = .ok (.iconst 3, 1) := by decide +kernel
theorem dX5_wrongOne_101 : decode cX5_wrongOne 101 = .ok (.iadd, 1) := by decide +kernel
theorem dX5_wrongOne_102 : decode cX5_wrongOne 102 = .ok (.iaload, 1) := by decide +kernel
theorem dX5_wrongOne_103 : decode cX5_wrongOne 103 = .ok (.iadd, 1) := by decide +kernel
theorem dX5_wrongOne_104 : decode cX5_wrongOne 104 = .ok (.bipush 100, 2) := by decide +kernel
theorem dX5_wrongOne_106 : decode cX5_wrongOne 106 = .ok (.if_icmp .gt 7, 3) := by decide +kernel
theorem dX5_wrongOne_109 : decode cX5_wrongOne 109 = .ok (.iconst 1, 1) := by decide +kernel
theorem dX5_wrongOne_110 : decode cX5_wrongOne 110 = .ok (.goto 4, 3) := by decide +kernel
theorem dX5_wrongOne_113 : decode cX5_wrongOne 113 = .ok (.iconst 0, 1) := by decide +kernel
theorem dX5_wrongOne_114 : decode cX5_wrongOne 114 = .ok (.istore 5, 2) := by decide +kernel
theorem dX5_wrongOne_116 : decode cX5_wrongOne 116 = .ok (.iinc 2 1, 3) := by decide +kernel
theorem dX5_wrongOne_119 : decode cX5_wrongOne 119 = .ok (.goto 36, 3) := by decide +kernel
theorem dX5_wrongOne_122 : decode cX5_wrongOne 122 = .ok (.aload_n 0, 1) := by decide +kernel
theorem dX5_wrongOne_123 : decode cX5_wrongOne 123 = .ok (.getfield 69, 3) := by decide +kernel
theorem dX5_wrongOne_126 : decode cX5_wrongOne 126 = .ok (.iload 4, 2) := by decide +kernel
theorem dX5_wrongOne_128 : decode cX5_wrongOne 128 = .ok (.iaload, 1) := by decide +kernel
theorem dX5_wrongOne_129 : decode cX5_wrongOne 129 = .ok (.aload_n 0, 1) := by decide +kernel
theorem dX5_wrongOne_130 : decode cX5_wrongOne 130 = .ok (.getfield 66, 3) := by decide +kernel
theorem dX5_wrongOne_133 : decode cX5_wrongOne 133 = .ok (.iload_n 3, 1) := by decide +kernel
theorem dX5_wrongOne_134 : decode cX5_wrongOne 134 = .ok (.iaload, 1) := by decide +kernel
theorem dX5_wrongOne_135 : decode cX5_wrongOne 135 = .ok (.iconst 2, 1) := by decide +kernel
theorem dX5_wrongOne_136 : decode cX5_wrongOne 136 = .ok (.if_icmp .ne 7, 3) := by decide +kernel
theorem dX5_wrongOne_139 : decode cX5_wrongOne 139 = .ok (.iconst 4, 1) := by decide +kernel
theorem dX5_wrongOne_140 : decode cX5_wrongOne 140 = .ok (.goto 5, 3) := by decide +kernel
theorem dX5_wrongOne_143 : decode cX5_wrongOne 143 = .ok (.bipush 100, 2) := by decide +kernel
theorem dX5_wrongOne_145 : decode cX5_wrongOne 145 = .ok (.if_icmp .gt 7, 3) := by decide +kernel
theorem dX5_wrongOne_148 : decode cX5_wrongOne 148 = .ok (.iconst 1, 1) := by decide +kernel
theorem dX5_wrongOne_149 : decode cX5_wrongOne 149 = .ok (.goto 4, 3) := by decide +kernel
theorem dX5_wrongOne_152 : decode cX5_wrongOne 152 = .ok (.iconst 0, 1) := by decide +kernel
theorem dX5_wrongOne_153 : decode cX5_wrongOne 153 = .ok (.istore 5, 2) := by decide +kernel
theorem dX5_wrongOne_155 : decode cX5_wrongOne 155 = .ok (.iload 5, 2) := by decide +kernel
theorem dX5_wrongOne_157 : decode cX5_wrongOne 157 = .ok (.ifCond .ne 5, 3) := by decide +kernel
theorem dX5_wrongOne_160 : decode cX5_wrongOne 160 = .ok (.iload_n 3, 1) := by decide +kernel
theorem dX5_wrongOne_161 : decode cX5_wrongOne 161 = .ok (.ireturn, 1) := by decide +kernel
theorem dX5_wrongOne_162 : decode cX5_wrongOne 162 = .ok (.iinc 3 1, 3) := by decide +kernel
theorem dX5_wrongOne_165 : decode cX5_wrongOne 165 = .ok (.goto (-153), 3) := by decide +kernel
theorem dX5_wrongOne_168 : decode cX5_wrongOne 168 = .ok (.aload_n 0, 1) := by decide +kernel
theorem dX5_wrongOne_169 : decode cX5_wrongOne 169 = .ok (.getfield 173, 3) := by decide +kernel
theorem dX5_wrongOne_172 : decode cX5_wrongOne 172 = .ok (.ireturn, 1) := by decide +kernel
theorem dX5_common_0 : decode cX5_common 0 = .ok (.lload_n 0, 1) := by decide +kernel
theorem dX5_common_1 : decode cX5_common 1 = .ok (.lconst 0, 1) := by decide +kernel
theorem dX5_common_2 : decode cX5_common 2 = .ok (.lcmp, 1) := by decide +kernel
theorem dX5_common_3 : decode cX5_common 3 = .ok (.ifCond .ge 8, 3) := by decide +kernel
theorem dX5_common_6 : decode cX5_common 6 = .ok (.lload_n 0, 1) := by decide +kernel
theorem dX5_common_7 : decode cX5_common 7 = .ok (.lneg, 1) := by decide +kernel
theorem dX5_common_8 : decode cX5_common 8 = .ok (.goto 4, 3) := by decide +kernel
theorem dX5_common_11 : decode cX5_common 11 = .ok (.lload_n 0, 1) := by decide +kernel
theorem dX5_common_12 : decode cX5_common 12 = .ok (.lstore 4, 2) := by decide +kernel
theorem dX5_common_14 : decode cX5_common 14 = .ok (.lload_n 2, 1) := by decide +kernel
theorem dX5_common_15 : decode cX5_common 15 = .ok (.lconst 0, 1) := by decide +kernel
theorem dX5_common_16 : decode cX5_common 16 = .ok (.lcmp, 1) := by decide +kernel
theorem dX5_common_17 : decode cX5_common 17 = .ok (.ifCond .ge 8, 3) := by decide +kernel
theorem dX5_common_20 : decode cX5_common 20 = .ok (.lload_n 2, 1) := by decide +kernel
theorem dX5_common_21 : decode cX5_common 21 = .ok (.lneg, 1) := by decide +kernel
theorem dX5_common_22 : decode cX5_common 22 = .ok (.goto 4, 3) := by decide +kernel
theorem dX5_common_25 : decode cX5_common 25 = .ok (.lload_n 2, 1) := by decide +kernel
theorem dX5_common_26 : decode cX5_common 26 = .ok (.lstore 6, 2) := by decide +kernel
theorem dX5_common_28 : decode cX5_common 28 = .ok (.lload 6, 2) := by decide +kernel
theorem dX5_common_30 : decode cX5_common 30 = .ok (.lconst 0, 1) := by decide +kernel
theorem dX5_common_31 : decode cX5_common 31 = .ok (.lcmp, 1) := by decide +kernel
theorem dX5_common_32 : decode cX5_common 32 = .ok (.ifCond .eq 21, 3) := by decide +kernel
theorem dX5_common_35 : decode cX5_common 35 = .ok (.lload 4, 2) := by decide +kernel
theorem dX5_common_37 : decode cX5_common 37 = .ok (.lload 6, 2) := by decide +kernel
theorem dX5_common_39 : decode cX5_common 39 = .ok (.lrem, 1) := by decide +kernel
theorem dX5_common_40 : decode cX5_common 40 = .ok (.lstore 8, 2) := by decide +kernel
theorem dX5_common_42 : decode cX5_common 42 = .ok (.lload 6, 2) := by decide +kernel
theorem dX5_common_44 : decode cX5_common 44 = .ok (.lstore 4, 2) := by decide +kernel
theorem dX5_common_46 : decode cX5_common 46 = .ok (.lload 8, 2) := by decide +kernel
theorem dX5_common_48 : decode cX5_common 48 = .ok (.lstore 6, 2) := by decide +kernel
theorem dX5_common_50 : decode cX5_common 50 = .ok (.goto (-22), 3) := by decide +kernel
theorem dX5_common_53 : decode cX5_common 53 = .ok (.lload 4, 2) := by decide +kernel
theorem dX5_common_55 : decode cX5_common 55 = .ok (.lreturn, 1) := by decide +kernel
theorem dX5_least_0 : decode cX5_least 0 = .ok (.aload_n 0, 1) := by decide +kernel
theorem dX5_least_1 : decode cX5_least 1 = .ok (.getfield 43, 3) := by decide +kernel
theorem dX5_least_4 : decode cX5_least 4 = .ok (.iload_n 1, 1) := by decide +kernel
theorem dX5_least_5 : decode cX5_least 5 = .ok (.laload, 1) := by decide +kernel
theorem dX5_least_6 : decode cX5_least 6 = .ok (.aload_n 0, 1) := by decide +kernel
theorem dX5_least_7 : decode cX5_least 7 = .ok (.getfield 43, 3) := by decide +kernel
theorem dX5_least_10 : decode cX5_least 10 = .ok (.iload_n 1, 1) := by decide +kernel
theorem dX5_least_11 : decode cX5_least 11 = .ok (.iconst 1, 1) := by decide +kernel
theorem dX5_least_12 : decode cX5_least 12 = .ok (.iadd, 1) := by decide +kernel
theorem dX5_least_13 : decode cX5_least 13 = .ok (.laload, 1) := by decide +kernel
theorem dX5_least_14 : decode cX5_least 14 = .ok (.invokestatic 182, 3) := by decide +kernel
theorem dX5_least_17 : decode cX5_least 17 = .ok (.aload_n 0, 1) := by decide +kernel
theorem dX5_least_18 : decode cX5_least 18 = .ok (.getfield 43, 3) := by decide +kernel
theorem dX5_least_21 : decode cX5_least 21 = .ok (.iload_n 1, 1) := by decide +kernel
theorem dX5_least_22 : decode cX5_least 22 = .ok (.iconst 2, 1) := by decide +kernel
theorem dX5_least_23 : decode cX5_least 23 = .ok (.iadd, 1) := by decide +kernel
theorem dX5_least_24 : decode cX5_least 24 = .ok (.laload, 1) := by decide +kernel
theorem dX5_least_25 : decode cX5_least 25 = .ok (.invokestatic 182, 3) := by decide +kernel
theorem dX5_least_28 : decode cX5_least 28 = .ok (.lstore_n 2, 1) := by decide +kernel
theorem dX5_least_29 : decode cX5_least 29 = .ok (.iconst 0, 1) := by decide +kernel
theorem dX5_least_30 : decode cX5_least 30 = .ok (.istore 4, 2) := by decide +kernel
theorem dX5_least_32 : decode cX5_least 32 = .ok (.iload 4, 2) := by decide +kernel
theorem dX5_least_34 : decode cX5_least 34 = .ok (.iconst 3, 1) := by decide +kernel
theorem dX5_least_35 : decode cX5_least 35 = .ok (.if_icmp .ge 22, 3) := by decide +kernel
theorem dX5_least_38 : decode cX5_least 38 = .ok (.aload_n 0, 1) := by decide +kernel
theorem dX5_least_39 : decode cX5_least 39 = .ok (.getfield 43, 3) := by decide +kernel
theorem dX5_least_42 : decode cX5_least 42 = .ok (.iload_n 1, 1) := by decide +kernel
theorem dX5_least_43 : decode cX5_least 43 = .ok (.iload 4, 2) := by decide +kernel
theorem dX5_least_45 : decode cX5_least 45 = .ok (.iadd, 1) := by decide +kernel
theorem dX5_least_46 : decode cX5_least 46 = .ok (.dup2, 1) := by decide +kernel
theorem dX5_least_47 : decode cX5_least 47 = .ok (.laload, 1) := by decide +kernel
theorem dX5_least_48 : decode cX5_least 48 = .ok (.lload_n 2, 1) := by decide +kernel
theorem dX5_least_49 : decode cX5_least 49 = .ok (.ldiv, 1) := by decide +kernel
theorem dX5_least_50 : decode cX5_least 50 = .ok (.lastore, 1) := by decide +kernel
theorem dX5_least_51 : decode cX5_least 51 = .ok (.iinc 4 1, 3) := by decide +kernel
theorem dX5_least_54 : decode cX5_least 54 = .ok (.goto (-22), 3) := by decide +kernel
theorem dX5_least_57 : decode cX5_least 57 = .ok (.return_, 1) := by decide +kernel
theorem dX5_fromOf_0 : decode cX5_fromOf 0 = .ok (.iconst 3, 1) := by decide +kernel
theorem dX5_fromOf_1 : decode cX5_fromOf 1 = .ok (.bipush 6, 2) := by decide +kernel
theorem dX5_fromOf_3 : decode cX5_fromOf 3 = .ok (.iload_n 1, 1) := by decide +kernel
theorem dX5_fromOf_4 : decode cX5_fromOf 4 = .ok (.imul, 1) := by decide +kernel
theorem dX5_fromOf_5 : decode cX5_fromOf 5 = .ok (.iload_n 0, 1) := by decide +kernel
theorem dX5_fromOf_6 : decode cX5_fromOf 6 = .ok (.iadd, 1) := by decide +kernel
theorem dX5_fromOf_7 : decode cX5_fromOf 7 = .ok (.imul, 1) := by decide +kernel
theorem dX5_fromOf_8 : decode cX5_fromOf 8 = .ok (.ireturn, 1) := by decide +kernel
theorem dX5_comes_0 : decode cX5_comes 0 = .ok (.bipush 9, 2) := by decide +kernel
theorem dX5_comes_2 : decode cX5_comes 2 = .ok (.iload_n 1, 1) := by decide +kernel
theorem dX5_comes_3 : decode cX5_comes 3 = .ok (.imul, 1) := by decide +kernel
theorem dX5_comes_4 : decode cX5_comes 4 = .ok (.istore_n 2, 1) := by decide +kernel
theorem dX5_comes_5 : decode cX5_comes 5 = .ok (.aload_n 0, 1) := by decide +kernel
theorem dX5_comes_6 : decode cX5_comes 6 = .ok (.getfield 66, 3) := by decide +kernel
theorem dX5_comes_9 : decode cX5_comes 9 = .ok (.iload_n 1, 1) := by decide +kernel
theorem dX5_comes_10 : decode cX5_comes 10 = .ok (.iaload, 1) := by decide +kernel
theorem dX5_comes_11 : decode cX5_comes 11 = .ok (.ifCond .ne 75, 3) := by decide +kernel
theorem dX5_comes_14 : decode cX5_comes 14 = .ok (.aload_n 0, 1) := by decide +kernel
theorem dX5_comes_15 : decode cX5_comes 15 = .ok (.getfield 7, 3) := by decide +kernel
theorem dX5_comes_18 : decode cX5_comes 18 = .ok (.aload_n 0, 1) := by decide +kernel
theorem dX5_comes_19 : decode cX5_comes 19 = .ok (.getfield 142, 3) := by decide +kernel
theorem dX5_comes_22 : decode cX5_comes 22 = .ok (.aload_n 0, 1) := by decide +kernel
theorem dX5_comes_23 : decode cX5_comes 23 = .ok (.getfield 69, 3) := by decide +kernel
theorem dX5_comes_26 : decode cX5_comes 26 = .ok (.iload_n 2, 1) := by decide +kernel
theorem dX5_comes_27 : decode cX5_comes 27 = .ok (.iaload, 1) := by decide +kernel
theorem dX5_comes_28 : decode cX5_comes 28 = .ok (.iastore, 1) := by decide +kernel
theorem dX5_comes_29 : decode cX5_comes 29 = .ok (.aload_n 0, 1) := by decide +kernel
theorem dX5_comes_30 : decode cX5_comes 30 = .ok (.getfield 13, 3) := by decide +kernel
theorem dX5_comes_33 : decode cX5_comes 33 = .ok (.aload_n 0, 1) := by decide +kernel
theorem dX5_comes_34 : decode cX5_comes 34 = .ok (.getfield 142, 3) := by decide +kernel
theorem dX5_comes_37 : decode cX5_comes 37 = .ok (.aload_n 0, 1) := by decide +kernel
theorem dX5_comes_38 : decode cX5_comes 38 = .ok (.getfield 69, 3) := by decide +kernel
theorem dX5_comes_41 : decode cX5_comes 41 = .ok (.iload_n 2, 1) := by decide +kernel
theorem dX5_comes_42 : decode cX5_comes 42 = .ok (.iconst 1, 1) := by decide +kernel
theorem dX5_comes_43 : decode cX5_comes 43 = .ok (.iadd, 1) := by decide +kernel
theorem dX5_comes_44 : decode cX5_comes 44 = .ok (.iaload, 1) := by decide +kernel
theorem dX5_comes_45 : decode cX5_comes 45 = .ok (.iastore, 1) := by decide +kernel
theorem dX5_comes_46 : decode cX5_comes 46 = .ok (.aload_n 0, 1) := by decide +kernel
theorem dX5_comes_47 : decode cX5_comes 47 = .ok (.getfield 16, 3) := by decide +kernel
theorem dX5_comes_50 : decode cX5_comes 50 = .ok (.aload_n 0, 1) := by decide +kernel
theorem dX5_comes_51 : decode cX5_comes 51 = .ok (.getfield 142, 3) := by decide +kernel
theorem dX5_comes_54 : decode cX5_comes 54 = .ok (.aload_n 0, 1) := by decide +kernel
theorem dX5_comes_55 : decode cX5_comes 55 = .ok (.getfield 69, 3) := by decide +kernel
theorem dX5_comes_58 : decode cX5_comes 58 = .ok (.iload_n 2, 1) := by decide +kernel
theorem dX5_comes_59 : decode cX5_comes 59 = .ok (.iconst 2, 1) := by decide +kernel
theorem dX5_comes_60 : decode cX5_comes 60 = .ok (.iadd, 1) := by decide +kernel
theorem dX5_comes_61 : decode cX5_comes 61 = .ok (.iaload, 1) := by decide +kernel
theorem dX5_comes_62 : decode cX5_comes 62 = .ok (.iastore, 1) := by decide +kernel
theorem dX5_comes_63 : decode cX5_comes 63 = .ok (.aload_n 0, 1) := by decide +kernel
theorem dX5_comes_64 : decode cX5_comes 64 = .ok (.getfield 19, 3) := by decide +kernel
theorem dX5_comes_67 : decode cX5_comes 67 = .ok (.aload_n 0, 1) := by decide +kernel
theorem dX5_comes_68 : decode cX5_comes 68 = .ok (.getfield 142, 3) := by decide +kernel
theorem dX5_comes_71 : decode cX5_comes 71 = .ok (.iconst 0, 1) := by decide +kernel
theorem dX5_comes_72 : decode cX5_comes 72 = .ok (.iastore, 1) := by decide +kernel
theorem dX5_comes_73 : decode cX5_comes 73 = .ok (.aload_n 0, 1) := by decide +kernel
theorem dX5_comes_74 : decode cX5_comes 74 = .ok (.dup, 1) := by decide +kernel
theorem dX5_comes_75 : decode cX5_comes 75 = .ok (.getfield 142, 3) := by decide +kernel
theorem dX5_comes_78 : decode cX5_comes 78 = .ok (.iconst 1, 1) := by decide +kernel
theorem dX5_comes_79 : decode cX5_comes 79 = .ok (.iadd, 1) := by decide +kernel
theorem dX5_comes_80 : decode cX5_comes 80 = .ok (.putfield 142, 3) := by decide +kernel
theorem dX5_comes_83 : decode cX5_comes 83 = .ok (.goto 312, 3) := by decide +kernel
theorem dX5_comes_86 : decode cX5_comes 86 = .ok (.aload_n 0, 1) := by decide +kernel
theorem dX5_comes_87 : decode cX5_comes 87 = .ok (.getfield 66, 3) := by decide +kernel
theorem dX5_comes_90 : decode cX5_comes 90 = .ok (.iload_n 1, 1) := by decide +kernel
theorem dX5_comes_91 : decode cX5_comes 91 = .ok (.iaload, 1) := by decide +kernel
theorem dX5_comes_92 : decode cX5_comes 92 = .ok (.iconst 1, 1) := by decide +kernel
theorem dX5_comes_93 : decode cX5_comes 93 = .ok (.if_icmp .ne 269, 3) := by decide +kernel
theorem dX5_comes_96 : decode cX5_comes 96 = .ok (.aload_n 0, 1) := by decide +kernel
theorem dX5_comes_97 : decode cX5_comes 97 = .ok (.getfield 22, 3) := by decide +kernel
theorem dX5_comes_100 : decode cX5_comes 100 = .ok (.aload_n 0, 1) := by decide +kernel
theorem dX5_comes_101 : decode cX5_comes 101 = .ok (.getfield 149, 3) := by decide +kernel
theorem dX5_comes_104 : decode cX5_comes 104 = .ok (.aload_n 0, 1) := by decide +kernel
theorem dX5_comes_105 : decode cX5_comes 105 = .ok (.getfield 69, 3) := by decide +kernel
theorem dX5_comes_108 : decode cX5_comes 108 = .ok (.iload_n 2, 1) := by decide +kernel
theorem dX5_comes_109 : decode cX5_comes 109 = .ok (.iaload, 1) := by decide +kernel
theorem dX5_comes_110 : decode cX5_comes 110 = .ok (.iastore, 1) := by decide +kernel
theorem dX5_comes_111 : decode cX5_comes 111 = .ok (.aload_n 0, 1) := by decide +kernel
theorem dX5_comes_112 : decode cX5_comes 112 = .ok (.getfield 25, 3) := by decide +kernel
theorem dX5_comes_115 : decode cX5_comes 115 = .ok (.iconst 3, 1) := by decide +kernel
theorem dX5_comes_116 : decode cX5_comes 116 = .ok (.aload_n 0, 1) := by decide +kernel
theorem dX5_comes_117 : decode cX5_comes 117 = .ok (.getfield 149, 3) := by decide +kernel
theorem dX5_comes_120 : decode cX5_comes 120 = .ok (.imul, 1) := by decide +kernel
theorem dX5_comes_121 : decode cX5_comes 121 = .ok (.aload_n 0, 1) := by decide +kernel
theorem dX5_comes_122 : decode cX5_comes 122 = .ok (.getfield 69, 3) := by decide +kernel
theorem dX5_comes_125 : decode cX5_comes 125 = .ok (.iload_n 2, 1) := by decide +kernel
theorem dX5_comes_126 : decode cX5_comes 126 = .ok (.iconst 2, 1) := by decide +kernel
theorem dX5_comes_127 : decode cX5_comes 127 = .ok (.iadd, 1) := by decide +kernel
theorem dX5_comes_128 : decode cX5_comes 128 = .ok (.iaload, 1) := by decide +kernel
theorem dX5_comes_129 : decode cX5_comes 129 = .ok (.iastore, 1) := by decide +kernel
theorem dX5_comes_130 : decode cX5_comes 130 = .ok (.aload_n 0, 1) := by decide +kernel
theorem dX5_comes_131 : decode cX5_comes 131 = .ok (.getfield 25, 3) := by decide +kernel
theorem dX5_comes_134 : decode cX5_comes 134 = .ok (.iconst 3, 1) := by decide +kernel
theorem dX5_comes_135 : decode cX5_comes 135 = .ok (.aload_n 0, 1) := by decide +kernel
theorem dX5_comes_136 : decode cX5_comes 136 = .ok (.getfield 149, 3) := by decide +kernel
theorem dX5_comes_139 : decode cX5_comes 139 = .ok (.imul, 1) := by decide +kernel
theorem dX5_comes_140 : decode cX5_comes 140 = .ok (.iconst 1, 1) := by decide +kernel
theorem dX5_comes_141 : decode cX5_comes 141 = .ok (.iadd, 1) := by decide +kernel
theorem dX5_comes_142 : decode cX5_comes 142 = .ok (.aload_n 0, 1) := by decide +kernel
theorem dX5_comes_143 : decode cX5_comes 143 = .ok (.getfield 69, 3) := by decide +kernel
theorem dX5_comes_146 : decode cX5_comes 146 = .ok (.iload_n 2, 1) := by decide +kernel
theorem dX5_comes_147 : decode cX5_comes 147 = .ok (.iconst 3, 1) := by decide +kernel
theorem dX5_comes_148 : decode cX5_comes 148 = .ok (.iadd, 1) := by decide +kernel
theorem dX5_comes_149 : decode cX5_comes 149 = .ok (.iaload, 1) := by decide +kernel
theorem dX5_comes_150 : decode cX5_comes 150 = .ok (.iastore, 1) := by decide +kernel
theorem dX5_comes_151 : decode cX5_comes 151 = .ok (.aload_n 0, 1) := by decide +kernel
theorem dX5_comes_152 : decode cX5_comes 152 = .ok (.getfield 25, 3) := by decide +kernel
theorem dX5_comes_155 : decode cX5_comes 155 = .ok (.iconst 3, 1) := by decide +kernel
theorem dX5_comes_156 : decode cX5_comes 156 = .ok (.aload_n 0, 1) := by decide +kernel
theorem dX5_comes_157 : decode cX5_comes 157 = .ok (.getfield 149, 3) := by decide +kernel
theorem dX5_comes_160 : decode cX5_comes 160 = .ok (.imul, 1) := by decide +kernel
theorem dX5_comes_161 : decode cX5_comes 161 = .ok (.iconst 2, 1) := by decide +kernel
theorem dX5_comes_162 : decode cX5_comes 162 = .ok (.iadd, 1) := by decide +kernel
theorem dX5_comes_163 : decode cX5_comes 163 = .ok (.bipush 100, 2) := by decide +kernel
theorem dX5_comes_165 : decode cX5_comes 165 = .ok (.aload_n 0, 1) := by decide +kernel
theorem dX5_comes_166 : decode cX5_comes 166 = .ok (.getfield 69, 3) := by decide +kernel
theorem dX5_comes_169 : decode cX5_comes 169 = .ok (.iload_n 2, 1) := by decide +kernel
theorem dX5_comes_170 : decode cX5_comes 170 = .ok (.iconst 2, 1) := by decide +kernel
theorem dX5_comes_171 : decode cX5_comes 171 = .ok (.iadd, 1) := by decide +kernel
theorem dX5_comes_172 : decode cX5_comes 172 = .ok (.iaload, 1) := by decide +kernel
theorem dX5_comes_173 : decode cX5_comes 173 = .ok (.isub, 1) := by decide +kernel
theorem dX5_comes_174 : decode cX5_comes 174 = .ok (.aload_n 0, 1) := by decide +kernel
theorem dX5_comes_175 : decode cX5_comes 175 = .ok (.getfield 69, 3) := by decide +kernel
theorem dX5_comes_178 : decode cX5_comes 178 = .ok (.iload_n 2, 1) := by decide +kernel
theorem dX5_comes_179 : decode cX5_comes 179 = .ok (.iconst 3, 1) := by decide +kernel
theorem dX5_comes_180 : decode cX5_comes 180 = .ok (.iadd, 1) := by decide +kernel
theorem dX5_comes_181 : decode cX5_comes 181 = .ok (.iaload, 1) := by decide +kernel
theorem dX5_comes_182 : decode cX5_comes 182 = .ok (.isub, 1) := by decide +kernel
theorem dX5_comes_183 : decode cX5_comes 183 = .ok (.iastore, 1) := by decide +kernel
theorem dX5_comes_184 : decode cX5_comes 184 = .ok (.iconst 0, 1) := by decide +kernel
theorem dX5_comes_185 : decode cX5_comes 185 = .ok (.istore_n 3, 1) := by decide +kernel
theorem dX5_comes_186 : decode cX5_comes 186 = .ok (.iload_n 3, 1) := by decide +kernel
theorem dX5_comes_187 : decode cX5_comes 187 = .ok (.iconst 3, 1) := by decide +kernel
theorem dX5_comes_188 : decode cX5_comes 188 = .ok (.if_icmp .ge 34, 3) := by decide +kernel
theorem dX5_comes_191 : decode cX5_comes 191 = .ok (.aload_n 0, 1) := by decide +kernel
theorem dX5_comes_192 : decode cX5_comes 192 = .ok (.getfield 28, 3) := by decide +kernel
theorem dX5_comes_195 : decode cX5_comes 195 = .ok (.iconst 3, 1) := by decide +kernel
theorem dX5_comes_196 : decode cX5_comes 196 = .ok (.aload_n 0, 1) := by decide +kernel
theorem dX5_comes_197 : decode cX5_comes 197 = .ok (.getfield 149, 3) := by decide +kernel
theorem dX5_comes_200 : decode cX5_comes 200 = .ok (.imul, 1) := by decide +kernel
theorem dX5_comes_201 : decode cX5_comes 201 = .ok (.iload_n 3, 1) := by decide +kernel
theorem dX5_comes_202 : decode cX5_comes 202 = .ok (.iadd, 1) := by decide +kernel
theorem dX5_comes_203 : decode cX5_comes 203 = .ok (.aload_n 0, 1) := by decide +kernel
theorem dX5_comes_204 : decode cX5_comes 204 = .ok (.getfield 69, 3) := by decide +kernel
theorem dX5_comes_207 : decode cX5_comes 207 = .ok (.iload_n 2, 1) := by decide +kernel
theorem dX5_comes_208 : decode cX5_comes 208 = .ok (.iconst 4, 1) := by decide +kernel
theorem dX5_comes_209 : decode cX5_comes 209 = .ok (.iadd, 1) := by decide +kernel
theorem dX5_comes_210 : decode cX5_comes 210 = .ok (.iload_n 3, 1) := by decide +kernel
theorem dX5_comes_211 : decode cX5_comes 211 = .ok (.iadd, 1) := by decide +kernel
theorem dX5_comes_212 : decode cX5_comes 212 = .ok (.iaload, 1) := by decide +kernel
theorem dX5_comes_213 : decode cX5_comes 213 = .ok (.iconst 4, 1) := by decide +kernel
theorem dX5_comes_214 : decode cX5_comes 214 = .ok (.isub, 1) := by decide +kernel
theorem dX5_comes_215 : decode cX5_comes 215 = .ok (.iastore, 1) := by decide +kernel
theorem dX5_comes_216 : decode cX5_comes 216 = .ok (.iinc 3 1, 3) := by decide +kernel
theorem dX5_comes_219 : decode cX5_comes 219 = .ok (.goto (-33), 3) := by decide +kernel
theorem dX5_comes_222 : decode cX5_comes 222 = .ok (.aload_n 0, 1) := by decide +kernel
theorem dX5_comes_223 : decode cX5_comes 223 = .ok (.getfield 31, 3) := by decide +kernel
theorem dX5_comes_226 : decode cX5_comes 226 = .ok (.aload_n 0, 1) := by decide +kernel
theorem dX5_comes_227 : decode cX5_comes 227 = .ok (.getfield 149, 3) := by decide +kernel
theorem dX5_comes_230 : decode cX5_comes 230 = .ok (.iconst 0, 1) := by decide +kernel
theorem dX5_comes_231 : decode cX5_comes 231 = .ok (.iastore, 1) := by decide +kernel
theorem dX5_comes_232 : decode cX5_comes 232 = .ok (.aload_n 0, 1) := by decide +kernel
theorem dX5_comes_233 : decode cX5_comes 233 = .ok (.getfield 34, 3) := by decide +kernel
theorem dX5_comes_236 : decode cX5_comes 236 = .ok (.aload_n 0, 1) := by decide +kernel
theorem dX5_comes_237 : decode cX5_comes 237 = .ok (.getfield 149, 3) := by decide +kernel
theorem dX5_comes_240 : decode cX5_comes 240 = .ok (.iconst 0, 1) := by decide +kernel
theorem dX5_comes_241 : decode cX5_comes 241 = .ok (.iastore, 1) := by decide +kernel
theorem dX5_comes_242 : decode cX5_comes 242 = .ok (.aload_n 0, 1) := by decide +kernel
theorem dX5_comes_243 : decode cX5_comes 243 = .ok (.getfield 37, 3) := by decide +kernel
theorem dX5_comes_246 : decode cX5_comes 246 = .ok (.aload_n 0, 1) := by decide +kernel
theorem dX5_comes_247 : decode cX5_comes 247 = .ok (.getfield 149, 3) := by decide +kernel
theorem dX5_comes_250 : decode cX5_comes 250 = .ok (.iconst 0, 1) := by decide +kernel
theorem dX5_comes_251 : decode cX5_comes 251 = .ok (.iastore, 1) := by decide +kernel
theorem dX5_comes_252 : decode cX5_comes 252 = .ok (.aload_n 0, 1) := by decide +kernel
theorem dX5_comes_253 : decode cX5_comes 253 = .ok (.getfield 40, 3) := by decide +kernel
theorem dX5_comes_256 : decode cX5_comes 256 = .ok (.aload_n 0, 1) := by decide +kernel
theorem dX5_comes_257 : decode cX5_comes 257 = .ok (.getfield 149, 3) := by decide +kernel
theorem dX5_comes_260 : decode cX5_comes 260 = .ok (.iconst 0, 1) := by decide +kernel
theorem dX5_comes_261 : decode cX5_comes 261 = .ok (.iastore, 1) := by decide +kernel
theorem dX5_comes_262 : decode cX5_comes 262 = .ok (.iconst 0, 1) := by decide +kernel
theorem dX5_comes_263 : decode cX5_comes 263 = .ok (.istore_n 3, 1) := by decide +kernel
theorem dX5_comes_264 : decode cX5_comes 264 = .ok (.iload_n 3, 1) := by decide +kernel
theorem dX5_comes_265 : decode cX5_comes 265 = .ok (.bipush 6, 2) := by decide +kernel
theorem dX5_comes_267 : decode cX5_comes 267 = .ok (.if_icmp .ge 82, 3) := by decide +kernel
theorem dX5_comes_270 : decode cX5_comes 270 = .ok (.aload_n 0, 1) := by decide +kernel
theorem dX5_comes_271 : decode cX5_comes 271 = .ok (.getfield 47, 3) := by decide +kernel
theorem dX5_comes_274 : decode cX5_comes 274 = .ok (.bipush 6, 2) := by decide +kernel
theorem dX5_comes_276 : decode cX5_comes 276 = .ok (.aload_n 0, 1) := by decide +kernel
theorem dX5_comes_277 : decode cX5_comes 277 = .ok (.getfield 149, 3) := by decide +kernel
theorem dX5_comes_280 : decode cX5_comes 280 = .ok (.imul, 1) := by decide +kernel
theorem dX5_comes_281 : decode cX5_comes 281 = .ok (.iload_n 3, 1) := by decide +kernel
theorem dX5_comes_282 : decode cX5_comes 282 = .ok (.iadd, 1) := by decide +kernel
theorem dX5_comes_283 : decode cX5_comes 283 = .ok (.iconst 0, 1) := by decide +kernel
theorem dX5_comes_284 : decode cX5_comes 284 = .ok (.iastore, 1) := by decide +kernel
theorem dX5_comes_285 : decode cX5_comes 285 = .ok (.iconst 0, 1) := by decide +kernel
theorem dX5_comes_286 : decode cX5_comes 286 = .ok (.istore 4, 2) := by decide +kernel
theorem dX5_comes_288 : decode cX5_comes 288 = .ok (.iload 4, 2) := by decide +kernel
theorem dX5_comes_290 : decode cX5_comes 290 = .ok (.iconst 3, 1) := by decide +kernel
theorem dX5_comes_291 : decode cX5_comes 291 = .ok (.if_icmp .ge 40, 3) := by decide +kernel
theorem dX5_comes_294 : decode cX5_comes 294 = .ok (.aload_n 0, 1) := by decide +kernel
theorem dX5_comes_295 : decode cX5_comes 295 = .ok (.getfield 43, 3) := by decide +kernel
theorem dX5_comes_298 : decode cX5_comes 298 = .ok (.iload_n 3, 1) := by decide +kernel
theorem dX5_comes_299 : decode cX5_comes 299 = .ok (.aload_n 0, 1) := by decide +kernel
theorem dX5_comes_300 : decode cX5_comes 300 = .ok (.getfield 149, 3) := by decide +kernel
theorem dX5_comes_303 : decode cX5_comes 303 = .ok (.invokestatic 186, 3) := by decide +kernel
theorem dX5_comes_306 : decode cX5_comes 306 = .ok (.iload 4, 2) := by decide +kernel
theorem dX5_comes_308 : decode cX5_comes 308 = .ok (.iadd, 1) := by decide +kernel
theorem dX5_comes_309 : decode cX5_comes 309 = .ok (.aload_n 0, 1) := by decide +kernel
theorem dX5_comes_310 : decode cX5_comes 310 = .ok (.getfield 25, 3) := by decide +kernel
theorem dX5_comes_313 : decode cX5_comes 313 = .ok (.iconst 3, 1) := by decide +kernel
theorem dX5_comes_314 : decode cX5_comes 314 = .ok (.aload_n 0, 1) := by decide +kernel
theorem dX5_comes_315 : decode cX5_comes 315 = .ok (.getfield 149, 3) := by decide +kernel
theorem dX5_comes_318 : decode cX5_comes 318 = .ok (.imul, 1) := by decide +kernel
theorem dX5_comes_319 : decode cX5_comes 319 = .ok (.iload 4, 2) := by decide +kernel
theorem dX5_comes_321 : decode cX5_comes 321 = .ok (.iadd, 1) := by decide +kernel
theorem dX5_comes_322 : decode cX5_comes 322 = .ok (.iaload, 1) := by decide +kernel
theorem dX5_comes_323 : decode cX5_comes 323 = .ok (.i2l, 1) := by decide +kernel
theorem dX5_comes_324 : decode cX5_comes 324 = .ok (.lastore, 1) := by decide +kernel
theorem dX5_comes_325 : decode cX5_comes 325 = .ok (.iinc 4 1, 3) := by decide +kernel
theorem dX5_comes_328 : decode cX5_comes 328 = .ok (.goto (-40), 3) := by decide +kernel
theorem dX5_comes_331 : decode cX5_comes 331 = .ok (.aload_n 0, 1) := by decide +kernel
theorem dX5_comes_332 : decode cX5_comes 332 = .ok (.iload_n 3, 1) := by decide +kernel
theorem dX5_comes_333 : decode cX5_comes 333 = .ok (.aload_n 0, 1) := by decide +kernel
theorem dX5_comes_334 : decode cX5_comes 334 = .ok (.getfield 149, 3) := by decide +kernel
theorem dX5_comes_337 : decode cX5_comes 337 = .ok (.invokestatic 186, 3) := by decide +kernel
theorem dX5_comes_340 : decode cX5_comes 340 = .ok (.invokevirtual 190, 3) := by decide +kernel
theorem dX5_comes_343 : decode cX5_comes 343 = .ok (.iinc 3 1, 3) := by decide +kernel
theorem dX5_comes_346 : decode cX5_comes 346 = .ok (.goto (-82), 3) := by decide +kernel
theorem dX5_comes_349 : decode cX5_comes 349 = .ok (.aload_n 0, 1) := by decide +kernel
theorem dX5_comes_350 : decode cX5_comes 350 = .ok (.dup, 1) := by decide +kernel
theorem dX5_comes_351 : decode cX5_comes 351 = .ok (.getfield 149, 3) := by decide +kernel
theorem dX5_comes_354 : decode cX5_comes 354 = .ok (.iconst 1, 1) := by decide +kernel
theorem dX5_comes_355 : decode cX5_comes 355 = .ok (.iadd, 1) := by decide +kernel
theorem dX5_comes_356 : decode cX5_comes 356 = .ok (.putfield 149, 3) := by decide +kernel
theorem dX5_comes_359 : decode cX5_comes 359 = .ok (.goto 36, 3) := by decide +kernel
theorem dX5_comes_362 : decode cX5_comes 362 = .ok (.aload_n 0, 1) := by decide +kernel
theorem dX5_comes_363 : decode cX5_comes 363 = .ok (.getfield 66, 3) := by decide +kernel
theorem dX5_comes_366 : decode cX5_comes 366 = .ok (.iload_n 1, 1) := by decide +kernel
theorem dX5_comes_367 : decode cX5_comes 367 = .ok (.iaload, 1) := by decide +kernel
theorem dX5_comes_368 : decode cX5_comes 368 = .ok (.iconst 2, 1) := by decide +kernel
theorem dX5_comes_369 : decode cX5_comes 369 = .ok (.if_icmp .ne 16, 3) := by decide +kernel
theorem dX5_comes_372 : decode cX5_comes 372 = .ok (.aload_n 0, 1) := by decide +kernel
theorem dX5_comes_373 : decode cX5_comes 373 = .ok (.aload_n 0, 1) := by decide +kernel
theorem dX5_comes_374 : decode cX5_comes 374 = .ok (.getfield 69, 3) := by decide +kernel
theorem dX5_comes_377 : decode cX5_comes 377 = .ok (.iload_n 2, 1) := by decide +kernel
theorem dX5_comes_378 : decode cX5_comes 378 = .ok (.iaload, 1) := by decide +kernel
theorem dX5_comes_379 : decode cX5_comes 379 = .ok (.putfield 194, 3) := by decide +kernel
theorem dX5_comes_382 : decode cX5_comes 382 = .ok (.goto 13, 3) := by decide +kernel
theorem dX5_comes_385 : decode cX5_comes 385 = .ok (.aload_n 0, 1) := by decide +kernel
theorem dX5_comes_386 : decode cX5_comes 386 = .ok (.aload_n 0, 1) := by decide +kernel
theorem dX5_comes_387 : decode cX5_comes 387 = .ok (.getfield 69, 3) := by decide +kernel
theorem dX5_comes_390 : decode cX5_comes 390 = .ok (.iload_n 2, 1) := by decide +kernel
theorem dX5_comes_391 : decode cX5_comes 391 = .ok (.iaload, 1) := by decide +kernel
theorem dX5_comes_392 : decode cX5_comes 392 = .ok (.putfield 50, 3) := by decide +kernel
theorem dX5_comes_395 : decode cX5_comes 395 = .ok (.return_, 1) := by decide +kernel
theorem dX5_town_0 : decode cX5_town 0 = .ok (.aload_n 0, 1) := by decide +kernel
theorem dX5_town_1 : decode cX5_town 1 = .ok (.iconst 0, 1) := by decide +kernel
theorem dX5_town_2 : decode cX5_town 2 = .ok (.putfield 155, 3) := by decide +kernel
theorem dX5_town_5 : decode cX5_town 5 = .ok (.aload_n 0, 1) := by decide +kernel
theorem dX5_town_6 : decode cX5_town 6 = .ok (.iconst 0, 1) := by decide +kernel
theorem dX5_town_7 : decode cX5_town 7 = .ok (.putfield 173, 3) := by decide +kernel
theorem dX5_town_10 : decode cX5_town 10 = .ok (.aload_n 0, 1) := by decide +kernel
theorem dX5_town_11 : decode cX5_town 11 = .ok (.getfield 152, 3) := by decide +kernel
theorem dX5_town_14 : decode cX5_town 14 = .ok (.ifCond .le 7, 3) := by decide +kernel
theorem dX5_town_17 : decode cX5_town 17 = .ok (.iconst 1, 1) := by decide +kernel
theorem dX5_town_18 : decode cX5_town 18 = .ok (.goto 4, 3) := by decide +kernel
theorem dX5_town_21 : decode cX5_town 21 = .ok (.iconst 0, 1) := by decide +kernel
theorem dX5_town_22 : decode cX5_town 22 = .ok (.istore_n 1, 1) := by decide +kernel
theorem dX5_town_23 : decode cX5_town 23 = .ok (.iload_n 1, 1) := by decide +kernel
theorem dX5_town_24 : decode cX5_town 24 = .ok (.ifCond .eq 22, 3) := by decide +kernel
theorem dX5_town_27 : decode cX5_town 27 = .ok (.aload_n 0, 1) := by decide +kernel
theorem dX5_town_28 : decode cX5_town 28 = .ok (.getfield 155, 3) := by decide +kernel
theorem dX5_town_31 : decode cX5_town 31 = .ok (.aload_n 0, 1) := by decide +kernel
theorem dX5_town_32 : decode cX5_town 32 = .ok (.getfield 152, 3) := by decide +kernel
theorem dX5_town_35 : decode cX5_town 35 = .ok (.if_icmp .ge 11, 3) := by decide +kernel
theorem dX5_town_38 : decode cX5_town 38 = .ok (.aload_n 0, 1) := by decide +kernel
theorem dX5_town_39 : decode cX5_town 39 = .ok (.invokevirtual 197, 3) := by decide +kernel
theorem dX5_town_42 : decode cX5_town 42 = .ok (.istore_n 1, 1) := by decide +kernel
theorem dX5_town_43 : decode cX5_town 43 = .ok (.goto (-20), 3) := by decide +kernel
theorem dX5_town_46 : decode cX5_town 46 = .ok (.aload_n 0, 1) := by decide +kernel
theorem dX5_town_47 : decode cX5_town 47 = .ok (.getfield 155, 3) := by decide +kernel
theorem dX5_town_50 : decode cX5_town 50 = .ok (.istore_n 2, 1) := by decide +kernel
theorem dX5_town_51 : decode cX5_town 51 = .ok (.iload_n 1, 1) := by decide +kernel
theorem dX5_town_52 : decode cX5_town 52 = .ok (.ifCond .eq 10, 3) := by decide +kernel
theorem dX5_town_55 : decode cX5_town 55 = .ok (.aload_n 0, 1) := by decide +kernel
theorem dX5_town_56 : decode cX5_town 56 = .ok (.invokevirtual 201, 3) := by decide +kernel
theorem dX5_town_59 : decode cX5_town 59 = .ok (.goto 4, 3) := by decide +kernel
theorem dX5_town_62 : decode cX5_town 62 = .ok (.iconst 0, 1) := by decide +kernel
theorem dX5_town_63 : decode cX5_town 63 = .ok (.istore_n 3, 1) := by decide +kernel
theorem dX5_town_64 : decode cX5_town 64 = .ok (.aload_n 0, 1) := by decide +kernel
theorem dX5_town_65 : decode cX5_town 65 = .ok (.iconst 0, 1) := by decide +kernel
theorem dX5_town_66 : decode cX5_town 66 = .ok (.putfield 152, 3) := by decide +kernel
theorem dX5_town_69 : decode cX5_town 69 = .ok (.iload_n 1, 1) := by decide +kernel
theorem dX5_town_70 : decode cX5_town 70 = .ok (.ifCond .ne 9, 3) := by decide +kernel
theorem dX5_town_73 : decode cX5_town 73 = .ok (.sipush (-1000), 3) := by decide +kernel
theorem dX5_town_76 : decode cX5_town 76 = .ok (.iload_n 2, 1) := by decide +kernel
theorem dX5_town_77 : decode cX5_town 77 = .ok (.isub, 1) := by decide +kernel
theorem dX5_town_78 : decode cX5_town 78 = .ok (.ireturn, 1) := by decide +kernel
theorem dX5_town_79 : decode cX5_town 79 = .ok (.iload_n 3, 1) := by decide +kernel
theorem dX5_town_80 : decode cX5_town 80 = .ok (.aload_n 0, 1) := by decide +kernel
theorem dX5_town_81 : decode cX5_town 81 = .ok (.getfield 173, 3) := by decide +kernel
theorem dX5_town_84 : decode cX5_town 84 = .ok (.if_icmp .ge 14, 3) := by decide +kernel
theorem dX5_town_87 : decode cX5_town 87 = .ok (.sipush (-2000), 3) := by decide +kernel
theorem dX5_town_90 : decode cX5_town 90 = .ok (.aload_n 0, 1) := by decide +kernel
theorem dX5_town_91 : decode cX5_town 91 = .ok (.getfield 63, 3) := by decide +kernel
theorem dX5_town_94 : decode cX5_town 94 = .ok (.iload_n 3, 1) := by decide +kernel
theorem dX5_town_95 : decode cX5_town 95 = .ok (.iaload, 1) := by decide +kernel
theorem dX5_town_96 : decode cX5_town 96 = .ok (.isub, 1) := by decide +kernel
theorem dX5_town_97 : decode cX5_town 97 = .ok (.ireturn, 1) := by decide +kernel
theorem dX5_town_98 : decode cX5_town 98 = .ok (.iconst 0, 1) := by decide +kernel
theorem dX5_town_99 : decode cX5_town 99 = .ok (.istore 4, 2) := by decide +kernel
theorem dX5_town_101 : decode cX5_town 101 = .ok (.iload 4, 2) := by decide +kernel
theorem dX5_town_103 : decode cX5_town 103 = .ok (.aload_n 0, 1) := by decide +kernel
theorem dX5_town_104 : decode cX5_town 104 = .ok (.getfield 173, 3) := by decide +kernel
theorem dX5_town_107 : decode cX5_town 107 = .ok (.if_icmp .ge 15, 3) := by decide +kernel
theorem dX5_town_110 : decode cX5_town 110 = .ok (.aload_n 0, 1) := by decide +kernel
theorem dX5_town_111 : decode cX5_town 111 = .ok (.iload 4, 2) := by decide +kernel
theorem dX5_town_113 : decode cX5_town 113 = .ok (.invokevirtual 204, 3) := by decide +kernel
theorem dX5_town_116 : decode cX5_town 116 = .ok (.iinc 4 1, 3) := by decide +kernel
theorem dX5_town_119 : decode cX5_town 119 = .ok (.goto (-18), 3) := by decide +kernel
theorem dX5_town_122 : decode cX5_town 122 = .ok (.aload_n 0, 1) := by decide +kernel
theorem dX5_town_123 : decode cX5_town 123 = .ok (.getfield 173, 3) := by decide +kernel
theorem dX5_town_126 : decode cX5_town 126 = .ok (.ireturn, 1) := by decide +kernel
theorem dX5_bindsOf_0 : decode cX5_bindsOf 0 = .ok (.iconst 0, 1) := by decide +kernel
theorem dX5_bindsOf_1 : decode cX5_bindsOf 1 = .ok (.istore_n 2, 1) := by decide +kernel
theorem dX5_bindsOf_2 : decode cX5_bindsOf 2 = .ok (.iconst 0, 1) := by decide +kernel
theorem dX5_bindsOf_3 : decode cX5_bindsOf 3 = .ok (.istore_n 3, 1) := by decide +kernel
theorem dX5_bindsOf_4 : decode cX5_bindsOf 4 = .ok (.iload_n 3, 1) := by decide +kernel
theorem dX5_bindsOf_5 : decode cX5_bindsOf 5 = .ok (.aload_n 0, 1) := by decide +kernel
theorem dX5_bindsOf_6 : decode cX5_bindsOf 6 = .ok (.getfield 149, 3) := by decide +kernel
theorem dX5_bindsOf_9 : decode cX5_bindsOf 9 = .ok (.if_icmp .ge 28, 3) := by decide +kernel
theorem dX5_bindsOf_12 : decode cX5_bindsOf 12 = .ok (.iload_n 2, 1) := by decide +kernel
theorem dX5_bindsOf_13 : decode cX5_bindsOf 13 = .ok (.aload_n 0, 1) := by decide +kernel
theorem dX5_bindsOf_14 : decode cX5_bindsOf 14 = .ok (.iload_n 1, 1) := by decide +kernel
theorem dX5_bindsOf_15 : decode cX5_bindsOf 15 = .ok (.iload_n 3, 1) := by decide +kernel
theorem dX5_bindsOf_16 : decode cX5_bindsOf 16 = .ok (.invokevirtual 207, 3) := by decide +kernel
theorem dX5_bindsOf_19 : decode cX5_bindsOf 19 = .ok (.ifCond .eq 9, 3) := by decide +kernel
theorem dX5_bindsOf_22 : decode cX5_bindsOf 22 = .ok (.iconst 1, 1) := by decide +kernel
theorem dX5_bindsOf_23 : decode cX5_bindsOf 23 = .ok (.iload_n 3, 1) := by decide +kernel
theorem dX5_bindsOf_24 : decode cX5_bindsOf 24 = .ok (.ishl, 1) := by decide +kernel
theorem dX5_bindsOf_25 : decode cX5_bindsOf 25 = .ok (.goto 4, 3) := by decide +kernel
theorem dX5_bindsOf_28 : decode cX5_bindsOf 28 = .ok (.iconst 0, 1) := by decide +kernel
theorem dX5_bindsOf_29 : decode cX5_bindsOf 29 = .ok (.ior, 1) := by decide +kernel
theorem dX5_bindsOf_30 : decode cX5_bindsOf 30 = .ok (.istore_n 2, 1) := by decide +kernel
theorem dX5_bindsOf_31 : decode cX5_bindsOf 31 = .ok (.iinc 3 1, 3) := by decide +kernel
theorem dX5_bindsOf_34 : decode cX5_bindsOf 34 = .ok (.goto (-30), 3) := by decide +kernel
theorem dX5_bindsOf_37 : decode cX5_bindsOf 37 = .ok (.iload_n 2, 1) := by decide +kernel
theorem dX5_bindsOf_38 : decode cX5_bindsOf 38 = .ok (.ireturn, 1) := by decide +kernel
theorem dX5_readBy_0 : decode cX5_readBy 0 = .ok (.iconst 0, 1) := by decide +kernel
theorem dX5_readBy_1 : decode cX5_readBy 1 = .ok (.istore_n 2, 1) := by decide +kernel
theorem dX5_readBy_2 : decode cX5_readBy 2 = .ok (.iconst 0, 1) := by decide +kernel
theorem dX5_readBy_3 : decode cX5_readBy 3 = .ok (.istore_n 3, 1) := by decide +kernel
theorem dX5_readBy_4 : decode cX5_readBy 4 = .ok (.iload_n 3, 1) := by decide +kernel
theorem dX5_readBy_5 : decode cX5_readBy 5 = .ok (.aload_n 0, 1) := by decide +kernel
theorem dX5_readBy_6 : decode cX5_readBy 6 = .ok (.getfield 149, 3) := by decide +kernel
theorem dX5_readBy_9 : decode cX5_readBy 9 = .ok (.if_icmp .ge 28, 3) := by decide +kernel
theorem dX5_readBy_12 : decode cX5_readBy 12 = .ok (.iload_n 2, 1) := by decide +kernel
theorem dX5_readBy_13 : decode cX5_readBy 13 = .ok (.aload_n 0, 1) := by decide +kernel
theorem dX5_readBy_14 : decode cX5_readBy 14 = .ok (.iload_n 1, 1) := by decide +kernel
theorem dX5_readBy_15 : decode cX5_readBy 15 = .ok (.iload_n 3, 1) := by decide +kernel
theorem dX5_readBy_16 : decode cX5_readBy 16 = .ok (.invokevirtual 210, 3) := by decide +kernel
theorem dX5_readBy_19 : decode cX5_readBy 19 = .ok (.ifCond .eq 9, 3) := by decide +kernel
theorem dX5_readBy_22 : decode cX5_readBy 22 = .ok (.iconst 1, 1) := by decide +kernel
theorem dX5_readBy_23 : decode cX5_readBy 23 = .ok (.iload_n 3, 1) := by decide +kernel
theorem dX5_readBy_24 : decode cX5_readBy 24 = .ok (.ishl, 1) := by decide +kernel
theorem dX5_readBy_25 : decode cX5_readBy 25 = .ok (.goto 4, 3) := by decide +kernel
theorem dX5_readBy_28 : decode cX5_readBy 28 = .ok (.iconst 0, 1) := by decide +kernel
theorem dX5_readBy_29 : decode cX5_readBy 29 = .ok (.ior, 1) := by decide +kernel
theorem dX5_readBy_30 : decode cX5_readBy 30 = .ok (.istore_n 2, 1) := by decide +kernel
theorem dX5_readBy_31 : decode cX5_readBy 31 = .ok (.iinc 3 1, 3) := by decide +kernel
theorem dX5_readBy_34 : decode cX5_readBy 34 = .ok (.goto (-30), 3) := by decide +kernel
theorem dX5_readBy_37 : decode cX5_readBy 37 = .ok (.iload_n 2, 1) := by decide +kernel
theorem dX5_readBy_38 : decode cX5_readBy 38 = .ok (.ireturn, 1) := by decide +kernel
theorem dX5_person_0 : decode cX5_person 0 = .ok (.aload_n 0, 1) := by decide +kernel
theorem dX5_person_1 : decode cX5_person 1 = .ok (.iload_n 1, 1) := by decide +kernel
theorem dX5_person_2 : decode cX5_person 2 = .ok (.invokevirtual 213, 3) := by decide +kernel
theorem dX5_person_5 : decode cX5_person 5 = .ok (.ifCond .ne 9, 3) := by decide +kernel
theorem dX5_person_8 : decode cX5_person 8 = .ok (.aload_n 0, 1) := by decide +kernel
theorem dX5_person_9 : decode cX5_person 9 = .ok (.iconst (-1), 1) := by decide +kernel
theorem dX5_person_10 : decode cX5_person 10 = .ok (.invokevirtual 137, 3) := by decide +kernel
theorem dX5_person_13 : decode cX5_person 13 = .ok (.ireturn, 1) := by decide +kernel
theorem dX5_person_14 : decode cX5_person 14 = .ok (.iload_n 2, 1) := by decide +kernel
theorem dX5_person_15 : decode cX5_person 15 = .ok (.tableswitch 66 0 4 #[33, 40, 47, 54, 60], 33) := by decide +kernel
theorem dX5_person_48 : decode cX5_person 48 = .ok (.aload_n 0, 1) := by decide +kernel
theorem dX5_person_49 : decode cX5_person 49 = .ok (.getfield 7, 3) := by decide +kernel
theorem dX5_person_52 : decode cX5_person 52 = .ok (.iload_n 1, 1) := by decide +kernel
theorem dX5_person_53 : decode cX5_person 53 = .ok (.iaload, 1) := by decide +kernel
theorem dX5_person_54 : decode cX5_person 54 = .ok (.ireturn, 1) := by decide +kernel
theorem dX5_person_55 : decode cX5_person 55 = .ok (.aload_n 0, 1) := by decide +kernel
theorem dX5_person_56 : decode cX5_person 56 = .ok (.getfield 13, 3) := by decide +kernel
theorem dX5_person_59 : decode cX5_person 59 = .ok (.iload_n 1, 1) := by decide +kernel
theorem dX5_person_60 : decode cX5_person 60 = .ok (.iaload, 1) := by decide +kernel
theorem dX5_person_61 : decode cX5_person 61 = .ok (.ireturn, 1) := by decide +kernel
theorem dX5_person_62 : decode cX5_person 62 = .ok (.aload_n 0, 1) := by decide +kernel
theorem dX5_person_63 : decode cX5_person 63 = .ok (.getfield 16, 3) := by decide +kernel
theorem dX5_person_66 : decode cX5_person 66 = .ok (.iload_n 1, 1) := by decide +kernel
theorem dX5_person_67 : decode cX5_person 67 = .ok (.iaload, 1) := by decide +kernel
theorem dX5_person_68 : decode cX5_person 68 = .ok (.ireturn, 1) := by decide +kernel
theorem dX5_person_69 : decode cX5_person 69 = .ok (.aload_n 0, 1) := by decide +kernel
theorem dX5_person_70 : decode cX5_person 70 = .ok (.iload_n 1, 1) := by decide +kernel
theorem dX5_person_71 : decode cX5_person 71 = .ok (.invokevirtual 216, 3) := by decide +kernel
theorem dX5_person_74 : decode cX5_person 74 = .ok (.ireturn, 1) := by decide +kernel
theorem dX5_person_75 : decode cX5_person 75 = .ok (.aload_n 0, 1) := by decide +kernel
theorem dX5_person_76 : decode cX5_person 76 = .ok (.iload_n 1, 1) := by decide +kernel
theorem dX5_person_77 : decode cX5_person 77 = .ok (.invokevirtual 219, 3) := by decide +kernel
theorem dX5_person_80 : decode cX5_person 80 = .ok (.ireturn, 1) := by decide +kernel
theorem dX5_person_81 : decode cX5_person 81 = .ok (.aload_n 0, 1) := by decide +kernel
theorem dX5_person_82 : decode cX5_person 82 = .ok (.bipush (-2), 2) := by decide +kernel
theorem dX5_person_84 : decode cX5_person 84 = .ok (.invokevirtual 137, 3) := by decide +kernel
theorem dX5_person_87 : decode cX5_person 87 = .ok (.ireturn, 1) := by decide +kernel
theorem dX5_forceBy_0 : decode cX5_forceBy 0 = .ok (.aload_n 0, 1) := by decide +kernel
theorem dX5_forceBy_1 : decode cX5_forceBy 1 = .ok (.getfield 22, 3) := by decide +kernel
theorem dX5_forceBy_4 : decode cX5_forceBy 4 = .ok (.iload_n 1, 1) := by decide +kernel
theorem dX5_forceBy_5 : decode cX5_forceBy 5 = .ok (.iaload, 1) := by decide +kernel
theorem dX5_forceBy_6 : decode cX5_forceBy 6 = .ok (.invokestatic 222, 3) := by decide +kernel
theorem dX5_forceBy_9 : decode cX5_forceBy 9 = .ok (.istore 4, 2) := by decide +kernel
theorem dX5_forceBy_11 : decode cX5_forceBy 11 = .ok (.iload_n 2, 1) := by decide +kernel
theorem dX5_forceBy_12 : decode cX5_forceBy 12 = .ok (.tableswitch 91 0 3 #[32, 44, 55, 69], 32) := by decide +kernel
theorem dX5_forceBy_44 : decode cX5_forceBy 44 = .ok (.iload_n 3, 1) := by decide +kernel
theorem dX5_forceBy_45 : decode cX5_forceBy 45 = .ok (.iload 4, 2) := by decide +kernel
theorem dX5_forceBy_47 : decode cX5_forceBy 47 = .ok (.if_icmp .ge 7, 3) := by decide +kernel
theorem dX5_forceBy_50 : decode cX5_forceBy 50 = .ok (.iconst 1, 1) := by decide +kernel
theorem dX5_forceBy_51 : decode cX5_forceBy 51 = .ok (.goto 4, 3) := by decide +kernel
theorem dX5_forceBy_54 : decode cX5_forceBy 54 = .ok (.iconst 0, 1) := by decide +kernel
theorem dX5_forceBy_55 : decode cX5_forceBy 55 = .ok (.ireturn, 1) := by decide +kernel
theorem dX5_forceBy_56 : decode cX5_forceBy 56 = .ok (.iload_n 3, 1) := by decide +kernel
theorem dX5_forceBy_57 : decode cX5_forceBy 57 = .ok (.iconst 1, 1) := by decide +kernel
theorem dX5_forceBy_58 : decode cX5_forceBy 58 = .ok (.if_icmp .ge 7, 3) := by decide +kernel
theorem dX5_forceBy_61 : decode cX5_forceBy 61 = .ok (.iconst 1, 1) := by decide +kernel
theorem dX5_forceBy_62 : decode cX5_forceBy 62 = .ok (.goto 4, 3) := by decide +kernel
theorem dX5_forceBy_65 : decode cX5_forceBy 65 = .ok (.iconst 0, 1) := by decide +kernel
theorem dX5_forceBy_66 : decode cX5_forceBy 66 = .ok (.ireturn, 1) := by decide +kernel
theorem dX5_forceBy_67 : decode cX5_forceBy 67 = .ok (.iconst 2, 1) := by decide +kernel
theorem dX5_forceBy_68 : decode cX5_forceBy 68 = .ok (.iload_n 3, 1) := by decide +kernel
theorem dX5_forceBy_69 : decode cX5_forceBy 69 = .ok (.imul, 1) := by decide +kernel
theorem dX5_forceBy_70 : decode cX5_forceBy 70 = .ok (.iload 4, 2) := by decide +kernel
theorem dX5_forceBy_72 : decode cX5_forceBy 72 = .ok (.if_icmp .gt 7, 3) := by decide +kernel
theorem dX5_forceBy_75 : decode cX5_forceBy 75 = .ok (.iconst 1, 1) := by decide +kernel
theorem dX5_forceBy_76 : decode cX5_forceBy 76 = .ok (.goto 4, 3) := by decide +kernel
theorem dX5_forceBy_79 : decode cX5_forceBy 79 = .ok (.iconst 0, 1) := by decide +kernel
theorem dX5_forceBy_80 : decode cX5_forceBy 80 = .ok (.ireturn, 1) := by decide +kernel
theorem dX5_forceBy_81 : decode cX5_forceBy 81 = .ok (.iload_n 3, 1) := by decide +kernel
theorem dX5_forceBy_82 : decode cX5_forceBy 82 = .ok (.iload 4, 2) := by decide +kernel
theorem dX5_forceBy_84 : decode cX5_forceBy 84 = .ok (.iconst 2, 1) := by decide +kernel
theorem dX5_forceBy_85 : decode cX5_forceBy 85 = .ok (.if_icmp .ge 8, 3) := by decide +kernel
theorem dX5_forceBy_88 : decode cX5_forceBy 88 = .ok (.iload 4, 2) := by decide +kernel
theorem dX5_forceBy_90 : decode cX5_forceBy 90 = .ok (.goto 4, 3) := by decide +kernel
theorem dX5_forceBy_93 : decode cX5_forceBy 93 = .ok (.iconst 2, 1) := by decide +kernel
theorem dX5_forceBy_94 : decode cX5_forceBy 94 = .ok (.if_icmp .ge 7, 3) := by decide +kernel
theorem dX5_forceBy_97 : decode cX5_forceBy 97 = .ok (.iconst 1, 1) := by decide +kernel
theorem dX5_forceBy_98 : decode cX5_forceBy 98 = .ok (.goto 4, 3) := by decide +kernel
theorem dX5_forceBy_101 : decode cX5_forceBy 101 = .ok (.iconst 0, 1) := by decide +kernel
theorem dX5_forceBy_102 : decode cX5_forceBy 102 = .ok (.ireturn, 1) := by decide +kernel
theorem dX5_forceBy_103 : decode cX5_forceBy 103 = .ok (.iconst 1, 1) := by decide +kernel
theorem dX5_forceBy_104 : decode cX5_forceBy 104 = .ok (.ireturn, 1) := by decide +kernel
theorem dX5_isForce_0 : decode cX5_isForce 0 = .ok (.aload_n 0, 1) := by decide +kernel
theorem dX5_isForce_1 : decode cX5_isForce 1 = .ok (.iload_n 1, 1) := by decide +kernel
theorem dX5_isForce_2 : decode cX5_isForce 2 = .ok (.aload_n 0, 1) := by decide +kernel
theorem dX5_isForce_3 : decode cX5_isForce 3 = .ok (.getfield 194, 3) := by decide +kernel
theorem dX5_isForce_6 : decode cX5_isForce 6 = .ok (.aload_n 0, 1) := by decide +kernel
theorem dX5_isForce_7 : decode cX5_isForce 7 = .ok (.getfield 34, 3) := by decide +kernel
theorem dX5_isForce_10 : decode cX5_isForce 10 = .ok (.iload_n 1, 1) := by decide +kernel
theorem dX5_isForce_11 : decode cX5_isForce 11 = .ok (.iaload, 1) := by decide +kernel
theorem dX5_isForce_12 : decode cX5_isForce 12 = .ok (.invokestatic 222, 3) := by decide +kernel
theorem dX5_isForce_15 : decode cX5_isForce 15 = .ok (.invokevirtual 225, 3) := by decide +kernel
theorem dX5_isForce_18 : decode cX5_isForce 18 = .ok (.ireturn, 1) := by decide +kernel
theorem dX5_paper_0 : decode cX5_paper 0 = .ok (.aload_n 0, 1) := by decide +kernel
theorem dX5_paper_1 : decode cX5_paper 1 = .ok (.iload_n 1, 1) := by decide +kernel
theorem dX5_paper_2 : decode cX5_paper 2 = .ok (.invokevirtual 228, 3) := by decide +kernel
theorem dX5_paper_5 : decode cX5_paper 5 = .ok (.ifCond .ne 9, 3) := by decide +kernel
theorem dX5_paper_8 : decode cX5_paper 8 = .ok (.aload_n 0, 1) := by decide +kernel
theorem dX5_paper_9 : decode cX5_paper 9 = .ok (.iconst (-1), 1) := by decide +kernel
theorem dX5_paper_10 : decode cX5_paper 10 = .ok (.invokevirtual 137, 3) := by decide +kernel
theorem dX5_paper_13 : decode cX5_paper 13 = .ok (.ireturn, 1) := by decide +kernel
theorem dX5_paper_14 : decode cX5_paper 14 = .ok (.iload_n 2, 1) := by decide +kernel
theorem dX5_paper_15 : decode cX5_paper 15 = .ok (.tableswitch 100 0 7 #[45, 52, 52, 52, 65, 72, 79, 93], 45) := by decide +kernel
theorem dX5_paper_60 : decode cX5_paper 60 = .ok (.aload_n 0, 1) := by decide +kernel
theorem dX5_paper_61 : decode cX5_paper 61 = .ok (.getfield 22, 3) := by decide +kernel
theorem dX5_paper_64 : decode cX5_paper 64 = .ok (.iload_n 1, 1) := by decide +kernel
theorem dX5_paper_65 : decode cX5_paper 65 = .ok (.iaload, 1) := by decide +kernel
theorem dX5_paper_66 : decode cX5_paper 66 = .ok (.ireturn, 1) := by decide +kernel
theorem dX5_paper_67 : decode cX5_paper 67 = .ok (.aload_n 0, 1) := by decide +kernel
theorem dX5_paper_68 : decode cX5_paper 68 = .ok (.getfield 25, 3) := by decide +kernel
theorem dX5_paper_71 : decode cX5_paper 71 = .ok (.iconst 3, 1) := by decide +kernel
theorem dX5_paper_72 : decode cX5_paper 72 = .ok (.iload_n 1, 1) := by decide +kernel
theorem dX5_paper_73 : decode cX5_paper 73 = .ok (.imul, 1) := by decide +kernel
theorem dX5_paper_74 : decode cX5_paper 74 = .ok (.iload_n 2, 1) := by decide +kernel
theorem dX5_paper_75 : decode cX5_paper 75 = .ok (.iadd, 1) := by decide +kernel
theorem dX5_paper_76 : decode cX5_paper 76 = .ok (.iconst 1, 1) := by decide +kernel
theorem dX5_paper_77 : decode cX5_paper 77 = .ok (.isub, 1) := by decide +kernel
theorem dX5_paper_78 : decode cX5_paper 78 = .ok (.iaload, 1) := by decide +kernel
theorem dX5_paper_79 : decode cX5_paper 79 = .ok (.ireturn, 1) := by decide +kernel
theorem dX5_paper_80 : decode cX5_paper 80 = .ok (.aload_n 0, 1) := by decide +kernel
theorem dX5_paper_81 : decode cX5_paper 81 = .ok (.getfield 31, 3) := by decide +kernel
theorem dX5_paper_84 : decode cX5_paper 84 = .ok (.iload_n 1, 1) := by decide +kernel
theorem dX5_paper_85 : decode cX5_paper 85 = .ok (.iaload, 1) := by decide +kernel
theorem dX5_paper_86 : decode cX5_paper 86 = .ok (.ireturn, 1) := by decide +kernel
theorem dX5_paper_87 : decode cX5_paper 87 = .ok (.aload_n 0, 1) := by decide +kernel
theorem dX5_paper_88 : decode cX5_paper 88 = .ok (.getfield 34, 3) := by decide +kernel
theorem dX5_paper_91 : decode cX5_paper 91 = .ok (.iload_n 1, 1) := by decide +kernel
theorem dX5_paper_92 : decode cX5_paper 92 = .ok (.iaload, 1) := by decide +kernel
theorem dX5_paper_93 : decode cX5_paper 93 = .ok (.ireturn, 1) := by decide +kernel
theorem dX5_paper_94 : decode cX5_paper 94 = .ok (.aload_n 0, 1) := by decide +kernel
theorem dX5_paper_95 : decode cX5_paper 95 = .ok (.iload_n 1, 1) := by decide +kernel
theorem dX5_paper_96 : decode cX5_paper 96 = .ok (.invokevirtual 231, 3) := by decide +kernel
theorem dX5_paper_99 : decode cX5_paper 99 = .ok (.ifCond .eq 7, 3) := by decide +kernel
theorem dX5_paper_102 : decode cX5_paper 102 = .ok (.iconst 1, 1) := by decide +kernel
theorem dX5_paper_103 : decode cX5_paper 103 = .ok (.goto 4, 3) := by decide +kernel
theorem dX5_paper_106 : decode cX5_paper 106 = .ok (.iconst 0, 1) := by decide +kernel
theorem dX5_paper_107 : decode cX5_paper 107 = .ok (.ireturn, 1) := by decide +kernel
theorem dX5_paper_108 : decode cX5_paper 108 = .ok (.aload_n 0, 1) := by decide +kernel
theorem dX5_paper_109 : decode cX5_paper 109 = .ok (.getfield 40, 3) := by decide +kernel
theorem dX5_paper_112 : decode cX5_paper 112 = .ok (.iload_n 1, 1) := by decide +kernel
theorem dX5_paper_113 : decode cX5_paper 113 = .ok (.iaload, 1) := by decide +kernel
theorem dX5_paper_114 : decode cX5_paper 114 = .ok (.ireturn, 1) := by decide +kernel
theorem dX5_paper_115 : decode cX5_paper 115 = .ok (.aload_n 0, 1) := by decide +kernel
theorem dX5_paper_116 : decode cX5_paper 116 = .ok (.bipush (-2), 2) := by decide +kernel
theorem dX5_paper_118 : decode cX5_paper 118 = .ok (.invokevirtual 137, 3) := by decide +kernel
theorem dX5_paper_121 : decode cX5_paper 121 = .ok (.ireturn, 1) := by decide +kernel
theorem dX5_brings_0 : decode cX5_brings 0 = .ok (.aload_n 0, 1) := by decide +kernel
theorem dX5_brings_1 : decode cX5_brings 1 = .ok (.iload_n 1, 1) := by decide +kernel
theorem dX5_brings_2 : decode cX5_brings 2 = .ok (.invokevirtual 228, 3) := by decide +kernel
theorem dX5_brings_5 : decode cX5_brings 5 = .ok (.ifCond .eq 25, 3) := by decide +kernel
theorem dX5_brings_8 : decode cX5_brings 8 = .ok (.iload_n 2, 1) := by decide +kernel
theorem dX5_brings_9 : decode cX5_brings 9 = .ok (.iconst 0, 1) := by decide +kernel
theorem dX5_brings_10 : decode cX5_brings 10 = .ok (.iconst 2, 1) := by decide +kernel
theorem dX5_brings_11 : decode cX5_brings 11 = .ok (.invokestatic 145, 3) := by decide +kernel
theorem dX5_brings_14 : decode cX5_brings 14 = .ok (.ifCond .eq 16, 3) := by decide +kernel
theorem dX5_brings_17 : decode cX5_brings 17 = .ok (.aload_n 0, 1) := by decide +kernel
theorem dX5_brings_18 : decode cX5_brings 18 = .ok (.getfield 28, 3) := by decide +kernel
theorem dX5_brings_21 : decode cX5_brings 21 = .ok (.iconst 3, 1) := by decide +kernel
theorem dX5_brings_22 : decode cX5_brings 22 = .ok (.iload_n 1, 1) := by decide +kernel
theorem dX5_brings_23 : decode cX5_brings 23 = .ok (.imul, 1) := by decide +kernel
theorem dX5_brings_24 : decode cX5_brings 24 = .ok (.iload_n 2, 1) := by decide +kernel
theorem dX5_brings_25 : decode cX5_brings 25 = .ok (.iadd, 1) := by decide +kernel
theorem dX5_brings_26 : decode cX5_brings 26 = .ok (.iaload, 1) := by decide +kernel
theorem dX5_brings_27 : decode cX5_brings 27 = .ok (.goto 8, 3) := by decide +kernel
theorem dX5_brings_30 : decode cX5_brings 30 = .ok (.aload_n 0, 1) := by decide +kernel
theorem dX5_brings_31 : decode cX5_brings 31 = .ok (.iconst (-1), 1) := by decide +kernel
theorem dX5_brings_32 : decode cX5_brings 32 = .ok (.invokevirtual 234, 3) := by decide +kernel
theorem dX5_brings_35 : decode cX5_brings 35 = .ok (.ireturn, 1) := by decide +kernel
theorem dX5_truth_0 : decode cX5_truth 0 = .ok (.aload_n 0, 1) := by decide +kernel
theorem dX5_truth_1 : decode cX5_truth 1 = .ok (.iload_n 1, 1) := by decide +kernel
theorem dX5_truth_2 : decode cX5_truth 2 = .ok (.invokevirtual 228, 3) := by decide +kernel
theorem dX5_truth_5 : decode cX5_truth 5 = .ok (.ifCond .eq 12, 3) := by decide +kernel
theorem dX5_truth_8 : decode cX5_truth 8 = .ok (.iload_n 2, 1) := by decide +kernel
theorem dX5_truth_9 : decode cX5_truth 9 = .ok (.iconst 0, 1) := by decide +kernel
theorem dX5_truth_10 : decode cX5_truth 10 = .ok (.iconst 2, 1) := by decide +kernel
theorem dX5_truth_11 : decode cX5_truth 11 = .ok (.invokestatic 145, 3) := by decide +kernel
theorem dX5_truth_14 : decode cX5_truth 14 = .ok (.ifCond .ne 9, 3) := by decide +kernel
theorem dX5_truth_17 : decode cX5_truth 17 = .ok (.aload_n 0, 1) := by decide +kernel
theorem dX5_truth_18 : decode cX5_truth 18 = .ok (.iconst (-1), 1) := by decide +kernel
theorem dX5_truth_19 : decode cX5_truth 19 = .ok (.invokevirtual 137, 3) := by decide +kernel
theorem dX5_truth_22 : decode cX5_truth 22 = .ok (.ireturn, 1) := by decide +kernel
theorem dX5_truth_23 : decode cX5_truth 23 = .ok (.aload_n 0, 1) := by decide +kernel
theorem dX5_truth_24 : decode cX5_truth 24 = .ok (.getfield 34, 3) := by decide +kernel
theorem dX5_truth_27 : decode cX5_truth 27 = .ok (.iload_n 1, 1) := by decide +kernel
theorem dX5_truth_28 : decode cX5_truth 28 = .ok (.iaload, 1) := by decide +kernel
theorem dX5_truth_29 : decode cX5_truth 29 = .ok (.ifCond .eq 10, 3) := by decide +kernel
theorem dX5_truth_32 : decode cX5_truth 32 = .ok (.aload_n 0, 1) := by decide +kernel
theorem dX5_truth_33 : decode cX5_truth 33 = .ok (.bipush (-3), 2) := by decide +kernel
theorem dX5_truth_35 : decode cX5_truth 35 = .ok (.invokevirtual 137, 3) := by decide +kernel
theorem dX5_truth_38 : decode cX5_truth 38 = .ok (.ireturn, 1) := by decide +kernel
theorem dX5_truth_39 : decode cX5_truth 39 = .ok (.aload_n 0, 1) := by decide +kernel
theorem dX5_truth_40 : decode cX5_truth 40 = .ok (.getfield 31, 3) := by decide +kernel
theorem dX5_truth_43 : decode cX5_truth 43 = .ok (.iload_n 1, 1) := by decide +kernel
theorem dX5_truth_44 : decode cX5_truth 44 = .ok (.iaload, 1) := by decide +kernel
theorem dX5_truth_45 : decode cX5_truth 45 = .ok (.istore_n 3, 1) := by decide +kernel
theorem dX5_truth_46 : decode cX5_truth 46 = .ok (.aload_n 0, 1) := by decide +kernel
theorem dX5_truth_47 : decode cX5_truth 47 = .ok (.getfield 31, 3) := by decide +kernel
theorem dX5_truth_50 : decode cX5_truth 50 = .ok (.iload_n 1, 1) := by decide +kernel
theorem dX5_truth_51 : decode cX5_truth 51 = .ok (.iload_n 2, 1) := by decide +kernel
theorem dX5_truth_52 : decode cX5_truth 52 = .ok (.iastore, 1) := by decide +kernel
theorem dX5_truth_53 : decode cX5_truth 53 = .ok (.iload_n 3, 1) := by decide +kernel
theorem dX5_truth_54 : decode cX5_truth 54 = .ok (.ireturn, 1) := by decide +kernel
theorem dX5_law_0 : decode cX5_law 0 = .ok (.iload_n 1, 1) := by decide +kernel
theorem dX5_law_1 : decode cX5_law 1 = .ok (.iconst 0, 1) := by decide +kernel
theorem dX5_law_2 : decode cX5_law 2 = .ok (.iconst 4, 1) := by decide +kernel
theorem dX5_law_3 : decode cX5_law 3 = .ok (.invokestatic 145, 3) := by decide +kernel
theorem dX5_law_6 : decode cX5_law 6 = .ok (.ifCond .ne 10, 3) := by decide +kernel
theorem dX5_law_9 : decode cX5_law 9 = .ok (.aload_n 0, 1) := by decide +kernel
theorem dX5_law_10 : decode cX5_law 10 = .ok (.bipush (-2), 2) := by decide +kernel
theorem dX5_law_12 : decode cX5_law 12 = .ok (.invokevirtual 137, 3) := by decide +kernel
theorem dX5_law_15 : decode cX5_law 15 = .ok (.ireturn, 1) := by decide +kernel
theorem dX5_law_16 : decode cX5_law 16 = .ok (.aload_n 0, 1) := by decide +kernel
theorem dX5_law_17 : decode cX5_law 17 = .ok (.getfield 194, 3) := by decide +kernel
theorem dX5_law_20 : decode cX5_law 20 = .ok (.istore_n 2, 1) := by decide +kernel
theorem dX5_law_21 : decode cX5_law 21 = .ok (.aload_n 0, 1) := by decide +kernel
theorem dX5_law_22 : decode cX5_law 22 = .ok (.iload_n 1, 1) := by decide +kernel
theorem dX5_law_23 : decode cX5_law 23 = .ok (.putfield 194, 3) := by decide +kernel
theorem dX5_law_26 : decode cX5_law 26 = .ok (.iload_n 2, 1) := by decide +kernel
theorem dX5_law_27 : decode cX5_law 27 = .ok (.ireturn, 1) := by decide +kernel
theorem dX5_mayRead_0 : decode cX5_mayRead 0 = .ok (.aload_n 0, 1) := by decide +kernel
theorem dX5_mayRead_1 : decode cX5_mayRead 1 = .ok (.iload_n 1, 1) := by decide +kernel
theorem dX5_mayRead_2 : decode cX5_mayRead 2 = .ok (.invokevirtual 213, 3) := by decide +kernel
theorem dX5_mayRead_5 : decode cX5_mayRead 5 = .ok (.ifCond .eq 33, 3) := by decide +kernel
theorem dX5_mayRead_8 : decode cX5_mayRead 8 = .ok (.aload_n 0, 1) := by decide +kernel
theorem dX5_mayRead_9 : decode cX5_mayRead 9 = .ok (.iload_n 1, 1) := by decide +kernel
theorem dX5_mayRead_10 : decode cX5_mayRead 10 = .ok (.iload_n 2, 1) := by decide +kernel
theorem dX5_mayRead_11 : decode cX5_mayRead 11 = .ok (.invokevirtual 207, 3) := by decide +kernel
theorem dX5_mayRead_14 : decode cX5_mayRead 14 = .ok (.ifCond .eq 24, 3) := by decide +kernel
theorem dX5_mayRead_17 : decode cX5_mayRead 17 = .ok (.aload_n 0, 1) := by decide +kernel
theorem dX5_mayRead_18 : decode cX5_mayRead 18 = .ok (.iload_n 1, 1) := by decide +kernel
theorem dX5_mayRead_19 : decode cX5_mayRead 19 = .ok (.iload_n 2, 1) := by decide +kernel
theorem dX5_mayRead_20 : decode cX5_mayRead 20 = .ok (.invokevirtual 210, 3) := by decide +kernel
theorem dX5_mayRead_23 : decode cX5_mayRead 23 = .ok (.ifCond .ne 15, 3) := by decide +kernel
theorem dX5_mayRead_26 : decode cX5_mayRead 26 = .ok (.aload_n 0, 1) := by decide +kernel
theorem dX5_mayRead_27 : decode cX5_mayRead 27 = .ok (.iload_n 2, 1) := by decide +kernel
theorem dX5_mayRead_28 : decode cX5_mayRead 28 = .ok (.invokevirtual 231, 3) := by decide +kernel
theorem dX5_mayRead_31 : decode cX5_mayRead 31 = .ok (.ifCond .eq 7, 3) := by decide +kernel
theorem dX5_mayRead_34 : decode cX5_mayRead 34 = .ok (.iconst 1, 1) := by decide +kernel
theorem dX5_mayRead_35 : decode cX5_mayRead 35 = .ok (.goto 4, 3) := by decide +kernel
theorem dX5_mayRead_38 : decode cX5_mayRead 38 = .ok (.iconst 0, 1) := by decide +kernel
theorem dX5_mayRead_39 : decode cX5_mayRead 39 = .ok (.ireturn, 1) := by decide +kernel
theorem dX5_hasNowRead_0 : decode cX5_hasNowRead 0 = .ok (.aload_n 0, 1) := by decide +kernel
theorem dX5_hasNowRead_1 : decode cX5_hasNowRead 1 = .ok (.getfield 34, 3) := by decide +kernel
theorem dX5_hasNowRead_4 : decode cX5_hasNowRead 4 = .ok (.iload_n 2, 1) := by decide +kernel
theorem dX5_hasNowRead_5 : decode cX5_hasNowRead 5 = .ok (.dup2, 1) := by decide +kernel
theorem dX5_hasNowRead_6 : decode cX5_hasNowRead 6 = .ok (.iaload, 1) := by decide +kernel
theorem dX5_hasNowRead_7 : decode cX5_hasNowRead 7 = .ok (.iconst 1, 1) := by decide +kernel
theorem dX5_hasNowRead_8 : decode cX5_hasNowRead 8 = .ok (.iload_n 1, 1) := by decide +kernel
theorem dX5_hasNowRead_9 : decode cX5_hasNowRead 9 = .ok (.ishl, 1) := by decide +kernel
theorem dX5_hasNowRead_10 : decode cX5_hasNowRead 10 = .ok (.ior, 1) := by decide +kernel
theorem dX5_hasNowRead_11 : decode cX5_hasNowRead 11 = .ok (.iastore, 1) := by decide +kernel
theorem dX5_hasNowRead_12 : decode cX5_hasNowRead 12 = .ok (.iconst 0, 1) := by decide +kernel
theorem dX5_hasNowRead_13 : decode cX5_hasNowRead 13 = .ok (.istore_n 3, 1) := by decide +kernel
theorem dX5_hasNowRead_14 : decode cX5_hasNowRead 14 = .ok (.iload_n 3, 1) := by decide +kernel
theorem dX5_hasNowRead_15 : decode cX5_hasNowRead 15 = .ok (.iconst 3, 1) := by decide +kernel
theorem dX5_hasNowRead_16 : decode cX5_hasNowRead 16 = .ok (.if_icmp .ge 36, 3) := by decide +kernel
theorem dX5_hasNowRead_19 : decode cX5_hasNowRead 19 = .ok (.aload_n 0, 1) := by decide +kernel
theorem dX5_hasNowRead_20 : decode cX5_hasNowRead 20 = .ok (.getfield 43, 3) := by decide +kernel
theorem dX5_hasNowRead_23 : decode cX5_hasNowRead 23 = .ok (.iload_n 1, 1) := by decide +kernel
theorem dX5_hasNowRead_24 : decode cX5_hasNowRead 24 = .ok (.iload_n 2, 1) := by decide +kernel
theorem dX5_hasNowRead_25 : decode cX5_hasNowRead 25 = .ok (.invokestatic 186, 3) := by decide +kernel
theorem dX5_hasNowRead_28 : decode cX5_hasNowRead 28 = .ok (.iload_n 3, 1) := by decide +kernel
theorem dX5_hasNowRead_29 : decode cX5_hasNowRead 29 = .ok (.iadd, 1) := by decide +kernel
theorem dX5_hasNowRead_30 : decode cX5_hasNowRead 30 = .ok (.iload_n 3, 1) := by decide +kernel
theorem dX5_hasNowRead_31 : decode cX5_hasNowRead 31 = .ok (.aload_n 0, 1) := by decide +kernel
theorem dX5_hasNowRead_32 : decode cX5_hasNowRead 32 = .ok (.getfield 31, 3) := by decide +kernel
theorem dX5_hasNowRead_35 : decode cX5_hasNowRead 35 = .ok (.iload_n 2, 1) := by decide +kernel
theorem dX5_hasNowRead_36 : decode cX5_hasNowRead 36 = .ok (.iaload, 1) := by decide +kernel
theorem dX5_hasNowRead_37 : decode cX5_hasNowRead 37 = .ok (.if_icmp .ne 7, 3) := by decide +kernel
theorem dX5_hasNowRead_40 : decode cX5_hasNowRead 40 = .ok (.lconst 1, 1) := by decide +kernel
theorem dX5_hasNowRead_41 : decode cX5_hasNowRead 41 = .ok (.goto 4, 3) := by decide +kernel
theorem dX5_hasNowRead_44 : decode cX5_hasNowRead 44 = .ok (.lconst 0, 1) := by decide +kernel
theorem dX5_hasNowRead_45 : decode cX5_hasNowRead 45 = .ok (.lastore, 1) := by decide +kernel
theorem dX5_hasNowRead_46 : decode cX5_hasNowRead 46 = .ok (.iinc 3 1, 3) := by decide +kernel
theorem dX5_hasNowRead_49 : decode cX5_hasNowRead 49 = .ok (.goto (-35), 3) := by decide +kernel
theorem dX5_hasNowRead_52 : decode cX5_hasNowRead 52 = .ok (.return_, 1) := by decide +kernel
theorem dX5_reads_0 : decode cX5_reads 0 = .ok (.aload_n 0, 1) := by decide +kernel
theorem dX5_reads_1 : decode cX5_reads 1 = .ok (.iload_n 1, 1) := by decide +kernel
theorem dX5_reads_2 : decode cX5_reads 2 = .ok (.invokevirtual 213, 3) := by decide +kernel
theorem dX5_reads_5 : decode cX5_reads 5 = .ok (.ifCond .eq 11, 3) := by decide +kernel
theorem dX5_reads_8 : decode cX5_reads 8 = .ok (.aload_n 0, 1) := by decide +kernel
theorem dX5_reads_9 : decode cX5_reads 9 = .ok (.iload_n 2, 1) := by decide +kernel
theorem dX5_reads_10 : decode cX5_reads 10 = .ok (.invokevirtual 228, 3) := by decide +kernel
theorem dX5_reads_13 : decode cX5_reads 13 = .ok (.ifCond .ne 9, 3) := by decide +kernel
theorem dX5_reads_16 : decode cX5_reads 16 = .ok (.aload_n 0, 1) := by decide +kernel
theorem dX5_reads_17 : decode cX5_reads 17 = .ok (.iconst (-1), 1) := by decide +kernel
theorem dX5_reads_18 : decode cX5_reads 18 = .ok (.invokevirtual 137, 3) := by decide +kernel
theorem dX5_reads_21 : decode cX5_reads 21 = .ok (.ireturn, 1) := by decide +kernel
theorem dX5_reads_22 : decode cX5_reads 22 = .ok (.aload_n 0, 1) := by decide +kernel
theorem dX5_reads_23 : decode cX5_reads 23 = .ok (.iload_n 1, 1) := by decide +kernel
theorem dX5_reads_24 : decode cX5_reads 24 = .ok (.iload_n 2, 1) := by decide +kernel
theorem dX5_reads_25 : decode cX5_reads 25 = .ok (.invokevirtual 237, 3) := by decide +kernel
theorem dX5_reads_28 : decode cX5_reads 28 = .ok (.ifCond .ne 10, 3) := by decide +kernel
theorem dX5_reads_31 : decode cX5_reads 31 = .ok (.aload_n 0, 1) := by decide +kernel
theorem dX5_reads_32 : decode cX5_reads 32 = .ok (.bipush (-3), 2) := by decide +kernel
theorem dX5_reads_34 : decode cX5_reads 34 = .ok (.invokevirtual 137, 3) := by decide +kernel
theorem dX5_reads_37 : decode cX5_reads 37 = .ok (.ireturn, 1) := by decide +kernel
theorem dX5_reads_38 : decode cX5_reads 38 = .ok (.aload_n 0, 1) := by decide +kernel
theorem dX5_reads_39 : decode cX5_reads 39 = .ok (.iload_n 1, 1) := by decide +kernel
theorem dX5_reads_40 : decode cX5_reads 40 = .ok (.iload_n 2, 1) := by decide +kernel
theorem dX5_reads_41 : decode cX5_reads 41 = .ok (.invokevirtual 240, 3) := by decide +kernel
theorem dX5_reads_44 : decode cX5_reads 44 = .ok (.aload_n 0, 1) := by decide +kernel
theorem dX5_reads_45 : decode cX5_reads 45 = .ok (.getfield 34, 3) := by decide +kernel
theorem dX5_reads_48 : decode cX5_reads 48 = .ok (.iload_n 2, 1) := by decide +kernel
theorem dX5_reads_49 : decode cX5_reads 49 = .ok (.iaload, 1) := by decide +kernel
theorem dX5_reads_50 : decode cX5_reads 50 = .ok (.invokestatic 222, 3) := by decide +kernel
theorem dX5_reads_53 : decode cX5_reads 53 = .ok (.ireturn, 1) := by decide +kernel
theorem dX5_hear_0 : decode cX5_hear 0 = .ok (.aload_n 0, 1) := by decide +kernel
theorem dX5_hear_1 : decode cX5_hear 1 = .ok (.iload_n 1, 1) := by decide +kernel
theorem dX5_hear_2 : decode cX5_hear 2 = .ok (.invokevirtual 213, 3) := by decide +kernel
theorem dX5_hear_5 : decode cX5_hear 5 = .ok (.ifCond .eq 20, 3) := by decide +kernel
theorem dX5_hear_8 : decode cX5_hear 8 = .ok (.aload_n 0, 1) := by decide +kernel
theorem dX5_hear_9 : decode cX5_hear 9 = .ok (.iload_n 2, 1) := by decide +kernel
theorem dX5_hear_10 : decode cX5_hear 10 = .ok (.invokevirtual 228, 3) := by decide +kernel
theorem dX5_hear_13 : decode cX5_hear 13 = .ok (.ifCond .eq 12, 3) := by decide +kernel
theorem dX5_hear_16 : decode cX5_hear 16 = .ok (.iload_n 3, 1) := by decide +kernel
theorem dX5_hear_17 : decode cX5_hear 17 = .ok (.iconst 0, 1) := by decide +kernel
theorem dX5_hear_18 : decode cX5_hear 18 = .ok (.iconst 2, 1) := by decide +kernel
theorem dX5_hear_19 : decode cX5_hear 19 = .ok (.invokestatic 145, 3) := by decide +kernel
theorem dX5_hear_22 : decode cX5_hear 22 = .ok (.ifCond .ne 9, 3) := by decide +kernel
theorem dX5_hear_25 : decode cX5_hear 25 = .ok (.aload_n 0, 1) := by decide +kernel
theorem dX5_hear_26 : decode cX5_hear 26 = .ok (.iconst (-1), 1) := by decide +kernel
theorem dX5_hear_27 : decode cX5_hear 27 = .ok (.invokevirtual 137, 3) := by decide +kernel
theorem dX5_hear_30 : decode cX5_hear 30 = .ok (.ireturn, 1) := by decide +kernel
theorem dX5_hear_31 : decode cX5_hear 31 = .ok (.aload_n 0, 1) := by decide +kernel
theorem dX5_hear_32 : decode cX5_hear 32 = .ok (.iload_n 1, 1) := by decide +kernel
theorem dX5_hear_33 : decode cX5_hear 33 = .ok (.iload_n 2, 1) := by decide +kernel
theorem dX5_hear_34 : decode cX5_hear 34 = .ok (.invokevirtual 207, 3) := by decide +kernel
theorem dX5_hear_37 : decode cX5_hear 37 = .ok (.ifCond .eq 12, 3) := by decide +kernel
theorem dX5_hear_40 : decode cX5_hear 40 = .ok (.aload_n 0, 1) := by decide +kernel
theorem dX5_hear_41 : decode cX5_hear 41 = .ok (.iload_n 1, 1) := by decide +kernel
theorem dX5_hear_42 : decode cX5_hear 42 = .ok (.iload_n 2, 1) := by decide +kernel
theorem dX5_hear_43 : decode cX5_hear 43 = .ok (.invokevirtual 210, 3) := by decide +kernel
theorem dX5_hear_46 : decode cX5_hear 46 = .ok (.ifCond .eq 10, 3) := by decide +kernel
theorem dX5_hear_49 : decode cX5_hear 49 = .ok (.aload_n 0, 1) := by decide +kernel
theorem dX5_hear_50 : decode cX5_hear 50 = .ok (.bipush (-3), 2) := by decide +kernel
theorem dX5_hear_52 : decode cX5_hear 52 = .ok (.invokevirtual 137, 3) := by decide +kernel
theorem dX5_hear_55 : decode cX5_hear 55 = .ok (.ireturn, 1) := by decide +kernel
theorem dX5_hear_56 : decode cX5_hear 56 = .ok (.aload_n 0, 1) := by decide +kernel
theorem dX5_hear_57 : decode cX5_hear 57 = .ok (.getfield 47, 3) := by decide +kernel
theorem dX5_hear_60 : decode cX5_hear 60 = .ok (.bipush 6, 2) := by decide +kernel
theorem dX5_hear_62 : decode cX5_hear 62 = .ok (.iload_n 2, 1) := by decide +kernel
theorem dX5_hear_63 : decode cX5_hear 63 = .ok (.imul, 1) := by decide +kernel
theorem dX5_hear_64 : decode cX5_hear 64 = .ok (.iload_n 1, 1) := by decide +kernel
theorem dX5_hear_65 : decode cX5_hear 65 = .ok (.iadd, 1) := by decide +kernel
theorem dX5_hear_66 : decode cX5_hear 66 = .ok (.iaload, 1) := by decide +kernel
theorem dX5_hear_67 : decode cX5_hear 67 = .ok (.iconst 3, 1) := by decide +kernel
theorem dX5_hear_68 : decode cX5_hear 68 = .ok (.if_icmp .ne 10, 3) := by decide +kernel
theorem dX5_hear_71 : decode cX5_hear 71 = .ok (.aload_n 0, 1) := by decide +kernel
theorem dX5_hear_72 : decode cX5_hear 72 = .ok (.bipush (-6), 2) := by decide +kernel
theorem dX5_hear_74 : decode cX5_hear 74 = .ok (.invokevirtual 137, 3) := by decide +kernel
theorem dX5_hear_77 : decode cX5_hear 77 = .ok (.ireturn, 1) := by decide +kernel
theorem dX5_hear_78 : decode cX5_hear 78 = .ok (.iload_n 1, 1) := by decide +kernel
theorem dX5_hear_79 : decode cX5_hear 79 = .ok (.iload_n 2, 1) := by decide +kernel
theorem dX5_hear_80 : decode cX5_hear 80 = .ok (.invokestatic 186, 3) := by decide +kernel
theorem dX5_hear_83 : decode cX5_hear 83 = .ok (.istore 4, 2) := by decide +kernel
theorem dX5_hear_85 : decode cX5_hear 85 = .ok (.lconst 0, 1) := by decide +kernel
theorem dX5_hear_86 : decode cX5_hear 86 = .ok (.lstore 5, 2) := by decide +kernel
theorem dX5_hear_88 : decode cX5_hear 88 = .ok (.iconst 0, 1) := by decide +kernel
theorem dX5_hear_89 : decode cX5_hear 89 = .ok (.istore 7, 2) := by decide +kernel
theorem dX5_hear_91 : decode cX5_hear 91 = .ok (.iload 7, 2) := by decide +kernel
theorem dX5_hear_93 : decode cX5_hear 93 = .ok (.iconst 3, 1) := by decide +kernel
theorem dX5_hear_94 : decode cX5_hear 94 = .ok (.if_icmp .ge 48, 3) := by decide +kernel
theorem dX5_hear_97 : decode cX5_hear 97 = .ok (.lload 5, 2) := by decide +kernel
theorem dX5_hear_99 : decode cX5_hear 99 = .ok (.aload_n 0, 1) := by decide +kernel
theorem dX5_hear_100 : decode cX5_hear 100 = .ok (.getfield 43, 3) := by decide +kernel
theorem dX5_hear_103 : decode cX5_hear 103 = .ok (.iload 4, 2) := by decide +kernel
theorem dX5_hear_105 : decode cX5_hear 105 = .ok (.iload 7, 2) := by decide +kernel
theorem dX5_hear_107 : decode cX5_hear 107 = .ok (.iadd, 1) := by decide +kernel
theorem dX5_hear_108 : decode cX5_hear 108 = .ok (.laload, 1) := by decide +kernel
theorem dX5_hear_109 : decode cX5_hear 109 = .ok (.iload 7, 2) := by decide +kernel
theorem dX5_hear_111 : decode cX5_hear 111 = .ok (.iload_n 3, 1) := by decide +kernel
theorem dX5_hear_112 : decode cX5_hear 112 = .ok (.if_icmp .ne 12, 3) := by decide +kernel
theorem dX5_hear_115 : decode cX5_hear 115 = .ok (.iconst 2, 1) := by decide +kernel
theorem dX5_hear_116 : decode cX5_hear 116 = .ok (.aload_n 0, 1) := by decide +kernel
theorem dX5_hear_117 : decode cX5_hear 117 = .ok (.getfield 50, 3) := by decide +kernel
theorem dX5_hear_120 : decode cX5_hear 120 = .ok (.imul, 1) := by decide +kernel
theorem dX5_hear_121 : decode cX5_hear 121 = .ok (.goto 10, 3) := by decide +kernel
theorem dX5_hear_124 : decode cX5_hear 124 = .ok (.bipush 100, 2) := by decide +kernel
theorem dX5_hear_126 : decode cX5_hear 126 = .ok (.aload_n 0, 1) := by decide +kernel
theorem dX5_hear_127 : decode cX5_hear 127 = .ok (.getfield 50, 3) := by decide +kernel
theorem dX5_hear_130 : decode cX5_hear 130 = .ok (.isub, 1) := by decide +kernel
theorem dX5_hear_131 : decode cX5_hear 131 = .ok (.i2l, 1) := by decide +kernel
theorem dX5_hear_132 : decode cX5_hear 132 = .ok (.lmul, 1) := by decide +kernel
theorem dX5_hear_133 : decode cX5_hear 133 = .ok (.ladd, 1) := by decide +kernel
theorem dX5_hear_134 : decode cX5_hear 134 = .ok (.lstore 5, 2) := by decide +kernel
theorem dX5_hear_136 : decode cX5_hear 136 = .ok (.iinc 7 1, 3) := by decide +kernel
theorem dX5_hear_139 : decode cX5_hear 139 = .ok (.goto (-48), 3) := by decide +kernel
theorem dX5_hear_142 : decode cX5_hear 142 = .ok (.iconst 0, 1) := by decide +kernel
theorem dX5_hear_143 : decode cX5_hear 143 = .ok (.istore 7, 2) := by decide +kernel
theorem dX5_hear_145 : decode cX5_hear 145 = .ok (.iload 7, 2) := by decide +kernel
theorem dX5_hear_147 : decode cX5_hear 147 = .ok (.iconst 3, 1) := by decide +kernel
theorem dX5_hear_148 : decode cX5_hear 148 = .ok (.if_icmp .ge 53, 3) := by decide +kernel
theorem dX5_hear_151 : decode cX5_hear 151 = .ok (.lload 5, 2) := by decide +kernel
theorem dX5_hear_153 : decode cX5_hear 153 = .ok (.lconst 0, 1) := by decide +kernel
theorem dX5_hear_154 : decode cX5_hear 154 = .ok (.lcmp, 1) := by decide +kernel
theorem dX5_hear_155 : decode cX5_hear 155 = .ok (.ifCond .le 46, 3) := by decide +kernel
theorem dX5_hear_158 : decode cX5_hear 158 = .ok (.aload_n 0, 1) := by decide +kernel
theorem dX5_hear_159 : decode cX5_hear 159 = .ok (.getfield 43, 3) := by decide +kernel
theorem dX5_hear_162 : decode cX5_hear 162 = .ok (.iload 4, 2) := by decide +kernel
theorem dX5_hear_164 : decode cX5_hear 164 = .ok (.iload 7, 2) := by decide +kernel
theorem dX5_hear_166 : decode cX5_hear 166 = .ok (.iadd, 1) := by decide +kernel
theorem dX5_hear_167 : decode cX5_hear 167 = .ok (.dup2, 1) := by decide +kernel
theorem dX5_hear_168 : decode cX5_hear 168 = .ok (.laload, 1) := by decide +kernel
theorem dX5_hear_169 : decode cX5_hear 169 = .ok (.iload 7, 2) := by decide +kernel
theorem dX5_hear_171 : decode cX5_hear 171 = .ok (.iload_n 3, 1) := by decide +kernel
theorem dX5_hear_172 : decode cX5_hear 172 = .ok (.if_icmp .ne 13, 3) := by decide +kernel
theorem dX5_hear_175 : decode cX5_hear 175 = .ok (.iconst 2, 1) := by decide +kernel
theorem dX5_hear_176 : decode cX5_hear 176 = .ok (.aload_n 0, 1) := by decide +kernel
theorem dX5_hear_177 : decode cX5_hear 177 = .ok (.getfield 50, 3) := by decide +kernel
theorem dX5_hear_180 : decode cX5_hear 180 = .ok (.imul, 1) := by decide +kernel
theorem dX5_hear_181 : decode cX5_hear 181 = .ok (.i2l, 1) := by decide +kernel
theorem dX5_hear_182 : decode cX5_hear 182 = .ok (.goto 11, 3) := by decide +kernel
theorem dX5_hear_185 : decode cX5_hear 185 = .ok (.bipush 100, 2) := by decide +kernel
theorem dX5_hear_187 : decode cX5_hear 187 = .ok (.aload_n 0, 1) := by decide +kernel
theorem dX5_hear_188 : decode cX5_hear 188 = .ok (.getfield 50, 3) := by decide +kernel
theorem dX5_hear_191 : decode cX5_hear 191 = .ok (.isub, 1) := by decide +kernel
theorem dX5_hear_192 : decode cX5_hear 192 = .ok (.i2l, 1) := by decide +kernel
theorem dX5_hear_193 : decode cX5_hear 193 = .ok (.lmul, 1) := by decide +kernel
theorem dX5_hear_194 : decode cX5_hear 194 = .ok (.lastore, 1) := by decide +kernel
theorem dX5_hear_195 : decode cX5_hear 195 = .ok (.iinc 7 1, 3) := by decide +kernel
theorem dX5_hear_198 : decode cX5_hear 198 = .ok (.goto (-53), 3) := by decide +kernel
theorem dX5_hear_201 : decode cX5_hear 201 = .ok (.aload_n 0, 1) := by decide +kernel
theorem dX5_hear_202 : decode cX5_hear 202 = .ok (.iload 4, 2) := by decide +kernel
theorem dX5_hear_204 : decode cX5_hear 204 = .ok (.invokevirtual 190, 3) := by decide +kernel
theorem dX5_hear_207 : decode cX5_hear 207 = .ok (.aload_n 0, 1) := by decide +kernel
theorem dX5_hear_208 : decode cX5_hear 208 = .ok (.getfield 47, 3) := by decide +kernel
theorem dX5_hear_211 : decode cX5_hear 211 = .ok (.bipush 6, 2) := by decide +kernel
theorem dX5_hear_213 : decode cX5_hear 213 = .ok (.iload_n 2, 1) := by decide +kernel
theorem dX5_hear_214 : decode cX5_hear 214 = .ok (.imul, 1) := by decide +kernel
theorem dX5_hear_215 : decode cX5_hear 215 = .ok (.iload_n 1, 1) := by decide +kernel
theorem dX5_hear_216 : decode cX5_hear 216 = .ok (.iadd, 1) := by decide +kernel
theorem dX5_hear_217 : decode cX5_hear 217 = .ok (.dup2, 1) := by decide +kernel
theorem dX5_hear_218 : decode cX5_hear 218 = .ok (.iaload, 1) := by decide +kernel
theorem dX5_hear_219 : decode cX5_hear 219 = .ok (.iconst 1, 1) := by decide +kernel
theorem dX5_hear_220 : decode cX5_hear 220 = .ok (.iadd, 1) := by decide +kernel
theorem dX5_hear_221 : decode cX5_hear 221 = .ok (.iastore, 1) := by decide +kernel
theorem dX5_hear_222 : decode cX5_hear 222 = .ok (.aload_n 0, 1) := by decide +kernel
theorem dX5_hear_223 : decode cX5_hear 223 = .ok (.getfield 47, 3) := by decide +kernel
theorem dX5_hear_226 : decode cX5_hear 226 = .ok (.bipush 6, 2) := by decide +kernel
theorem dX5_hear_228 : decode cX5_hear 228 = .ok (.iload_n 2, 1) := by decide +kernel
theorem dX5_hear_229 : decode cX5_hear 229 = .ok (.imul, 1) := by decide +kernel
theorem dX5_hear_230 : decode cX5_hear 230 = .ok (.iload_n 1, 1) := by decide +kernel
theorem dX5_hear_231 : decode cX5_hear 231 = .ok (.iadd, 1) := by decide +kernel
theorem dX5_hear_232 : decode cX5_hear 232 = .ok (.iaload, 1) := by decide +kernel
theorem dX5_hear_233 : decode cX5_hear 233 = .ok (.ireturn, 1) := by decide +kernel
theorem dX5_weight_0 : decode cX5_weight 0 = .ok (.aload_n 0, 1) := by decide +kernel
theorem dX5_weight_1 : decode cX5_weight 1 = .ok (.iload_n 1, 1) := by decide +kernel
theorem dX5_weight_2 : decode cX5_weight 2 = .ok (.invokevirtual 213, 3) := by decide +kernel
theorem dX5_weight_5 : decode cX5_weight 5 = .ok (.ifCond .eq 20, 3) := by decide +kernel
theorem dX5_weight_8 : decode cX5_weight 8 = .ok (.aload_n 0, 1) := by decide +kernel
theorem dX5_weight_9 : decode cX5_weight 9 = .ok (.iload_n 2, 1) := by decide +kernel
theorem dX5_weight_10 : decode cX5_weight 10 = .ok (.invokevirtual 228, 3) := by decide +kernel
theorem dX5_weight_13 : decode cX5_weight 13 = .ok (.ifCond .eq 12, 3) := by decide +kernel
theorem dX5_weight_16 : decode cX5_weight 16 = .ok (.iload_n 3, 1) := by decide +kernel
theorem dX5_weight_17 : decode cX5_weight 17 = .ok (.iconst 0, 1) := by decide +kernel
theorem dX5_weight_18 : decode cX5_weight 18 = .ok (.iconst 2, 1) := by decide +kernel
theorem dX5_weight_19 : decode cX5_weight 19 = .ok (.invokestatic 145, 3) := by decide +kernel
theorem dX5_weight_22 : decode cX5_weight 22 = .ok (.ifCond .ne 9, 3) := by decide +kernel
theorem dX5_weight_25 : decode cX5_weight 25 = .ok (.aload_n 0, 1) := by decide +kernel
theorem dX5_weight_26 : decode cX5_weight 26 = .ok (.iconst (-1), 1) := by decide +kernel
theorem dX5_weight_27 : decode cX5_weight 27 = .ok (.invokevirtual 244, 3) := by decide +kernel
theorem dX5_weight_30 : decode cX5_weight 30 = .ok (.lreturn, 1) := by decide +kernel
theorem dX5_weight_31 : decode cX5_weight 31 = .ok (.aload_n 0, 1) := by decide +kernel
theorem dX5_weight_32 : decode cX5_weight 32 = .ok (.iload_n 1, 1) := by decide +kernel
theorem dX5_weight_33 : decode cX5_weight 33 = .ok (.iload_n 2, 1) := by decide +kernel
theorem dX5_weight_34 : decode cX5_weight 34 = .ok (.invokevirtual 207, 3) := by decide +kernel
theorem dX5_weight_37 : decode cX5_weight 37 = .ok (.ifCond .eq 18, 3) := by decide +kernel
theorem dX5_weight_40 : decode cX5_weight 40 = .ok (.aload_n 0, 1) := by decide +kernel
theorem dX5_weight_41 : decode cX5_weight 41 = .ok (.getfield 43, 3) := by decide +kernel
theorem dX5_weight_44 : decode cX5_weight 44 = .ok (.iload_n 1, 1) := by decide +kernel
theorem dX5_weight_45 : decode cX5_weight 45 = .ok (.iload_n 2, 1) := by decide +kernel
theorem dX5_weight_46 : decode cX5_weight 46 = .ok (.invokestatic 186, 3) := by decide +kernel
theorem dX5_weight_49 : decode cX5_weight 49 = .ok (.iload_n 3, 1) := by decide +kernel
theorem dX5_weight_50 : decode cX5_weight 50 = .ok (.iadd, 1) := by decide +kernel
theorem dX5_weight_51 : decode cX5_weight 51 = .ok (.laload, 1) := by decide +kernel
theorem dX5_weight_52 : decode cX5_weight 52 = .ok (.goto 9, 3) := by decide +kernel
theorem dX5_weight_55 : decode cX5_weight 55 = .ok (.aload_n 0, 1) := by decide +kernel
theorem dX5_weight_56 : decode cX5_weight 56 = .ok (.bipush (-3), 2) := by decide +kernel
theorem dX5_weight_58 : decode cX5_weight 58 = .ok (.invokevirtual 244, 3) := by decide +kernel
theorem dX5_weight_61 : decode cX5_weight 61 = .ok (.lreturn, 1) := by decide +kernel
theorem dX5_thinkAbove_0 : decode cX5_thinkAbove 0 = .ok (.lconst 0, 1) := by decide +kernel
theorem dX5_thinkAbove_1 : decode cX5_thinkAbove 1 = .ok (.lstore_n 3, 1) := by decide +kernel
theorem dX5_thinkAbove_2 : decode cX5_thinkAbove 2 = .ok (.iconst 0, 1) := by decide +kernel
theorem dX5_thinkAbove_3 : decode cX5_thinkAbove 3 = .ok (.istore 5, 2) := by decide +kernel
theorem dX5_thinkAbove_5 : decode cX5_thinkAbove 5 = .ok (.iload 5, 2) := by decide +kernel
theorem dX5_thinkAbove_7 : decode cX5_thinkAbove 7 = .ok (.iconst 3, 1) := by decide +kernel
theorem dX5_thinkAbove_8 : decode cX5_thinkAbove 8 = .ok (.if_icmp .ge 38, 3) := by decide +kernel
theorem dX5_thinkAbove_11 : decode cX5_thinkAbove 11 = .ok (.lload_n 3, 1) := by decide +kernel
theorem dX5_thinkAbove_12 : decode cX5_thinkAbove 12 = .ok (.aload_n 0, 1) := by decide +kernel
theorem dX5_thinkAbove_13 : decode cX5_thinkAbove 13 = .ok (.getfield 43, 3) := by decide +kernel
theorem dX5_thinkAbove_16 : decode cX5_thinkAbove 16 = .ok (.iload_n 1, 1) := by decide +kernel
theorem dX5_thinkAbove_17 : decode cX5_thinkAbove 17 = .ok (.iload_n 2, 1) := by decide +kernel
theorem dX5_thinkAbove_18 : decode cX5_thinkAbove 18 = .ok (.invokestatic 186, 3) := by decide +kernel
theorem dX5_thinkAbove_21 : decode cX5_thinkAbove 21 = .ok (.iload 5, 2) := by decide +kernel
theorem dX5_thinkAbove_23 : decode cX5_thinkAbove 23 = .ok (.iadd, 1) := by decide +kernel
theorem dX5_thinkAbove_24 : decode cX5_thinkAbove 24 = .ok (.laload, 1) := by decide +kernel
theorem dX5_thinkAbove_25 : decode cX5_thinkAbove 25 = .ok (.aload_n 0, 1) := by decide +kernel
theorem dX5_thinkAbove_26 : decode cX5_thinkAbove 26 = .ok (.getfield 28, 3) := by decide +kernel
theorem dX5_thinkAbove_29 : decode cX5_thinkAbove 29 = .ok (.iconst 3, 1) := by decide +kernel
theorem dX5_thinkAbove_30 : decode cX5_thinkAbove 30 = .ok (.iload_n 2, 1) := by decide +kernel
theorem dX5_thinkAbove_31 : decode cX5_thinkAbove 31 = .ok (.imul, 1) := by decide +kernel
theorem dX5_thinkAbove_32 : decode cX5_thinkAbove 32 = .ok (.iload 5, 2) := by decide +kernel
theorem dX5_thinkAbove_34 : decode cX5_thinkAbove 34 = .ok (.iadd, 1) := by decide +kernel
theorem dX5_thinkAbove_35 : decode cX5_thinkAbove 35 = .ok (.iaload, 1) := by decide +kernel
theorem dX5_thinkAbove_36 : decode cX5_thinkAbove 36 = .ok (.i2l, 1) := by decide +kernel
theorem dX5_thinkAbove_37 : decode cX5_thinkAbove 37 = .ok (.lmul, 1) := by decide +kernel
theorem dX5_thinkAbove_38 : decode cX5_thinkAbove 38 = .ok (.ladd, 1) := by decide +kernel
theorem dX5_thinkAbove_39 : decode cX5_thinkAbove 39 = .ok (.lstore_n 3, 1) := by decide +kernel
theorem dX5_thinkAbove_40 : decode cX5_thinkAbove 40 = .ok (.iinc 5 1, 3) := by decide +kernel
theorem dX5_thinkAbove_43 : decode cX5_thinkAbove 43 = .ok (.goto (-38), 3) := by decide +kernel
theorem dX5_thinkAbove_46 : decode cX5_thinkAbove 46 = .ok (.lload_n 3, 1) := by decide +kernel
theorem dX5_thinkAbove_47 : decode cX5_thinkAbove 47 = .ok (.lreturn, 1) := by decide +kernel
theorem dX5_thinkBelow_0 : decode cX5_thinkBelow 0 = .ok (.iload_n 1, 1) := by decide +kernel
theorem dX5_thinkBelow_1 : decode cX5_thinkBelow 1 = .ok (.iload_n 2, 1) := by decide +kernel
theorem dX5_thinkBelow_2 : decode cX5_thinkBelow 2 = .ok (.invokestatic 186, 3) := by decide +kernel
theorem dX5_thinkBelow_5 : decode cX5_thinkBelow 5 = .ok (.istore_n 3, 1) := by decide +kernel
theorem dX5_thinkBelow_6 : decode cX5_thinkBelow 6 = .ok (.aload_n 0, 1) := by decide +kernel
theorem dX5_thinkBelow_7 : decode cX5_thinkBelow 7 = .ok (.getfield 43, 3) := by decide +kernel
theorem dX5_thinkBelow_10 : decode cX5_thinkBelow 10 = .ok (.iload_n 3, 1) := by decide +kernel
theorem dX5_thinkBelow_11 : decode cX5_thinkBelow 11 = .ok (.laload, 1) := by decide +kernel
theorem dX5_thinkBelow_12 : decode cX5_thinkBelow 12 = .ok (.aload_n 0, 1) := by decide +kernel
theorem dX5_thinkBelow_13 : decode cX5_thinkBelow 13 = .ok (.getfield 43, 3) := by decide +kernel
theorem dX5_thinkBelow_16 : decode cX5_thinkBelow 16 = .ok (.iload_n 3, 1) := by decide +kernel
theorem dX5_thinkBelow_17 : decode cX5_thinkBelow 17 = .ok (.iconst 1, 1) := by decide +kernel
theorem dX5_thinkBelow_18 : decode cX5_thinkBelow 18 = .ok (.iadd, 1) := by decide +kernel
theorem dX5_thinkBelow_19 : decode cX5_thinkBelow 19 = .ok (.laload, 1) := by decide +kernel
theorem dX5_thinkBelow_20 : decode cX5_thinkBelow 20 = .ok (.ladd, 1) := by decide +kernel
theorem dX5_thinkBelow_21 : decode cX5_thinkBelow 21 = .ok (.aload_n 0, 1) := by decide +kernel
theorem dX5_thinkBelow_22 : decode cX5_thinkBelow 22 = .ok (.getfield 43, 3) := by decide +kernel
theorem dX5_thinkBelow_25 : decode cX5_thinkBelow 25 = .ok (.iload_n 3, 1) := by decide +kernel
theorem dX5_thinkBelow_26 : decode cX5_thinkBelow 26 = .ok (.iconst 2, 1) := by decide +kernel
theorem dX5_thinkBelow_27 : decode cX5_thinkBelow 27 = .ok (.iadd, 1) := by decide +kernel
theorem dX5_thinkBelow_28 : decode cX5_thinkBelow 28 = .ok (.laload, 1) := by decide +kernel
theorem dX5_thinkBelow_29 : decode cX5_thinkBelow 29 = .ok (.ladd, 1) := by decide +kernel
theorem dX5_thinkBelow_30 : decode cX5_thinkBelow 30 = .ok (.lreturn, 1) := by decide +kernel
theorem dX5_lowest_0 : decode cX5_lowest 0 = .ok (.lload_n 0, 1) := by decide +kernel
theorem dX5_lowest_1 : decode cX5_lowest 1 = .ok (.lconst 0, 1) := by decide +kernel
theorem dX5_lowest_2 : decode cX5_lowest 2 = .ok (.lcmp, 1) := by decide +kernel
theorem dX5_lowest_3 : decode cX5_lowest 3 = .ok (.ifCond .ne 7, 3) := by decide +kernel
theorem dX5_lowest_6 : decode cX5_lowest 6 = .ok (.iload 4, 2) := by decide +kernel
theorem dX5_lowest_8 : decode cX5_lowest 8 = .ok (.i2l, 1) := by decide +kernel
theorem dX5_lowest_9 : decode cX5_lowest 9 = .ok (.lreturn, 1) := by decide +kernel
theorem dX5_lowest_10 : decode cX5_lowest 10 = .ok (.iload 4, 2) := by decide +kernel
theorem dX5_lowest_12 : decode cX5_lowest 12 = .ok (.ifCond .ne 7, 3) := by decide +kernel
theorem dX5_lowest_15 : decode cX5_lowest 15 = .ok (.lload_n 0, 1) := by decide +kernel
theorem dX5_lowest_16 : decode cX5_lowest 16 = .ok (.goto 4, 3) := by decide +kernel
theorem dX5_lowest_19 : decode cX5_lowest 19 = .ok (.lload_n 2, 1) := by decide +kernel
theorem dX5_lowest_20 : decode cX5_lowest 20 = .ok (.lload_n 0, 1) := by decide +kernel
theorem dX5_lowest_21 : decode cX5_lowest 21 = .ok (.lload_n 2, 1) := by decide +kernel
theorem dX5_lowest_22 : decode cX5_lowest 22 = .ok (.invokestatic 182, 3) := by decide +kernel
theorem dX5_lowest_25 : decode cX5_lowest 25 = .ok (.ldiv, 1) := by decide +kernel
theorem dX5_lowest_26 : decode cX5_lowest 26 = .ok (.lreturn, 1) := by decide +kernel
theorem dX5_think_0 : decode cX5_think 0 = .ok (.aload_n 0, 1) := by decide +kernel
theorem dX5_think_1 : decode cX5_think 1 = .ok (.iload_n 1, 1) := by decide +kernel
theorem dX5_think_2 : decode cX5_think 2 = .ok (.invokevirtual 213, 3) := by decide +kernel
theorem dX5_think_5 : decode cX5_think 5 = .ok (.ifCond .eq 11, 3) := by decide +kernel
theorem dX5_think_8 : decode cX5_think 8 = .ok (.aload_n 0, 1) := by decide +kernel
theorem dX5_think_9 : decode cX5_think 9 = .ok (.iload_n 2, 1) := by decide +kernel
theorem dX5_think_10 : decode cX5_think 10 = .ok (.invokevirtual 228, 3) := by decide +kernel
theorem dX5_think_13 : decode cX5_think 13 = .ok (.ifCond .ne 9, 3) := by decide +kernel
theorem dX5_think_16 : decode cX5_think 16 = .ok (.aload_n 0, 1) := by decide +kernel
theorem dX5_think_17 : decode cX5_think 17 = .ok (.iconst (-1), 1) := by decide +kernel
theorem dX5_think_18 : decode cX5_think 18 = .ok (.invokevirtual 244, 3) := by decide +kernel
theorem dX5_think_21 : decode cX5_think 21 = .ok (.lreturn, 1) := by decide +kernel
theorem dX5_think_22 : decode cX5_think 22 = .ok (.iload_n 3, 1) := by decide +kernel
theorem dX5_think_23 : decode cX5_think 23 = .ok (.iconst 0, 1) := by decide +kernel
theorem dX5_think_24 : decode cX5_think 24 = .ok (.iconst 1, 1) := by decide +kernel
theorem dX5_think_25 : decode cX5_think 25 = .ok (.invokestatic 145, 3) := by decide +kernel
theorem dX5_think_28 : decode cX5_think 28 = .ok (.ifCond .ne 10, 3) := by decide +kernel
theorem dX5_think_31 : decode cX5_think 31 = .ok (.aload_n 0, 1) := by decide +kernel
theorem dX5_think_32 : decode cX5_think 32 = .ok (.bipush (-2), 2) := by decide +kernel
theorem dX5_think_34 : decode cX5_think 34 = .ok (.invokevirtual 244, 3) := by decide +kernel
theorem dX5_think_37 : decode cX5_think 37 = .ok (.lreturn, 1) := by decide +kernel
theorem dX5_think_38 : decode cX5_think 38 = .ok (.aload_n 0, 1) := by decide +kernel
theorem dX5_think_39 : decode cX5_think 39 = .ok (.iload_n 1, 1) := by decide +kernel
theorem dX5_think_40 : decode cX5_think 40 = .ok (.iload_n 2, 1) := by decide +kernel
theorem dX5_think_41 : decode cX5_think 41 = .ok (.invokevirtual 207, 3) := by decide +kernel
theorem dX5_think_44 : decode cX5_think 44 = .ok (.ifCond .eq 22, 3) := by decide +kernel
theorem dX5_think_47 : decode cX5_think 47 = .ok (.aload_n 0, 1) := by decide +kernel
theorem dX5_think_48 : decode cX5_think 48 = .ok (.iload_n 1, 1) := by decide +kernel
theorem dX5_think_49 : decode cX5_think 49 = .ok (.iload_n 2, 1) := by decide +kernel
theorem dX5_think_50 : decode cX5_think 50 = .ok (.invokevirtual 248, 3) := by decide +kernel
theorem dX5_think_53 : decode cX5_think 53 = .ok (.aload_n 0, 1) := by decide +kernel
theorem dX5_think_54 : decode cX5_think 54 = .ok (.iload_n 1, 1) := by decide +kernel
theorem dX5_think_55 : decode cX5_think 55 = .ok (.iload_n 2, 1) := by decide +kernel
theorem dX5_think_56 : decode cX5_think 56 = .ok (.invokevirtual 252, 3) := by decide +kernel
theorem dX5_think_59 : decode cX5_think 59 = .ok (.iload_n 3, 1) := by decide +kernel
theorem dX5_think_60 : decode cX5_think 60 = .ok (.invokestatic 255, 3) := by decide +kernel
theorem dX5_think_63 : decode cX5_think 63 = .ok (.goto 9, 3) := by decide +kernel
theorem dX5_think_66 : decode cX5_think 66 = .ok (.aload_n 0, 1) := by decide +kernel
theorem dX5_think_67 : decode cX5_think 67 = .ok (.bipush (-3), 2) := by decide +kernel
theorem dX5_think_69 : decode cX5_think 69 = .ok (.invokevirtual 244, 3) := by decide +kernel
theorem dX5_think_72 : decode cX5_think 72 = .ok (.lreturn, 1) := by decide +kernel
theorem dX5_gives_0 : decode cX5_gives 0 = .ok (.iconst 1, 1) := by decide +kernel
theorem dX5_gives_1 : decode cX5_gives 1 = .ok (.istore_n 3, 1) := by decide +kernel
theorem dX5_gives_2 : decode cX5_gives 2 = .ok (.iload_n 3, 1) := by decide +kernel
theorem dX5_gives_3 : decode cX5_gives 3 = .ok (.aload_n 0, 1) := by decide +kernel
theorem dX5_gives_4 : decode cX5_gives 4 = .ok (.getfield 142, 3) := by decide +kernel
theorem dX5_gives_7 : decode cX5_gives 7 = .ok (.if_icmp .ge 47, 3) := by decide +kernel
theorem dX5_gives_10 : decode cX5_gives 10 = .ok (.iload_n 1, 1) := by decide +kernel
theorem dX5_gives_11 : decode cX5_gives 11 = .ok (.iload_n 3, 1) := by decide +kernel
theorem dX5_gives_12 : decode cX5_gives 12 = .ok (.iadd, 1) := by decide +kernel
theorem dX5_gives_13 : decode cX5_gives 13 = .ok (.aload_n 0, 1) := by decide +kernel
theorem dX5_gives_14 : decode cX5_gives 14 = .ok (.getfield 142, 3) := by decide +kernel
theorem dX5_gives_17 : decode cX5_gives 17 = .ok (.irem, 1) := by decide +kernel
theorem dX5_gives_18 : decode cX5_gives 18 = .ok (.istore 4, 2) := by decide +kernel
theorem dX5_gives_20 : decode cX5_gives 20 = .ok (.aload_n 0, 1) := by decide +kernel
theorem dX5_gives_21 : decode cX5_gives 21 = .ok (.iload 4, 2) := by decide +kernel
theorem dX5_gives_23 : decode cX5_gives 23 = .ok (.iload_n 2, 1) := by decide +kernel
theorem dX5_gives_24 : decode cX5_gives 24 = .ok (.invokevirtual 207, 3) := by decide +kernel
theorem dX5_gives_27 : decode cX5_gives 27 = .ok (.ifCond .eq 21, 3) := by decide +kernel
theorem dX5_gives_30 : decode cX5_gives 30 = .ok (.aload_n 0, 1) := by decide +kernel
theorem dX5_gives_31 : decode cX5_gives 31 = .ok (.iload 4, 2) := by decide +kernel
theorem dX5_gives_33 : decode cX5_gives 33 = .ok (.iload_n 2, 1) := by decide +kernel
theorem dX5_gives_34 : decode cX5_gives 34 = .ok (.invokevirtual 210, 3) := by decide +kernel
theorem dX5_gives_37 : decode cX5_gives 37 = .ok (.ifCond .ne 11, 3) := by decide +kernel
theorem dX5_gives_40 : decode cX5_gives 40 = .ok (.aload_n 0, 1) := by decide +kernel
theorem dX5_gives_41 : decode cX5_gives 41 = .ok (.iload 4, 2) := by decide +kernel
theorem dX5_gives_43 : decode cX5_gives 43 = .ok (.iload_n 2, 1) := by decide +kernel
theorem dX5_gives_44 : decode cX5_gives 44 = .ok (.invokevirtual 240, 3) := by decide +kernel
theorem dX5_gives_47 : decode cX5_gives 47 = .ok (.return_, 1) := by decide +kernel
theorem dX5_gives_48 : decode cX5_gives 48 = .ok (.iinc 3 1, 3) := by decide +kernel
theorem dX5_gives_51 : decode cX5_gives 51 = .ok (.goto (-49), 3) := by decide +kernel
theorem dX5_gives_54 : decode cX5_gives 54 = .ok (.return_, 1) := by decide +kernel
theorem dX5_dares_0 : decode cX5_dares 0 = .ok (.aload_n 0, 1) := by decide +kernel
theorem dX5_dares_1 : decode cX5_dares 1 = .ok (.iload_n 1, 1) := by decide +kernel
theorem dX5_dares_2 : decode cX5_dares 2 = .ok (.iload_n 2, 1) := by decide +kernel
theorem dX5_dares_3 : decode cX5_dares 3 = .ok (.invokevirtual 248, 3) := by decide +kernel
theorem dX5_dares_6 : decode cX5_dares 6 = .ok (.aload_n 0, 1) := by decide +kernel
theorem dX5_dares_7 : decode cX5_dares 7 = .ok (.getfield 13, 3) := by decide +kernel
theorem dX5_dares_10 : decode cX5_dares 10 = .ok (.iload_n 1, 1) := by decide +kernel
theorem dX5_dares_11 : decode cX5_dares 11 = .ok (.iaload, 1) := by decide +kernel
theorem dX5_dares_12 : decode cX5_dares 12 = .ok (.i2l, 1) := by decide +kernel
theorem dX5_dares_13 : decode cX5_dares 13 = .ok (.ldc2_w 259, 3) := by decide +kernel
theorem dX5_dares_16 : decode cX5_dares 16 = .ok (.lsub, 1) := by decide +kernel
theorem dX5_dares_17 : decode cX5_dares 17 = .ok (.aload_n 0, 1) := by decide +kernel
theorem dX5_dares_18 : decode cX5_dares 18 = .ok (.iload_n 1, 1) := by decide +kernel
theorem dX5_dares_19 : decode cX5_dares 19 = .ok (.iload_n 2, 1) := by decide +kernel
theorem dX5_dares_20 : decode cX5_dares 20 = .ok (.invokevirtual 252, 3) := by decide +kernel
theorem dX5_dares_23 : decode cX5_dares 23 = .ok (.lmul, 1) := by decide +kernel
theorem dX5_dares_24 : decode cX5_dares 24 = .ok (.lcmp, 1) := by decide +kernel
theorem dX5_dares_25 : decode cX5_dares 25 = .ok (.ifCond .ge 7, 3) := by decide +kernel
theorem dX5_dares_28 : decode cX5_dares 28 = .ok (.iconst 1, 1) := by decide +kernel
theorem dX5_dares_29 : decode cX5_dares 29 = .ok (.goto 4, 3) := by decide +kernel
theorem dX5_dares_32 : decode cX5_dares 32 = .ok (.iconst 0, 1) := by decide +kernel
theorem dX5_dares_33 : decode cX5_dares 33 = .ok (.ireturn, 1) := by decide +kernel
theorem dX5_wouldRead_0 : decode cX5_wouldRead 0 = .ok (.aload_n 0, 1) := by decide +kernel
theorem dX5_wouldRead_1 : decode cX5_wouldRead 1 = .ok (.getfield 7, 3) := by decide +kernel
theorem dX5_wouldRead_4 : decode cX5_wouldRead 4 = .ok (.iload_n 1, 1) := by decide +kernel
theorem dX5_wouldRead_5 : decode cX5_wouldRead 5 = .ok (.iaload, 1) := by decide +kernel
theorem dX5_wouldRead_6 : decode cX5_wouldRead 6 = .ok (.tableswitch 82 1 4 #[30, 32, 39, 58], 30) := by decide +kernel
theorem dX5_wouldRead_36 : decode cX5_wouldRead 36 = .ok (.iconst 1, 1) := by decide +kernel
theorem dX5_wouldRead_37 : decode cX5_wouldRead 37 = .ok (.ireturn, 1) := by decide +kernel
theorem dX5_wouldRead_38 : decode cX5_wouldRead 38 = .ok (.aload_n 0, 1) := by decide +kernel
theorem dX5_wouldRead_39 : decode cX5_wouldRead 39 = .ok (.iload_n 1, 1) := by decide +kernel
theorem dX5_wouldRead_40 : decode cX5_wouldRead 40 = .ok (.iload_n 2, 1) := by decide +kernel
theorem dX5_wouldRead_41 : decode cX5_wouldRead 41 = .ok (.invokevirtual 261, 3) := by decide +kernel
theorem dX5_wouldRead_44 : decode cX5_wouldRead 44 = .ok (.ireturn, 1) := by decide +kernel
theorem dX5_wouldRead_45 : decode cX5_wouldRead 45 = .ok (.aload_n 0, 1) := by decide +kernel
theorem dX5_wouldRead_46 : decode cX5_wouldRead 46 = .ok (.getfield 264, 3) := by decide +kernel
theorem dX5_wouldRead_49 : decode cX5_wouldRead 49 = .ok (.aload_n 0, 1) := by decide +kernel
theorem dX5_wouldRead_50 : decode cX5_wouldRead 50 = .ok (.getfield 16, 3) := by decide +kernel
theorem dX5_wouldRead_53 : decode cX5_wouldRead 53 = .ok (.iload_n 1, 1) := by decide +kernel
theorem dX5_wouldRead_54 : decode cX5_wouldRead 54 = .ok (.iaload, 1) := by decide +kernel
theorem dX5_wouldRead_55 : decode cX5_wouldRead 55 = .ok (.if_icmp .lt 7, 3) := by decide +kernel
theorem dX5_wouldRead_58 : decode cX5_wouldRead 58 = .ok (.iconst 1, 1) := by decide +kernel
theorem dX5_wouldRead_59 : decode cX5_wouldRead 59 = .ok (.goto 4, 3) := by decide +kernel
theorem dX5_wouldRead_62 : decode cX5_wouldRead 62 = .ok (.iconst 0, 1) := by decide +kernel
theorem dX5_wouldRead_63 : decode cX5_wouldRead 63 = .ok (.ireturn, 1) := by decide +kernel
theorem dX5_wouldRead_64 : decode cX5_wouldRead 64 = .ok (.aload_n 0, 1) := by decide +kernel
theorem dX5_wouldRead_65 : decode cX5_wouldRead 65 = .ok (.iload_n 1, 1) := by decide +kernel
theorem dX5_wouldRead_66 : decode cX5_wouldRead 66 = .ok (.iload_n 2, 1) := by decide +kernel
theorem dX5_wouldRead_67 : decode cX5_wouldRead 67 = .ok (.invokevirtual 261, 3) := by decide +kernel
theorem dX5_wouldRead_70 : decode cX5_wouldRead 70 = .ok (.ifCond .eq 16, 3) := by decide +kernel
theorem dX5_wouldRead_73 : decode cX5_wouldRead 73 = .ok (.aload_n 0, 1) := by decide +kernel
theorem dX5_wouldRead_74 : decode cX5_wouldRead 74 = .ok (.getfield 34, 3) := by decide +kernel
theorem dX5_wouldRead_77 : decode cX5_wouldRead 77 = .ok (.iload_n 2, 1) := by decide +kernel
theorem dX5_wouldRead_78 : decode cX5_wouldRead 78 = .ok (.iaload, 1) := by decide +kernel
theorem dX5_wouldRead_79 : decode cX5_wouldRead 79 = .ok (.ifCond .eq 7, 3) := by decide +kernel
theorem dX5_wouldRead_82 : decode cX5_wouldRead 82 = .ok (.iconst 1, 1) := by decide +kernel
theorem dX5_wouldRead_83 : decode cX5_wouldRead 83 = .ok (.goto 4, 3) := by decide +kernel
theorem dX5_wouldRead_86 : decode cX5_wouldRead 86 = .ok (.iconst 0, 1) := by decide +kernel
theorem dX5_wouldRead_87 : decode cX5_wouldRead 87 = .ok (.ireturn, 1) := by decide +kernel
theorem dX5_wouldRead_88 : decode cX5_wouldRead 88 = .ok (.iconst 0, 1) := by decide +kernel
theorem dX5_wouldRead_89 : decode cX5_wouldRead 89 = .ok (.ireturn, 1) := by decide +kernel
theorem dX5_does_0 : decode cX5_does 0 = .ok (.aload_n 0, 1) := by decide +kernel
theorem dX5_does_1 : decode cX5_does 1 = .ok (.iload_n 1, 1) := by decide +kernel
theorem dX5_does_2 : decode cX5_does 2 = .ok (.iload_n 2, 1) := by decide +kernel
theorem dX5_does_3 : decode cX5_does 3 = .ok (.invokevirtual 267, 3) := by decide +kernel
theorem dX5_does_6 : decode cX5_does 6 = .ok (.ifCond .eq 12, 3) := by decide +kernel
theorem dX5_does_9 : decode cX5_does 9 = .ok (.aload_n 0, 1) := by decide +kernel
theorem dX5_does_10 : decode cX5_does 10 = .ok (.iload_n 1, 1) := by decide +kernel
theorem dX5_does_11 : decode cX5_does 11 = .ok (.iload_n 2, 1) := by decide +kernel
theorem dX5_does_12 : decode cX5_does 12 = .ok (.invokevirtual 240, 3) := by decide +kernel
theorem dX5_does_15 : decode cX5_does 15 = .ok (.goto 45, 3) := by decide +kernel
theorem dX5_does_18 : decode cX5_does 18 = .ok (.aload_n 0, 1) := by decide +kernel
theorem dX5_does_19 : decode cX5_does 19 = .ok (.getfield 7, 3) := by decide +kernel
theorem dX5_does_22 : decode cX5_does 22 = .ok (.iload_n 1, 1) := by decide +kernel
theorem dX5_does_23 : decode cX5_does 23 = .ok (.iaload, 1) := by decide +kernel
theorem dX5_does_24 : decode cX5_does 24 = .ok (.iconst 5, 1) := by decide +kernel
theorem dX5_does_25 : decode cX5_does 25 = .ok (.if_icmp .ne 12, 3) := by decide +kernel
theorem dX5_does_28 : decode cX5_does 28 = .ok (.aload_n 0, 1) := by decide +kernel
theorem dX5_does_29 : decode cX5_does 29 = .ok (.iload_n 1, 1) := by decide +kernel
theorem dX5_does_30 : decode cX5_does 30 = .ok (.iload_n 2, 1) := by decide +kernel
theorem dX5_does_31 : decode cX5_does 31 = .ok (.invokevirtual 270, 3) := by decide +kernel
theorem dX5_does_34 : decode cX5_does 34 = .ok (.goto 26, 3) := by decide +kernel
theorem dX5_does_37 : decode cX5_does 37 = .ok (.aload_n 0, 1) := by decide +kernel
theorem dX5_does_38 : decode cX5_does 38 = .ok (.getfield 7, 3) := by decide +kernel
theorem dX5_does_41 : decode cX5_does 41 = .ok (.iload_n 1, 1) := by decide +kernel
theorem dX5_does_42 : decode cX5_does 42 = .ok (.iaload, 1) := by decide +kernel
theorem dX5_does_43 : decode cX5_does 43 = .ok (.bipush 6, 2) := by decide +kernel
theorem dX5_does_45 : decode cX5_does 45 = .ok (.if_icmp .ne 15, 3) := by decide +kernel
theorem dX5_does_48 : decode cX5_does 48 = .ok (.aload_n 0, 1) := by decide +kernel
theorem dX5_does_49 : decode cX5_does 49 = .ok (.getfield 37, 3) := by decide +kernel
theorem dX5_does_52 : decode cX5_does 52 = .ok (.iload_n 2, 1) := by decide +kernel
theorem dX5_does_53 : decode cX5_does 53 = .ok (.dup2, 1) := by decide +kernel
theorem dX5_does_54 : decode cX5_does 54 = .ok (.iaload, 1) := by decide +kernel
theorem dX5_does_55 : decode cX5_does 55 = .ok (.iconst 1, 1) := by decide +kernel
theorem dX5_does_56 : decode cX5_does 56 = .ok (.iload_n 1, 1) := by decide +kernel
theorem dX5_does_57 : decode cX5_does 57 = .ok (.ishl, 1) := by decide +kernel
theorem dX5_does_58 : decode cX5_does 58 = .ok (.ior, 1) := by decide +kernel
theorem dX5_does_59 : decode cX5_does 59 = .ok (.iastore, 1) := by decide +kernel
theorem dX5_does_60 : decode cX5_does 60 = .ok (.return_, 1) := by decide +kernel
theorem dX5_passes_0 : decode cX5_passes 0 = .ok (.iconst 0, 1) := by decide +kernel
theorem dX5_passes_1 : decode cX5_passes 1 = .ok (.istore_n 1, 1) := by decide +kernel
theorem dX5_passes_2 : decode cX5_passes 2 = .ok (.iload_n 1, 1) := by decide +kernel
theorem dX5_passes_3 : decode cX5_passes 3 = .ok (.aload_n 0, 1) := by decide +kernel
theorem dX5_passes_4 : decode cX5_passes 4 = .ok (.getfield 142, 3) := by decide +kernel
theorem dX5_passes_7 : decode cX5_passes 7 = .ok (.if_icmp .ge 56, 3) := by decide +kernel
theorem dX5_passes_10 : decode cX5_passes 10 = .ok (.iconst 0, 1) := by decide +kernel
theorem dX5_passes_11 : decode cX5_passes 11 = .ok (.istore_n 2, 1) := by decide +kernel
theorem dX5_passes_12 : decode cX5_passes 12 = .ok (.iload_n 2, 1) := by decide +kernel
theorem dX5_passes_13 : decode cX5_passes 13 = .ok (.aload_n 0, 1) := by decide +kernel
theorem dX5_passes_14 : decode cX5_passes 14 = .ok (.getfield 149, 3) := by decide +kernel
theorem dX5_passes_17 : decode cX5_passes 17 = .ok (.if_icmp .ge 40, 3) := by decide +kernel
theorem dX5_passes_20 : decode cX5_passes 20 = .ok (.aload_n 0, 1) := by decide +kernel
theorem dX5_passes_21 : decode cX5_passes 21 = .ok (.iload_n 1, 1) := by decide +kernel
theorem dX5_passes_22 : decode cX5_passes 22 = .ok (.iload_n 2, 1) := by decide +kernel
theorem dX5_passes_23 : decode cX5_passes 23 = .ok (.invokevirtual 237, 3) := by decide +kernel
theorem dX5_passes_26 : decode cX5_passes 26 = .ok (.ifCond .eq 25, 3) := by decide +kernel
theorem dX5_passes_29 : decode cX5_passes 29 = .ok (.iload_n 1, 1) := by decide +kernel
theorem dX5_passes_30 : decode cX5_passes 30 = .ok (.aload_n 0, 1) := by decide +kernel
theorem dX5_passes_31 : decode cX5_passes 31 = .ok (.getfield 75, 3) := by decide +kernel
theorem dX5_passes_34 : decode cX5_passes 34 = .ok (.if_icmp .ne 11, 3) := by decide +kernel
theorem dX5_passes_37 : decode cX5_passes 37 = .ok (.iload_n 2, 1) := by decide +kernel
theorem dX5_passes_38 : decode cX5_passes 38 = .ok (.aload_n 0, 1) := by decide +kernel
theorem dX5_passes_39 : decode cX5_passes 39 = .ok (.getfield 273, 3) := by decide +kernel
theorem dX5_passes_42 : decode cX5_passes 42 = .ok (.if_icmp .eq 9, 3) := by decide +kernel
theorem dX5_passes_45 : decode cX5_passes 45 = .ok (.aload_n 0, 1) := by decide +kernel
theorem dX5_passes_46 : decode cX5_passes 46 = .ok (.iload_n 1, 1) := by decide +kernel
theorem dX5_passes_47 : decode cX5_passes 47 = .ok (.iload_n 2, 1) := by decide +kernel
theorem dX5_passes_48 : decode cX5_passes 48 = .ok (.invokevirtual 276, 3) := by decide +kernel
theorem dX5_passes_51 : decode cX5_passes 51 = .ok (.iinc 2 1, 3) := by decide +kernel
theorem dX5_passes_54 : decode cX5_passes 54 = .ok (.goto (-42), 3) := by decide +kernel
theorem dX5_passes_57 : decode cX5_passes 57 = .ok (.iinc 1 1, 3) := by decide +kernel
theorem dX5_passes_60 : decode cX5_passes 60 = .ok (.goto (-58), 3) := by decide +kernel
theorem dX5_passes_63 : decode cX5_passes 63 = .ok (.iconst 0, 1) := by decide +kernel
theorem dX5_passes_64 : decode cX5_passes 64 = .ok (.istore_n 1, 1) := by decide +kernel
theorem dX5_passes_65 : decode cX5_passes 65 = .ok (.iload_n 1, 1) := by decide +kernel
theorem dX5_passes_66 : decode cX5_passes 66 = .ok (.aload_n 0, 1) := by decide +kernel
theorem dX5_passes_67 : decode cX5_passes 67 = .ok (.getfield 149, 3) := by decide +kernel
theorem dX5_passes_70 : decode cX5_passes 70 = .ok (.if_icmp .ge 80, 3) := by decide +kernel
theorem dX5_passes_73 : decode cX5_passes 73 = .ok (.aload_n 0, 1) := by decide +kernel
theorem dX5_passes_74 : decode cX5_passes 74 = .ok (.iload_n 1, 1) := by decide +kernel
theorem dX5_passes_75 : decode cX5_passes 75 = .ok (.invokevirtual 231, 3) := by decide +kernel
theorem dX5_passes_78 : decode cX5_passes 78 = .ok (.ifCond .eq 66, 3) := by decide +kernel
theorem dX5_passes_81 : decode cX5_passes 81 = .ok (.aload_n 0, 1) := by decide +kernel
theorem dX5_passes_82 : decode cX5_passes 82 = .ok (.getfield 40, 3) := by decide +kernel
theorem dX5_passes_85 : decode cX5_passes 85 = .ok (.iload_n 1, 1) := by decide +kernel
theorem dX5_passes_86 : decode cX5_passes 86 = .ok (.dup2, 1) := by decide +kernel
theorem dX5_passes_87 : decode cX5_passes 87 = .ok (.iaload, 1) := by decide +kernel
theorem dX5_passes_88 : decode cX5_passes 88 = .ok (.iconst 1, 1) := by decide +kernel
theorem dX5_passes_89 : decode cX5_passes 89 = .ok (.iadd, 1) := by decide +kernel
theorem dX5_passes_90 : decode cX5_passes 90 = .ok (.iastore, 1) := by decide +kernel
theorem dX5_passes_91 : decode cX5_passes 91 = .ok (.iconst 0, 1) := by decide +kernel
theorem dX5_passes_92 : decode cX5_passes 92 = .ok (.istore_n 2, 1) := by decide +kernel
theorem dX5_passes_93 : decode cX5_passes 93 = .ok (.iload_n 2, 1) := by decide +kernel
theorem dX5_passes_94 : decode cX5_passes 94 = .ok (.aload_n 0, 1) := by decide +kernel
theorem dX5_passes_95 : decode cX5_passes 95 = .ok (.getfield 142, 3) := by decide +kernel
theorem dX5_passes_98 : decode cX5_passes 98 = .ok (.if_icmp .ge 46, 3) := by decide +kernel
theorem dX5_passes_101 : decode cX5_passes 101 = .ok (.aload_n 0, 1) := by decide +kernel
theorem dX5_passes_102 : decode cX5_passes 102 = .ok (.getfield 19, 3) := by decide +kernel
theorem dX5_passes_105 : decode cX5_passes 105 = .ok (.iload_n 2, 1) := by decide +kernel
theorem dX5_passes_106 : decode cX5_passes 106 = .ok (.dup2, 1) := by decide +kernel
theorem dX5_passes_107 : decode cX5_passes 107 = .ok (.iaload, 1) := by decide +kernel
theorem dX5_passes_108 : decode cX5_passes 108 = .ok (.aload_n 0, 1) := by decide +kernel
theorem dX5_passes_109 : decode cX5_passes 109 = .ok (.iload_n 2, 1) := by decide +kernel
theorem dX5_passes_110 : decode cX5_passes 110 = .ok (.iload_n 1, 1) := by decide +kernel
theorem dX5_passes_111 : decode cX5_passes 111 = .ok (.invokevirtual 207, 3) := by decide +kernel
theorem dX5_passes_114 : decode cX5_passes 114 = .ok (.ifCond .eq 21, 3) := by decide +kernel
theorem dX5_passes_117 : decode cX5_passes 117 = .ok (.aload_n 0, 1) := by decide +kernel
theorem dX5_passes_118 : decode cX5_passes 118 = .ok (.getfield 28, 3) := by decide +kernel
theorem dX5_passes_121 : decode cX5_passes 121 = .ok (.iconst 3, 1) := by decide +kernel
theorem dX5_passes_122 : decode cX5_passes 122 = .ok (.iload_n 1, 1) := by decide +kernel
theorem dX5_passes_123 : decode cX5_passes 123 = .ok (.imul, 1) := by decide +kernel
theorem dX5_passes_124 : decode cX5_passes 124 = .ok (.aload_n 0, 1) := by decide +kernel
theorem dX5_passes_125 : decode cX5_passes 125 = .ok (.getfield 31, 3) := by decide +kernel
theorem dX5_passes_128 : decode cX5_passes 128 = .ok (.iload_n 1, 1) := by decide +kernel
theorem dX5_passes_129 : decode cX5_passes 129 = .ok (.iaload, 1) := by decide +kernel
theorem dX5_passes_130 : decode cX5_passes 130 = .ok (.iadd, 1) := by decide +kernel
theorem dX5_passes_131 : decode cX5_passes 131 = .ok (.iaload, 1) := by decide +kernel
theorem dX5_passes_132 : decode cX5_passes 132 = .ok (.goto 4, 3) := by decide +kernel
theorem dX5_passes_135 : decode cX5_passes 135 = .ok (.iconst 0, 1) := by decide +kernel
theorem dX5_passes_136 : decode cX5_passes 136 = .ok (.iadd, 1) := by decide +kernel
theorem dX5_passes_137 : decode cX5_passes 137 = .ok (.iastore, 1) := by decide +kernel
theorem dX5_passes_138 : decode cX5_passes 138 = .ok (.iinc 2 1, 3) := by decide +kernel
theorem dX5_passes_141 : decode cX5_passes 141 = .ok (.goto (-48), 3) := by decide +kernel
theorem dX5_passes_144 : decode cX5_passes 144 = .ok (.iinc 1 1, 3) := by decide +kernel
theorem dX5_passes_147 : decode cX5_passes 147 = .ok (.goto (-82), 3) := by decide +kernel
theorem dX5_passes_150 : decode cX5_passes 150 = .ok (.aload_n 0, 1) := by decide +kernel
theorem dX5_passes_151 : decode cX5_passes 151 = .ok (.dup, 1) := by decide +kernel
theorem dX5_passes_152 : decode cX5_passes 152 = .ok (.getfield 264, 3) := by decide +kernel
theorem dX5_passes_155 : decode cX5_passes 155 = .ok (.iconst 1, 1) := by decide +kernel
theorem dX5_passes_156 : decode cX5_passes 156 = .ok (.iadd, 1) := by decide +kernel
theorem dX5_passes_157 : decode cX5_passes 157 = .ok (.putfield 264, 3) := by decide +kernel
theorem dX5_passes_160 : decode cX5_passes 160 = .ok (.return_, 1) := by decide +kernel
theorem dX5_weeks_0 : decode cX5_weeks 0 = .ok (.iload_n 1, 1) := by decide +kernel
theorem dX5_weeks_1 : decode cX5_weeks 1 = .ok (.iconst 1, 1) := by decide +kernel
theorem dX5_weeks_2 : decode cX5_weeks 2 = .ok (.if_icmp .ge 10, 3) := by decide +kernel
theorem dX5_weeks_5 : decode cX5_weeks 5 = .ok (.aload_n 0, 1) := by decide +kernel
theorem dX5_weeks_6 : decode cX5_weeks 6 = .ok (.bipush (-4), 2) := by decide +kernel
theorem dX5_weeks_8 : decode cX5_weeks 8 = .ok (.invokevirtual 137, 3) := by decide +kernel
theorem dX5_weeks_11 : decode cX5_weeks 11 = .ok (.ireturn, 1) := by decide +kernel
theorem dX5_weeks_12 : decode cX5_weeks 12 = .ok (.iload_n 1, 1) := by decide +kernel
theorem dX5_weeks_13 : decode cX5_weeks 13 = .ok (.bipush 99, 2) := by decide +kernel
theorem dX5_weeks_15 : decode cX5_weeks 15 = .ok (.if_icmp .le 10, 3) := by decide +kernel
theorem dX5_weeks_18 : decode cX5_weeks 18 = .ok (.aload_n 0, 1) := by decide +kernel
theorem dX5_weeks_19 : decode cX5_weeks 19 = .ok (.bipush (-6), 2) := by decide +kernel
theorem dX5_weeks_21 : decode cX5_weeks 21 = .ok (.invokevirtual 137, 3) := by decide +kernel
theorem dX5_weeks_24 : decode cX5_weeks 24 = .ok (.ireturn, 1) := by decide +kernel
theorem dX5_weeks_25 : decode cX5_weeks 25 = .ok (.iconst 0, 1) := by decide +kernel
theorem dX5_weeks_26 : decode cX5_weeks 26 = .ok (.istore_n 2, 1) := by decide +kernel
theorem dX5_weeks_27 : decode cX5_weeks 27 = .ok (.iload_n 2, 1) := by decide +kernel
theorem dX5_weeks_28 : decode cX5_weeks 28 = .ok (.iload_n 1, 1) := by decide +kernel
theorem dX5_weeks_29 : decode cX5_weeks 29 = .ok (.if_icmp .ge 13, 3) := by decide +kernel
theorem dX5_weeks_32 : decode cX5_weeks 32 = .ok (.aload_n 0, 1) := by decide +kernel
theorem dX5_weeks_33 : decode cX5_weeks 33 = .ok (.invokevirtual 279, 3) := by decide +kernel
theorem dX5_weeks_36 : decode cX5_weeks 36 = .ok (.iinc 2 1, 3) := by decide +kernel
theorem dX5_weeks_39 : decode cX5_weeks 39 = .ok (.goto (-12), 3) := by decide +kernel
theorem dX5_weeks_42 : decode cX5_weeks 42 = .ok (.aload_n 0, 1) := by decide +kernel
theorem dX5_weeks_43 : decode cX5_weeks 43 = .ok (.getfield 264, 3) := by decide +kernel
theorem dX5_weeks_46 : decode cX5_weeks 46 = .ok (.ireturn, 1) := by decide +kernel
theorem dX5_had_0 : decode cX5_had 0 = .ok (.aload_n 0, 1) := by decide +kernel
theorem dX5_had_1 : decode cX5_had 1 = .ok (.iload_n 1, 1) := by decide +kernel
theorem dX5_had_2 : decode cX5_had 2 = .ok (.invokevirtual 213, 3) := by decide +kernel
theorem dX5_had_5 : decode cX5_had 5 = .ok (.ifCond .eq 12, 3) := by decide +kernel
theorem dX5_had_8 : decode cX5_had 8 = .ok (.aload_n 0, 1) := by decide +kernel
theorem dX5_had_9 : decode cX5_had 9 = .ok (.getfield 19, 3) := by decide +kernel
theorem dX5_had_12 : decode cX5_had 12 = .ok (.iload_n 1, 1) := by decide +kernel
theorem dX5_had_13 : decode cX5_had 13 = .ok (.iaload, 1) := by decide +kernel
theorem dX5_had_14 : decode cX5_had 14 = .ok (.goto 8, 3) := by decide +kernel
theorem dX5_had_17 : decode cX5_had 17 = .ok (.aload_n 0, 1) := by decide +kernel
theorem dX5_had_18 : decode cX5_had 18 = .ok (.iconst (-1), 1) := by decide +kernel
theorem dX5_had_19 : decode cX5_had 19 = .ok (.invokevirtual 234, 3) := by decide +kernel
theorem dX5_had_22 : decode cX5_had 22 = .ok (.ireturn, 1) := by decide +kernel
theorem dX5_liarsOf_0 : decode cX5_liarsOf 0 = .ok (.aload_n 0, 1) := by decide +kernel
theorem dX5_liarsOf_1 : decode cX5_liarsOf 1 = .ok (.getfield 37, 3) := by decide +kernel
theorem dX5_liarsOf_4 : decode cX5_liarsOf 4 = .ok (.iload_n 1, 1) := by decide +kernel
theorem dX5_liarsOf_5 : decode cX5_liarsOf 5 = .ok (.iaload, 1) := by decide +kernel
theorem dX5_liarsOf_6 : decode cX5_liarsOf 6 = .ok (.aload_n 0, 1) := by decide +kernel
theorem dX5_liarsOf_7 : decode cX5_liarsOf 7 = .ok (.getfield 34, 3) := by decide +kernel
theorem dX5_liarsOf_10 : decode cX5_liarsOf 10 = .ok (.iload_n 1, 1) := by decide +kernel
theorem dX5_liarsOf_11 : decode cX5_liarsOf 11 = .ok (.iaload, 1) := by decide +kernel
theorem dX5_liarsOf_12 : decode cX5_liarsOf 12 = .ok (.iconst (-1), 1) := by decide +kernel
theorem dX5_liarsOf_13 : decode cX5_liarsOf 13 = .ok (.ixor, 1) := by decide +kernel
theorem dX5_liarsOf_14 : decode cX5_liarsOf 14 = .ok (.iand, 1) := by decide +kernel
theorem dX5_liarsOf_15 : decode cX5_liarsOf 15 = .ok (.ireturn, 1) := by decide +kernel
theorem dX5_liars_0 : decode cX5_liars 0 = .ok (.aload_n 0, 1) := by decide +kernel
theorem dX5_liars_1 : decode cX5_liars 1 = .ok (.iload_n 1, 1) := by decide +kernel
theorem dX5_liars_2 : decode cX5_liars 2 = .ok (.invokevirtual 228, 3) := by decide +kernel
theorem dX5_liars_5 : decode cX5_liars 5 = .ok (.ifCond .eq 11, 3) := by decide +kernel
theorem dX5_liars_8 : decode cX5_liars 8 = .ok (.aload_n 0, 1) := by decide +kernel
theorem dX5_liars_9 : decode cX5_liars 9 = .ok (.iload_n 1, 1) := by decide +kernel
theorem dX5_liars_10 : decode cX5_liars 10 = .ok (.invokevirtual 282, 3) := by decide +kernel
theorem dX5_liars_13 : decode cX5_liars 13 = .ok (.goto 8, 3) := by decide +kernel
theorem dX5_liars_16 : decode cX5_liars 16 = .ok (.aload_n 0, 1) := by decide +kernel
theorem dX5_liars_17 : decode cX5_liars 17 = .ok (.iconst (-1), 1) := by decide +kernel
theorem dX5_liars_18 : decode cX5_liars 18 = .ok (.invokevirtual 137, 3) := by decide +kernel
theorem dX5_liars_21 : decode cX5_liars 21 = .ok (.ireturn, 1) := by decide +kernel
theorem dX5_keeps_0 : decode cX5_keeps 0 = .ok (.iconst 0, 1) := by decide +kernel
theorem dX5_keeps_1 : decode cX5_keeps 1 = .ok (.istore_n 1, 1) := by decide +kernel
theorem dX5_keeps_2 : decode cX5_keeps 2 = .ok (.iload_n 1, 1) := by decide +kernel
theorem dX5_keeps_3 : decode cX5_keeps 3 = .ok (.iconst 5, 1) := by decide +kernel
theorem dX5_keeps_4 : decode cX5_keeps 4 = .ok (.if_icmp .ge 45, 3) := by decide +kernel
theorem dX5_keeps_7 : decode cX5_keeps 7 = .ok (.aload_n 0, 1) := by decide +kernel
theorem dX5_keeps_8 : decode cX5_keeps 8 = .ok (.getfield 78, 3) := by decide +kernel
theorem dX5_keeps_11 : decode cX5_keeps 11 = .ok (.iload_n 1, 1) := by decide +kernel
theorem dX5_keeps_12 : decode cX5_keeps 12 = .ok (.aload_n 0, 1) := by decide +kernel
theorem dX5_keeps_13 : decode cX5_keeps 13 = .ok (.getfield 34, 3) := by decide +kernel
theorem dX5_keeps_16 : decode cX5_keeps 16 = .ok (.iload_n 1, 1) := by decide +kernel
theorem dX5_keeps_17 : decode cX5_keeps 17 = .ok (.iaload, 1) := by decide +kernel
theorem dX5_keeps_18 : decode cX5_keeps 18 = .ok (.iastore, 1) := by decide +kernel
theorem dX5_keeps_19 : decode cX5_keeps 19 = .ok (.aload_n 0, 1) := by decide +kernel
theorem dX5_keeps_20 : decode cX5_keeps 20 = .ok (.getfield 81, 3) := by decide +kernel
theorem dX5_keeps_23 : decode cX5_keeps 23 = .ok (.iload_n 1, 1) := by decide +kernel
theorem dX5_keeps_24 : decode cX5_keeps 24 = .ok (.aload_n 0, 1) := by decide +kernel
theorem dX5_keeps_25 : decode cX5_keeps 25 = .ok (.getfield 37, 3) := by decide +kernel
theorem dX5_keeps_28 : decode cX5_keeps 28 = .ok (.iload_n 1, 1) := by decide +kernel
theorem dX5_keeps_29 : decode cX5_keeps 29 = .ok (.iaload, 1) := by decide +kernel
theorem dX5_keeps_30 : decode cX5_keeps 30 = .ok (.iastore, 1) := by decide +kernel
theorem dX5_keeps_31 : decode cX5_keeps 31 = .ok (.aload_n 0, 1) := by decide +kernel
theorem dX5_keeps_32 : decode cX5_keeps 32 = .ok (.getfield 84, 3) := by decide +kernel
theorem dX5_keeps_35 : decode cX5_keeps 35 = .ok (.iload_n 1, 1) := by decide +kernel
theorem dX5_keeps_36 : decode cX5_keeps 36 = .ok (.aload_n 0, 1) := by decide +kernel
theorem dX5_keeps_37 : decode cX5_keeps 37 = .ok (.getfield 40, 3) := by decide +kernel
theorem dX5_keeps_40 : decode cX5_keeps 40 = .ok (.iload_n 1, 1) := by decide +kernel
theorem dX5_keeps_41 : decode cX5_keeps 41 = .ok (.iaload, 1) := by decide +kernel
theorem dX5_keeps_42 : decode cX5_keeps 42 = .ok (.iastore, 1) := by decide +kernel
theorem dX5_keeps_43 : decode cX5_keeps 43 = .ok (.iinc 1 1, 3) := by decide +kernel
theorem dX5_keeps_46 : decode cX5_keeps 46 = .ok (.goto (-44), 3) := by decide +kernel
theorem dX5_keeps_49 : decode cX5_keeps 49 = .ok (.iconst 0, 1) := by decide +kernel
theorem dX5_keeps_50 : decode cX5_keeps 50 = .ok (.istore_n 1, 1) := by decide +kernel
theorem dX5_keeps_51 : decode cX5_keeps 51 = .ok (.iload_n 1, 1) := by decide +kernel
theorem dX5_keeps_52 : decode cX5_keeps 52 = .ok (.bipush 6, 2) := by decide +kernel
theorem dX5_keeps_54 : decode cX5_keeps 54 = .ok (.if_icmp .ge 21, 3) := by decide +kernel
theorem dX5_keeps_57 : decode cX5_keeps 57 = .ok (.aload_n 0, 1) := by decide +kernel
theorem dX5_keeps_58 : decode cX5_keeps 58 = .ok (.getfield 87, 3) := by decide +kernel
theorem dX5_keeps_61 : decode cX5_keeps 61 = .ok (.iload_n 1, 1) := by decide +kernel
theorem dX5_keeps_62 : decode cX5_keeps 62 = .ok (.aload_n 0, 1) := by decide +kernel
theorem dX5_keeps_63 : decode cX5_keeps 63 = .ok (.getfield 19, 3) := by decide +kernel
theorem dX5_keeps_66 : decode cX5_keeps 66 = .ok (.iload_n 1, 1) := by decide +kernel
theorem dX5_keeps_67 : decode cX5_keeps 67 = .ok (.iaload, 1) := by decide +kernel
theorem dX5_keeps_68 : decode cX5_keeps 68 = .ok (.iastore, 1) := by decide +kernel
theorem dX5_keeps_69 : decode cX5_keeps 69 = .ok (.iinc 1 1, 3) := by decide +kernel
theorem dX5_keeps_72 : decode cX5_keeps 72 = .ok (.goto (-21), 3) := by decide +kernel
theorem dX5_keeps_75 : decode cX5_keeps 75 = .ok (.iconst 0, 1) := by decide +kernel
theorem dX5_keeps_76 : decode cX5_keeps 76 = .ok (.istore_n 1, 1) := by decide +kernel
theorem dX5_keeps_77 : decode cX5_keeps 77 = .ok (.iload_n 1, 1) := by decide +kernel
theorem dX5_keeps_78 : decode cX5_keeps 78 = .ok (.bipush 90, 2) := by decide +kernel
theorem dX5_keeps_80 : decode cX5_keeps 80 = .ok (.if_icmp .ge 21, 3) := by decide +kernel
theorem dX5_keeps_83 : decode cX5_keeps 83 = .ok (.aload_n 0, 1) := by decide +kernel
theorem dX5_keeps_84 : decode cX5_keeps 84 = .ok (.getfield 90, 3) := by decide +kernel
theorem dX5_keeps_87 : decode cX5_keeps 87 = .ok (.iload_n 1, 1) := by decide +kernel
theorem dX5_keeps_88 : decode cX5_keeps 88 = .ok (.aload_n 0, 1) := by decide +kernel
theorem dX5_keeps_89 : decode cX5_keeps 89 = .ok (.getfield 43, 3) := by decide +kernel
theorem dX5_keeps_92 : decode cX5_keeps 92 = .ok (.iload_n 1, 1) := by decide +kernel
theorem dX5_keeps_93 : decode cX5_keeps 93 = .ok (.laload, 1) := by decide +kernel
theorem dX5_keeps_94 : decode cX5_keeps 94 = .ok (.lastore, 1) := by decide +kernel
theorem dX5_keeps_95 : decode cX5_keeps 95 = .ok (.iinc 1 1, 3) := by decide +kernel
theorem dX5_keeps_98 : decode cX5_keeps 98 = .ok (.goto (-21), 3) := by decide +kernel
theorem dX5_keeps_101 : decode cX5_keeps 101 = .ok (.aload_n 0, 1) := by decide +kernel
theorem dX5_keeps_102 : decode cX5_keeps 102 = .ok (.aload_n 0, 1) := by decide +kernel
theorem dX5_keeps_103 : decode cX5_keeps 103 = .ok (.getfield 264, 3) := by decide +kernel
theorem dX5_keeps_106 : decode cX5_keeps 106 = .ok (.putfield 285, 3) := by decide +kernel
theorem dX5_keeps_109 : decode cX5_keeps 109 = .ok (.return_, 1) := by decide +kernel
theorem dX5_lays_0 : decode cX5_lays 0 = .ok (.iconst 0, 1) := by decide +kernel
theorem dX5_lays_1 : decode cX5_lays 1 = .ok (.istore_n 1, 1) := by decide +kernel
theorem dX5_lays_2 : decode cX5_lays 2 = .ok (.iload_n 1, 1) := by decide +kernel
theorem dX5_lays_3 : decode cX5_lays 3 = .ok (.iconst 5, 1) := by decide +kernel
theorem dX5_lays_4 : decode cX5_lays 4 = .ok (.if_icmp .ge 45, 3) := by decide +kernel
theorem dX5_lays_7 : decode cX5_lays 7 = .ok (.aload_n 0, 1) := by decide +kernel
theorem dX5_lays_8 : decode cX5_lays 8 = .ok (.getfield 34, 3) := by decide +kernel
theorem dX5_lays_11 : decode cX5_lays 11 = .ok (.iload_n 1, 1) := by decide +kernel
theorem dX5_lays_12 : decode cX5_lays 12 = .ok (.aload_n 0, 1) := by decide +kernel
theorem dX5_lays_13 : decode cX5_lays 13 = .ok (.getfield 78, 3) := by decide +kernel
theorem dX5_lays_16 : decode cX5_lays 16 = .ok (.iload_n 1, 1) := by decide +kernel
theorem dX5_lays_17 : decode cX5_lays 17 = .ok (.iaload, 1) := by decide +kernel
theorem dX5_lays_18 : decode cX5_lays 18 = .ok (.iastore, 1) := by decide +kernel
theorem dX5_lays_19 : decode cX5_lays 19 = .ok (.aload_n 0, 1) := by decide +kernel
theorem dX5_lays_20 : decode cX5_lays 20 = .ok (.getfield 37, 3) := by decide +kernel
theorem dX5_lays_23 : decode cX5_lays 23 = .ok (.iload_n 1, 1) := by decide +kernel
theorem dX5_lays_24 : decode cX5_lays 24 = .ok (.aload_n 0, 1) := by decide +kernel
theorem dX5_lays_25 : decode cX5_lays 25 = .ok (.getfield 81, 3) := by decide +kernel
theorem dX5_lays_28 : decode cX5_lays 28 = .ok (.iload_n 1, 1) := by decide +kernel
theorem dX5_lays_29 : decode cX5_lays 29 = .ok (.iaload, 1) := by decide +kernel
theorem dX5_lays_30 : decode cX5_lays 30 = .ok (.iastore, 1) := by decide +kernel
theorem dX5_lays_31 : decode cX5_lays 31 = .ok (.aload_n 0, 1) := by decide +kernel
theorem dX5_lays_32 : decode cX5_lays 32 = .ok (.getfield 40, 3) := by decide +kernel
theorem dX5_lays_35 : decode cX5_lays 35 = .ok (.iload_n 1, 1) := by decide +kernel
theorem dX5_lays_36 : decode cX5_lays 36 = .ok (.aload_n 0, 1) := by decide +kernel
theorem dX5_lays_37 : decode cX5_lays 37 = .ok (.getfield 84, 3) := by decide +kernel
theorem dX5_lays_40 : decode cX5_lays 40 = .ok (.iload_n 1, 1) := by decide +kernel
theorem dX5_lays_41 : decode cX5_lays 41 = .ok (.iaload, 1) := by decide +kernel
theorem dX5_lays_42 : decode cX5_lays 42 = .ok (.iastore, 1) := by decide +kernel
theorem dX5_lays_43 : decode cX5_lays 43 = .ok (.iinc 1 1, 3) := by decide +kernel
theorem dX5_lays_46 : decode cX5_lays 46 = .ok (.goto (-44), 3) := by decide +kernel
theorem dX5_lays_49 : decode cX5_lays 49 = .ok (.iconst 0, 1) := by decide +kernel
theorem dX5_lays_50 : decode cX5_lays 50 = .ok (.istore_n 1, 1) := by decide +kernel
theorem dX5_lays_51 : decode cX5_lays 51 = .ok (.iload_n 1, 1) := by decide +kernel
theorem dX5_lays_52 : decode cX5_lays 52 = .ok (.bipush 6, 2) := by decide +kernel
theorem dX5_lays_54 : decode cX5_lays 54 = .ok (.if_icmp .ge 21, 3) := by decide +kernel
theorem dX5_lays_57 : decode cX5_lays 57 = .ok (.aload_n 0, 1) := by decide +kernel
theorem dX5_lays_58 : decode cX5_lays 58 = .ok (.getfield 19, 3) := by decide +kernel
theorem dX5_lays_61 : decode cX5_lays 61 = .ok (.iload_n 1, 1) := by decide +kernel
theorem dX5_lays_62 : decode cX5_lays 62 = .ok (.aload_n 0, 1) := by decide +kernel
theorem dX5_lays_63 : decode cX5_lays 63 = .ok (.getfield 87, 3) := by decide +kernel
theorem dX5_lays_66 : decode cX5_lays 66 = .ok (.iload_n 1, 1) := by decide +kernel
theorem dX5_lays_67 : decode cX5_lays 67 = .ok (.iaload, 1) := by decide +kernel
theorem dX5_lays_68 : decode cX5_lays 68 = .ok (.iastore, 1) := by decide +kernel
theorem dX5_lays_69 : decode cX5_lays 69 = .ok (.iinc 1 1, 3) := by decide +kernel
theorem dX5_lays_72 : decode cX5_lays 72 = .ok (.goto (-21), 3) := by decide +kernel
theorem dX5_lays_75 : decode cX5_lays 75 = .ok (.iconst 0, 1) := by decide +kernel
theorem dX5_lays_76 : decode cX5_lays 76 = .ok (.istore_n 1, 1) := by decide +kernel
theorem dX5_lays_77 : decode cX5_lays 77 = .ok (.iload_n 1, 1) := by decide +kernel
theorem dX5_lays_78 : decode cX5_lays 78 = .ok (.bipush 90, 2) := by decide +kernel
theorem dX5_lays_80 : decode cX5_lays 80 = .ok (.if_icmp .ge 21, 3) := by decide +kernel
theorem dX5_lays_83 : decode cX5_lays 83 = .ok (.aload_n 0, 1) := by decide +kernel
theorem dX5_lays_84 : decode cX5_lays 84 = .ok (.getfield 43, 3) := by decide +kernel
theorem dX5_lays_87 : decode cX5_lays 87 = .ok (.iload_n 1, 1) := by decide +kernel
theorem dX5_lays_88 : decode cX5_lays 88 = .ok (.aload_n 0, 1) := by decide +kernel
theorem dX5_lays_89 : decode cX5_lays 89 = .ok (.getfield 90, 3) := by decide +kernel
theorem dX5_lays_92 : decode cX5_lays 92 = .ok (.iload_n 1, 1) := by decide +kernel
theorem dX5_lays_93 : decode cX5_lays 93 = .ok (.laload, 1) := by decide +kernel
theorem dX5_lays_94 : decode cX5_lays 94 = .ok (.lastore, 1) := by decide +kernel
theorem dX5_lays_95 : decode cX5_lays 95 = .ok (.iinc 1 1, 3) := by decide +kernel
theorem dX5_lays_98 : decode cX5_lays 98 = .ok (.goto (-21), 3) := by decide +kernel
theorem dX5_lays_101 : decode cX5_lays 101 = .ok (.aload_n 0, 1) := by decide +kernel
theorem dX5_lays_102 : decode cX5_lays 102 = .ok (.aload_n 0, 1) := by decide +kernel
theorem dX5_lays_103 : decode cX5_lays 103 = .ok (.getfield 285, 3) := by decide +kernel
theorem dX5_lays_106 : decode cX5_lays 106 = .ok (.putfield 264, 3) := by decide +kernel
theorem dX5_lays_109 : decode cX5_lays 109 = .ok (.return_, 1) := by decide +kernel
theorem dX5_forceIf_0 : decode cX5_forceIf 0 = .ok (.aload_n 0, 1) := by decide +kernel
theorem dX5_forceIf_1 : decode cX5_forceIf 1 = .ok (.invokevirtual 288, 3) := by decide +kernel
theorem dX5_forceIf_4 : decode cX5_forceIf 4 = .ok (.aload_n 0, 1) := by decide +kernel
theorem dX5_forceIf_5 : decode cX5_forceIf 5 = .ok (.getfield 40, 3) := by decide +kernel
theorem dX5_forceIf_8 : decode cX5_forceIf 8 = .ok (.iload_n 2, 1) := by decide +kernel
theorem dX5_forceIf_9 : decode cX5_forceIf 9 = .ok (.iaload, 1) := by decide +kernel
theorem dX5_forceIf_10 : decode cX5_forceIf 10 = .ok (.istore 5, 2) := by decide +kernel
theorem dX5_forceIf_12 : decode cX5_forceIf 12 = .ok (.aload_n 0, 1) := by decide +kernel
theorem dX5_forceIf_13 : decode cX5_forceIf 13 = .ok (.iload_n 1, 1) := by decide +kernel
theorem dX5_forceIf_14 : decode cX5_forceIf 14 = .ok (.putfield 75, 3) := by decide +kernel
theorem dX5_forceIf_17 : decode cX5_forceIf 17 = .ok (.aload_n 0, 1) := by decide +kernel
theorem dX5_forceIf_18 : decode cX5_forceIf 18 = .ok (.iload_n 2, 1) := by decide +kernel
theorem dX5_forceIf_19 : decode cX5_forceIf 19 = .ok (.putfield 273, 3) := by decide +kernel
theorem dX5_forceIf_22 : decode cX5_forceIf 22 = .ok (.iconst 0, 1) := by decide +kernel
theorem dX5_forceIf_23 : decode cX5_forceIf 23 = .ok (.istore 6, 2) := by decide +kernel
theorem dX5_forceIf_25 : decode cX5_forceIf 25 = .ok (.iload 6, 2) := by decide +kernel
theorem dX5_forceIf_27 : decode cX5_forceIf 27 = .ok (.iload_n 3, 1) := by decide +kernel
theorem dX5_forceIf_28 : decode cX5_forceIf 28 = .ok (.if_icmp .ge 35, 3) := by decide +kernel
theorem dX5_forceIf_31 : decode cX5_forceIf 31 = .ok (.iload 6, 2) := by decide +kernel
theorem dX5_forceIf_33 : decode cX5_forceIf 33 = .ok (.iload 4, 2) := by decide +kernel
theorem dX5_forceIf_35 : decode cX5_forceIf 35 = .ok (.if_icmp .ne 18, 3) := by decide +kernel
theorem dX5_forceIf_38 : decode cX5_forceIf 38 = .ok (.aload_n 0, 1) := by decide +kernel
theorem dX5_forceIf_39 : decode cX5_forceIf 39 = .ok (.iload_n 1, 1) := by decide +kernel
theorem dX5_forceIf_40 : decode cX5_forceIf 40 = .ok (.iload_n 2, 1) := by decide +kernel
theorem dX5_forceIf_41 : decode cX5_forceIf 41 = .ok (.invokevirtual 237, 3) := by decide +kernel
theorem dX5_forceIf_44 : decode cX5_forceIf 44 = .ok (.ifCond .eq 9, 3) := by decide +kernel
theorem dX5_forceIf_47 : decode cX5_forceIf 47 = .ok (.aload_n 0, 1) := by decide +kernel
theorem dX5_forceIf_48 : decode cX5_forceIf 48 = .ok (.iload_n 1, 1) := by decide +kernel
theorem dX5_forceIf_49 : decode cX5_forceIf 49 = .ok (.iload_n 2, 1) := by decide +kernel
theorem dX5_forceIf_50 : decode cX5_forceIf 50 = .ok (.invokevirtual 240, 3) := by decide +kernel
theorem dX5_forceIf_53 : decode cX5_forceIf 53 = .ok (.aload_n 0, 1) := by decide +kernel
theorem dX5_forceIf_54 : decode cX5_forceIf 54 = .ok (.invokevirtual 279, 3) := by decide +kernel
theorem dX5_forceIf_57 : decode cX5_forceIf 57 = .ok (.iinc 6 1, 3) := by decide +kernel
theorem dX5_forceIf_60 : decode cX5_forceIf 60 = .ok (.goto (-35), 3) := by decide +kernel
theorem dX5_forceIf_63 : decode cX5_forceIf 63 = .ok (.aload_n 0, 1) := by decide +kernel
theorem dX5_forceIf_64 : decode cX5_forceIf 64 = .ok (.iconst (-1), 1) := by decide +kernel
theorem dX5_forceIf_65 : decode cX5_forceIf 65 = .ok (.putfield 75, 3) := by decide +kernel
theorem dX5_forceIf_68 : decode cX5_forceIf 68 = .ok (.aload_n 0, 1) := by decide +kernel
theorem dX5_forceIf_69 : decode cX5_forceIf 69 = .ok (.getfield 40, 3) := by decide +kernel
theorem dX5_forceIf_72 : decode cX5_forceIf 72 = .ok (.iload_n 2, 1) := by decide +kernel
theorem dX5_forceIf_73 : decode cX5_forceIf 73 = .ok (.iaload, 1) := by decide +kernel
theorem dX5_forceIf_74 : decode cX5_forceIf 74 = .ok (.iload 5, 2) := by decide +kernel
theorem dX5_forceIf_76 : decode cX5_forceIf 76 = .ok (.isub, 1) := by decide +kernel
theorem dX5_forceIf_77 : decode cX5_forceIf 77 = .ok (.istore 6, 2) := by decide +kernel
theorem dX5_forceIf_79 : decode cX5_forceIf 79 = .ok (.aload_n 0, 1) := by decide +kernel
theorem dX5_forceIf_80 : decode cX5_forceIf 80 = .ok (.invokevirtual 291, 3) := by decide +kernel
theorem dX5_forceIf_83 : decode cX5_forceIf 83 = .ok (.iload 6, 2) := by decide +kernel
theorem dX5_forceIf_85 : decode cX5_forceIf 85 = .ok (.ireturn, 1) := by decide +kernel
theorem dX5_findsWhen_0 : decode cX5_findsWhen 0 = .ok (.aload_n 0, 1) := by decide +kernel
theorem dX5_findsWhen_1 : decode cX5_findsWhen 1 = .ok (.iload_n 1, 1) := by decide +kernel
theorem dX5_findsWhen_2 : decode cX5_findsWhen 2 = .ok (.iload_n 2, 1) := by decide +kernel
theorem dX5_findsWhen_3 : decode cX5_findsWhen 3 = .ok (.invokevirtual 248, 3) := by decide +kernel
theorem dX5_findsWhen_6 : decode cX5_findsWhen 6 = .ok (.lstore 4, 2) := by decide +kernel
theorem dX5_findsWhen_8 : decode cX5_findsWhen 8 = .ok (.aload_n 0, 1) := by decide +kernel
theorem dX5_findsWhen_9 : decode cX5_findsWhen 9 = .ok (.iconst 0, 1) := by decide +kernel
theorem dX5_findsWhen_10 : decode cX5_findsWhen 10 = .ok (.putfield 294, 3) := by decide +kernel
theorem dX5_findsWhen_13 : decode cX5_findsWhen 13 = .ok (.aload_n 0, 1) := by decide +kernel
theorem dX5_findsWhen_14 : decode cX5_findsWhen 14 = .ok (.aload_n 0, 1) := by decide +kernel
theorem dX5_findsWhen_15 : decode cX5_findsWhen 15 = .ok (.iload_n 1, 1) := by decide +kernel
theorem dX5_findsWhen_16 : decode cX5_findsWhen 16 = .ok (.iload_n 2, 1) := by decide +kernel
theorem dX5_findsWhen_17 : decode cX5_findsWhen 17 = .ok (.iload_n 3, 1) := by decide +kernel
theorem dX5_findsWhen_18 : decode cX5_findsWhen 18 = .ok (.iconst 0, 1) := by decide +kernel
theorem dX5_findsWhen_19 : decode cX5_findsWhen 19 = .ok (.invokevirtual 297, 3) := by decide +kernel
theorem dX5_findsWhen_22 : decode cX5_findsWhen 22 = .ok (.putfield 301, 3) := by decide +kernel
theorem dX5_findsWhen_25 : decode cX5_findsWhen 25 = .ok (.iconst 1, 1) := by decide +kernel
theorem dX5_findsWhen_26 : decode cX5_findsWhen 26 = .ok (.istore 6, 2) := by decide +kernel
theorem dX5_findsWhen_28 : decode cX5_findsWhen 28 = .ok (.iload 6, 2) := by decide +kernel
theorem dX5_findsWhen_30 : decode cX5_findsWhen 30 = .ok (.iload_n 3, 1) := by decide +kernel
theorem dX5_findsWhen_31 : decode cX5_findsWhen 31 = .ok (.if_icmp .gt 50, 3) := by decide +kernel
theorem dX5_findsWhen_34 : decode cX5_findsWhen 34 = .ok (.aload_n 0, 1) := by decide +kernel
theorem dX5_findsWhen_35 : decode cX5_findsWhen 35 = .ok (.iload_n 1, 1) := by decide +kernel
theorem dX5_findsWhen_36 : decode cX5_findsWhen 36 = .ok (.iload_n 2, 1) := by decide +kernel
theorem dX5_findsWhen_37 : decode cX5_findsWhen 37 = .ok (.iload_n 3, 1) := by decide +kernel
theorem dX5_findsWhen_38 : decode cX5_findsWhen 38 = .ok (.iload 6, 2) := by decide +kernel
theorem dX5_findsWhen_40 : decode cX5_findsWhen 40 = .ok (.invokevirtual 297, 3) := by decide +kernel
theorem dX5_findsWhen_43 : decode cX5_findsWhen 43 = .ok (.istore 7, 2) := by decide +kernel
theorem dX5_findsWhen_45 : decode cX5_findsWhen 45 = .ok (.lload 4, 2) := by decide +kernel
theorem dX5_findsWhen_47 : decode cX5_findsWhen 47 = .ok (.iload 7, 2) := by decide +kernel
theorem dX5_findsWhen_49 : decode cX5_findsWhen 49 = .ok (.i2l, 1) := by decide +kernel
theorem dX5_findsWhen_50 : decode cX5_findsWhen 50 = .ok (.lmul, 1) := by decide +kernel
theorem dX5_findsWhen_51 : decode cX5_findsWhen 51 = .ok (.lload 4, 2) := by decide +kernel
theorem dX5_findsWhen_53 : decode cX5_findsWhen 53 = .ok (.aload_n 0, 1) := by decide +kernel
theorem dX5_findsWhen_54 : decode cX5_findsWhen 54 = .ok (.getfield 301, 3) := by decide +kernel
theorem dX5_findsWhen_57 : decode cX5_findsWhen 57 = .ok (.i2l, 1) := by decide +kernel
theorem dX5_findsWhen_58 : decode cX5_findsWhen 58 = .ok (.lmul, 1) := by decide +kernel
theorem dX5_findsWhen_59 : decode cX5_findsWhen 59 = .ok (.lcmp, 1) := by decide +kernel
theorem dX5_findsWhen_60 : decode cX5_findsWhen 60 = .ok (.ifCond .le 15, 3) := by decide +kernel
theorem dX5_findsWhen_63 : decode cX5_findsWhen 63 = .ok (.aload_n 0, 1) := by decide +kernel
theorem dX5_findsWhen_64 : decode cX5_findsWhen 64 = .ok (.iload 6, 2) := by decide +kernel
theorem dX5_findsWhen_66 : decode cX5_findsWhen 66 = .ok (.putfield 294, 3) := by decide +kernel
theorem dX5_findsWhen_69 : decode cX5_findsWhen 69 = .ok (.aload_n 0, 1) := by decide +kernel
theorem dX5_findsWhen_70 : decode cX5_findsWhen 70 = .ok (.iload 7, 2) := by decide +kernel
theorem dX5_findsWhen_72 : decode cX5_findsWhen 72 = .ok (.putfield 301, 3) := by decide +kernel
theorem dX5_findsWhen_75 : decode cX5_findsWhen 75 = .ok (.iinc 6 1, 3) := by decide +kernel
theorem dX5_findsWhen_78 : decode cX5_findsWhen 78 = .ok (.goto (-50), 3) := by decide +kernel
theorem dX5_findsWhen_81 : decode cX5_findsWhen 81 = .ok (.return_, 1) := by decide +kernel
theorem dX5_whenWrong_0 : decode cX5_whenWrong 0 = .ok (.iload_n 1, 1) := by decide +kernel
theorem dX5_whenWrong_1 : decode cX5_whenWrong 1 = .ok (.iconst 1, 1) := by decide +kernel
theorem dX5_whenWrong_2 : decode cX5_whenWrong 2 = .ok (.if_icmp .ge 8, 3) := by decide +kernel
theorem dX5_whenWrong_5 : decode cX5_whenWrong 5 = .ok (.bipush (-4), 2) := by decide +kernel
theorem dX5_whenWrong_7 : decode cX5_whenWrong 7 = .ok (.goto 38, 3) := by decide +kernel
theorem dX5_whenWrong_10 : decode cX5_whenWrong 10 = .ok (.iload_n 1, 1) := by decide +kernel
theorem dX5_whenWrong_11 : decode cX5_whenWrong 11 = .ok (.bipush 20, 2) := by decide +kernel
theorem dX5_whenWrong_13 : decode cX5_whenWrong 13 = .ok (.if_icmp .le 8, 3) := by decide +kernel
theorem dX5_whenWrong_16 : decode cX5_whenWrong 16 = .ok (.bipush (-6), 2) := by decide +kernel
theorem dX5_whenWrong_18 : decode cX5_whenWrong 18 = .ok (.goto 27, 3) := by decide +kernel
theorem dX5_whenWrong_21 : decode cX5_whenWrong 21 = .ok (.aload_n 0, 1) := by decide +kernel
theorem dX5_whenWrong_22 : decode cX5_whenWrong 22 = .ok (.iload_n 2, 1) := by decide +kernel
theorem dX5_whenWrong_23 : decode cX5_whenWrong 23 = .ok (.iload_n 3, 1) := by decide +kernel
theorem dX5_whenWrong_24 : decode cX5_whenWrong 24 = .ok (.invokevirtual 207, 3) := by decide +kernel
theorem dX5_whenWrong_27 : decode cX5_whenWrong 27 = .ok (.ifCond .eq 12, 3) := by decide +kernel
theorem dX5_whenWrong_30 : decode cX5_whenWrong 30 = .ok (.aload_n 0, 1) := by decide +kernel
theorem dX5_whenWrong_31 : decode cX5_whenWrong 31 = .ok (.iload_n 2, 1) := by decide +kernel
theorem dX5_whenWrong_32 : decode cX5_whenWrong 32 = .ok (.iload_n 3, 1) := by decide +kernel
theorem dX5_whenWrong_33 : decode cX5_whenWrong 33 = .ok (.invokevirtual 210, 3) := by decide +kernel
theorem dX5_whenWrong_36 : decode cX5_whenWrong 36 = .ok (.ifCond .eq 8, 3) := by decide +kernel
theorem dX5_whenWrong_39 : decode cX5_whenWrong 39 = .ok (.bipush (-3), 2) := by decide +kernel
theorem dX5_whenWrong_41 : decode cX5_whenWrong 41 = .ok (.goto 4, 3) := by decide +kernel
theorem dX5_whenWrong_44 : decode cX5_whenWrong 44 = .ok (.iconst 0, 1) := by decide +kernel
theorem dX5_whenWrong_45 : decode cX5_whenWrong 45 = .ok (.ireturn, 1) := by decide +kernel
theorem dX5_when_0 : decode cX5_when 0 = .ok (.aload_n 0, 1) := by decide +kernel
theorem dX5_when_1 : decode cX5_when 1 = .ok (.iload_n 1, 1) := by decide +kernel
theorem dX5_when_2 : decode cX5_when 2 = .ok (.invokevirtual 213, 3) := by decide +kernel
theorem dX5_when_5 : decode cX5_when 5 = .ok (.ifCond .eq 11, 3) := by decide +kernel
theorem dX5_when_8 : decode cX5_when 8 = .ok (.aload_n 0, 1) := by decide +kernel
theorem dX5_when_9 : decode cX5_when 9 = .ok (.iload_n 2, 1) := by decide +kernel
theorem dX5_when_10 : decode cX5_when 10 = .ok (.invokevirtual 228, 3) := by decide +kernel
theorem dX5_when_13 : decode cX5_when 13 = .ok (.ifCond .ne 9, 3) := by decide +kernel
theorem dX5_when_16 : decode cX5_when 16 = .ok (.aload_n 0, 1) := by decide +kernel
theorem dX5_when_17 : decode cX5_when 17 = .ok (.iconst (-1), 1) := by decide +kernel
theorem dX5_when_18 : decode cX5_when 18 = .ok (.invokevirtual 137, 3) := by decide +kernel
theorem dX5_when_21 : decode cX5_when 21 = .ok (.ireturn, 1) := by decide +kernel
theorem dX5_when_22 : decode cX5_when 22 = .ok (.aload_n 0, 1) := by decide +kernel
theorem dX5_when_23 : decode cX5_when 23 = .ok (.iload_n 3, 1) := by decide +kernel
theorem dX5_when_24 : decode cX5_when 24 = .ok (.iload_n 1, 1) := by decide +kernel
theorem dX5_when_25 : decode cX5_when 25 = .ok (.iload_n 2, 1) := by decide +kernel
theorem dX5_when_26 : decode cX5_when 26 = .ok (.invokevirtual 304, 3) := by decide +kernel
theorem dX5_when_29 : decode cX5_when 29 = .ok (.istore 4, 2) := by decide +kernel
theorem dX5_when_31 : decode cX5_when 31 = .ok (.iload 4, 2) := by decide +kernel
theorem dX5_when_33 : decode cX5_when 33 = .ok (.ifCond .eq 10, 3) := by decide +kernel
theorem dX5_when_36 : decode cX5_when 36 = .ok (.aload_n 0, 1) := by decide +kernel
theorem dX5_when_37 : decode cX5_when 37 = .ok (.iload 4, 2) := by decide +kernel
theorem dX5_when_39 : decode cX5_when 39 = .ok (.invokevirtual 137, 3) := by decide +kernel
theorem dX5_when_42 : decode cX5_when 42 = .ok (.ireturn, 1) := by decide +kernel
theorem dX5_when_43 : decode cX5_when 43 = .ok (.aload_n 0, 1) := by decide +kernel
theorem dX5_when_44 : decode cX5_when 44 = .ok (.iload_n 1, 1) := by decide +kernel
theorem dX5_when_45 : decode cX5_when 45 = .ok (.iload_n 2, 1) := by decide +kernel
theorem dX5_when_46 : decode cX5_when 46 = .ok (.iload_n 3, 1) := by decide +kernel
theorem dX5_when_47 : decode cX5_when 47 = .ok (.invokevirtual 308, 3) := by decide +kernel
theorem dX5_when_50 : decode cX5_when 50 = .ok (.aload_n 0, 1) := by decide +kernel
theorem dX5_when_51 : decode cX5_when 51 = .ok (.getfield 294, 3) := by decide +kernel
theorem dX5_when_54 : decode cX5_when 54 = .ok (.ireturn, 1) := by decide +kernel
theorem dX5_mean_0 : decode cX5_mean 0 = .ok (.aload_n 0, 1) := by decide +kernel
theorem dX5_mean_1 : decode cX5_mean 1 = .ok (.iload_n 1, 1) := by decide +kernel
theorem dX5_mean_2 : decode cX5_mean 2 = .ok (.invokevirtual 213, 3) := by decide +kernel
theorem dX5_mean_5 : decode cX5_mean 5 = .ok (.ifCond .eq 11, 3) := by decide +kernel
theorem dX5_mean_8 : decode cX5_mean 8 = .ok (.aload_n 0, 1) := by decide +kernel
theorem dX5_mean_9 : decode cX5_mean 9 = .ok (.iload_n 2, 1) := by decide +kernel
theorem dX5_mean_10 : decode cX5_mean 10 = .ok (.invokevirtual 228, 3) := by decide +kernel
theorem dX5_mean_13 : decode cX5_mean 13 = .ok (.ifCond .ne 9, 3) := by decide +kernel
theorem dX5_mean_16 : decode cX5_mean 16 = .ok (.aload_n 0, 1) := by decide +kernel
theorem dX5_mean_17 : decode cX5_mean 17 = .ok (.iconst (-1), 1) := by decide +kernel
theorem dX5_mean_18 : decode cX5_mean 18 = .ok (.invokevirtual 244, 3) := by decide +kernel
theorem dX5_mean_21 : decode cX5_mean 21 = .ok (.lreturn, 1) := by decide +kernel
theorem dX5_mean_22 : decode cX5_mean 22 = .ok (.iload 4, 2) := by decide +kernel
theorem dX5_mean_24 : decode cX5_mean 24 = .ok (.iconst 0, 1) := by decide +kernel
theorem dX5_mean_25 : decode cX5_mean 25 = .ok (.iconst 1, 1) := by decide +kernel
theorem dX5_mean_26 : decode cX5_mean 26 = .ok (.invokestatic 145, 3) := by decide +kernel
theorem dX5_mean_29 : decode cX5_mean 29 = .ok (.ifCond .ne 10, 3) := by decide +kernel
theorem dX5_mean_32 : decode cX5_mean 32 = .ok (.aload_n 0, 1) := by decide +kernel
theorem dX5_mean_33 : decode cX5_mean 33 = .ok (.bipush (-2), 2) := by decide +kernel
theorem dX5_mean_35 : decode cX5_mean 35 = .ok (.invokevirtual 244, 3) := by decide +kernel
theorem dX5_mean_38 : decode cX5_mean 38 = .ok (.lreturn, 1) := by decide +kernel
theorem dX5_mean_39 : decode cX5_mean 39 = .ok (.aload_n 0, 1) := by decide +kernel
theorem dX5_mean_40 : decode cX5_mean 40 = .ok (.iload_n 3, 1) := by decide +kernel
theorem dX5_mean_41 : decode cX5_mean 41 = .ok (.iload_n 1, 1) := by decide +kernel
theorem dX5_mean_42 : decode cX5_mean 42 = .ok (.iload_n 2, 1) := by decide +kernel
theorem dX5_mean_43 : decode cX5_mean 43 = .ok (.invokevirtual 304, 3) := by decide +kernel
theorem dX5_mean_46 : decode cX5_mean 46 = .ok (.istore 5, 2) := by decide +kernel
theorem dX5_mean_48 : decode cX5_mean 48 = .ok (.iload 5, 2) := by decide +kernel
theorem dX5_mean_50 : decode cX5_mean 50 = .ok (.ifCond .eq 10, 3) := by decide +kernel
theorem dX5_mean_53 : decode cX5_mean 53 = .ok (.aload_n 0, 1) := by decide +kernel
theorem dX5_mean_54 : decode cX5_mean 54 = .ok (.iload 5, 2) := by decide +kernel
theorem dX5_mean_56 : decode cX5_mean 56 = .ok (.invokevirtual 244, 3) := by decide +kernel
theorem dX5_mean_59 : decode cX5_mean 59 = .ok (.lreturn, 1) := by decide +kernel
theorem dX5_mean_60 : decode cX5_mean 60 = .ok (.aload_n 0, 1) := by decide +kernel
theorem dX5_mean_61 : decode cX5_mean 61 = .ok (.iload_n 1, 1) := by decide +kernel
theorem dX5_mean_62 : decode cX5_mean 62 = .ok (.iload_n 2, 1) := by decide +kernel
theorem dX5_mean_63 : decode cX5_mean 63 = .ok (.iload_n 3, 1) := by decide +kernel
theorem dX5_mean_64 : decode cX5_mean 64 = .ok (.invokevirtual 308, 3) := by decide +kernel
theorem dX5_mean_67 : decode cX5_mean 67 = .ok (.aload_n 0, 1) := by decide +kernel
theorem dX5_mean_68 : decode cX5_mean 68 = .ok (.iload_n 1, 1) := by decide +kernel
theorem dX5_mean_69 : decode cX5_mean 69 = .ok (.iload_n 2, 1) := by decide +kernel
theorem dX5_mean_70 : decode cX5_mean 70 = .ok (.invokevirtual 248, 3) := by decide +kernel
theorem dX5_mean_73 : decode cX5_mean 73 = .ok (.aload_n 0, 1) := by decide +kernel
theorem dX5_mean_74 : decode cX5_mean 74 = .ok (.getfield 301, 3) := by decide +kernel
theorem dX5_mean_77 : decode cX5_mean 77 = .ok (.i2l, 1) := by decide +kernel
theorem dX5_mean_78 : decode cX5_mean 78 = .ok (.lmul, 1) := by decide +kernel
theorem dX5_mean_79 : decode cX5_mean 79 = .ok (.aload_n 0, 1) := by decide +kernel
theorem dX5_mean_80 : decode cX5_mean 80 = .ok (.iload_n 1, 1) := by decide +kernel
theorem dX5_mean_81 : decode cX5_mean 81 = .ok (.iload_n 2, 1) := by decide +kernel
theorem dX5_mean_82 : decode cX5_mean 82 = .ok (.invokevirtual 252, 3) := by decide +kernel
theorem dX5_mean_85 : decode cX5_mean 85 = .ok (.iload 4, 2) := by decide +kernel
theorem dX5_mean_87 : decode cX5_mean 87 = .ok (.invokestatic 255, 3) := by decide +kernel
theorem dX5_mean_90 : decode cX5_mean 90 = .ok (.lreturn, 1) := by decide +kernel
theorem dX5_leftOf_0 : decode cX5_leftOf 0 = .ok (.aload_n 0, 1) := by decide +kernel
theorem dX5_leftOf_1 : decode cX5_leftOf 1 = .ok (.getfield 22, 3) := by decide +kernel
theorem dX5_leftOf_4 : decode cX5_leftOf 4 = .ok (.iload_n 1, 1) := by decide +kernel
theorem dX5_leftOf_5 : decode cX5_leftOf 5 = .ok (.iaload, 1) := by decide +kernel
theorem dX5_leftOf_6 : decode cX5_leftOf 6 = .ok (.aload_n 0, 1) := by decide +kernel
theorem dX5_leftOf_7 : decode cX5_leftOf 7 = .ok (.getfield 34, 3) := by decide +kernel
theorem dX5_leftOf_10 : decode cX5_leftOf 10 = .ok (.iload_n 1, 1) := by decide +kernel
theorem dX5_leftOf_11 : decode cX5_leftOf 11 = .ok (.iaload, 1) := by decide +kernel
theorem dX5_leftOf_12 : decode cX5_leftOf 12 = .ok (.iconst (-1), 1) := by decide +kernel
theorem dX5_leftOf_13 : decode cX5_leftOf 13 = .ok (.ixor, 1) := by decide +kernel
theorem dX5_leftOf_14 : decode cX5_leftOf 14 = .ok (.iand, 1) := by decide +kernel
theorem dX5_leftOf_15 : decode cX5_leftOf 15 = .ok (.ireturn, 1) := by decide +kernel
theorem dX5_isRest_0 : decode cX5_isRest 0 = .ok (.aload_n 0, 1) := by decide +kernel
theorem dX5_isRest_1 : decode cX5_isRest 1 = .ok (.getfield 34, 3) := by decide +kernel
theorem dX5_isRest_4 : decode cX5_isRest 4 = .ok (.iload_n 1, 1) := by decide +kernel
theorem dX5_isRest_5 : decode cX5_isRest 5 = .ok (.iaload, 1) := by decide +kernel
theorem dX5_isRest_6 : decode cX5_isRest 6 = .ok (.invokestatic 222, 3) := by decide +kernel
theorem dX5_isRest_9 : decode cX5_isRest 9 = .ok (.istore_n 3, 1) := by decide +kernel
theorem dX5_isRest_10 : decode cX5_isRest 10 = .ok (.aload_n 0, 1) := by decide +kernel
theorem dX5_isRest_11 : decode cX5_isRest 11 = .ok (.iload_n 1, 1) := by decide +kernel
theorem dX5_isRest_12 : decode cX5_isRest 12 = .ok (.aload_n 0, 1) := by decide +kernel
theorem dX5_isRest_13 : decode cX5_isRest 13 = .ok (.getfield 194, 3) := by decide +kernel
theorem dX5_isRest_16 : decode cX5_isRest 16 = .ok (.iload_n 3, 1) := by decide +kernel
theorem dX5_isRest_17 : decode cX5_isRest 17 = .ok (.iload_n 2, 1) := by decide +kernel
theorem dX5_isRest_18 : decode cX5_isRest 18 = .ok (.invokestatic 222, 3) := by decide +kernel
theorem dX5_isRest_21 : decode cX5_isRest 21 = .ok (.iadd, 1) := by decide +kernel
theorem dX5_isRest_22 : decode cX5_isRest 22 = .ok (.invokevirtual 225, 3) := by decide +kernel
theorem dX5_isRest_25 : decode cX5_isRest 25 = .ok (.istore 4, 2) := by decide +kernel
theorem dX5_isRest_27 : decode cX5_isRest 27 = .ok (.iconst 0, 1) := by decide +kernel
theorem dX5_isRest_28 : decode cX5_isRest 28 = .ok (.istore 5, 2) := by decide +kernel
theorem dX5_isRest_30 : decode cX5_isRest 30 = .ok (.iload 5, 2) := by decide +kernel
theorem dX5_isRest_32 : decode cX5_isRest 32 = .ok (.aload_n 0, 1) := by decide +kernel
theorem dX5_isRest_33 : decode cX5_isRest 33 = .ok (.getfield 142, 3) := by decide +kernel
theorem dX5_isRest_36 : decode cX5_isRest 36 = .ok (.if_icmp .ge 82, 3) := by decide +kernel
theorem dX5_isRest_39 : decode cX5_isRest 39 = .ok (.aload_n 0, 1) := by decide +kernel
theorem dX5_isRest_40 : decode cX5_isRest 40 = .ok (.iload_n 1, 1) := by decide +kernel
theorem dX5_isRest_41 : decode cX5_isRest 41 = .ok (.invokevirtual 312, 3) := by decide +kernel
theorem dX5_isRest_44 : decode cX5_isRest 44 = .ok (.iload 5, 2) := by decide +kernel
theorem dX5_isRest_46 : decode cX5_isRest 46 = .ok (.ishr, 1) := by decide +kernel
theorem dX5_isRest_47 : decode cX5_isRest 47 = .ok (.iconst 1, 1) := by decide +kernel
theorem dX5_isRest_48 : decode cX5_isRest 48 = .ok (.iand, 1) := by decide +kernel
theorem dX5_isRest_49 : decode cX5_isRest 49 = .ok (.iconst 1, 1) := by decide +kernel
theorem dX5_isRest_50 : decode cX5_isRest 50 = .ok (.if_icmp .ne 62, 3) := by decide +kernel
theorem dX5_isRest_53 : decode cX5_isRest 53 = .ok (.aload_n 0, 1) := by decide +kernel
theorem dX5_isRest_54 : decode cX5_isRest 54 = .ok (.iload_n 1, 1) := by decide +kernel
theorem dX5_isRest_55 : decode cX5_isRest 55 = .ok (.aload_n 0, 1) := by decide +kernel
theorem dX5_isRest_56 : decode cX5_isRest 56 = .ok (.getfield 194, 3) := by decide +kernel
theorem dX5_isRest_59 : decode cX5_isRest 59 = .ok (.iload_n 3, 1) := by decide +kernel
theorem dX5_isRest_60 : decode cX5_isRest 60 = .ok (.iload_n 2, 1) := by decide +kernel
theorem dX5_isRest_61 : decode cX5_isRest 61 = .ok (.iconst 1, 1) := by decide +kernel
theorem dX5_isRest_62 : decode cX5_isRest 62 = .ok (.iload 5, 2) := by decide +kernel
theorem dX5_isRest_64 : decode cX5_isRest 64 = .ok (.ishl, 1) := by decide +kernel
theorem dX5_isRest_65 : decode cX5_isRest 65 = .ok (.ixor, 1) := by decide +kernel
theorem dX5_isRest_66 : decode cX5_isRest 66 = .ok (.invokestatic 222, 3) := by decide +kernel
theorem dX5_isRest_69 : decode cX5_isRest 69 = .ok (.iadd, 1) := by decide +kernel
theorem dX5_isRest_70 : decode cX5_isRest 70 = .ok (.invokevirtual 225, 3) := by decide +kernel
theorem dX5_isRest_73 : decode cX5_isRest 73 = .ok (.istore 6, 2) := by decide +kernel
theorem dX5_isRest_75 : decode cX5_isRest 75 = .ok (.aload_n 0, 1) := by decide +kernel
theorem dX5_isRest_76 : decode cX5_isRest 76 = .ok (.iload 5, 2) := by decide +kernel
theorem dX5_isRest_78 : decode cX5_isRest 78 = .ok (.iload_n 1, 1) := by decide +kernel
theorem dX5_isRest_79 : decode cX5_isRest 79 = .ok (.invokevirtual 248, 3) := by decide +kernel
theorem dX5_isRest_82 : decode cX5_isRest 82 = .ok (.lstore 7, 2) := by decide +kernel
theorem dX5_isRest_84 : decode cX5_isRest 84 = .ok (.iload 6, 2) := by decide +kernel
theorem dX5_isRest_86 : decode cX5_isRest 86 = .ok (.ifCond .eq 8, 3) := by decide +kernel
theorem dX5_isRest_89 : decode cX5_isRest 89 = .ok (.lload 7, 2) := by decide +kernel
theorem dX5_isRest_91 : decode cX5_isRest 91 = .ok (.goto 4, 3) := by decide +kernel
theorem dX5_isRest_94 : decode cX5_isRest 94 = .ok (.lconst 0, 1) := by decide +kernel
theorem dX5_isRest_95 : decode cX5_isRest 95 = .ok (.iload 4, 2) := by decide +kernel
theorem dX5_isRest_97 : decode cX5_isRest 97 = .ok (.ifCond .eq 8, 3) := by decide +kernel
theorem dX5_isRest_100 : decode cX5_isRest 100 = .ok (.lload 7, 2) := by decide +kernel
theorem dX5_isRest_102 : decode cX5_isRest 102 = .ok (.goto 4, 3) := by decide +kernel
theorem dX5_isRest_105 : decode cX5_isRest 105 = .ok (.lconst 0, 1) := by decide +kernel
theorem dX5_isRest_106 : decode cX5_isRest 106 = .ok (.lcmp, 1) := by decide +kernel
theorem dX5_isRest_107 : decode cX5_isRest 107 = .ok (.ifCond .le 5, 3) := by decide +kernel
theorem dX5_isRest_110 : decode cX5_isRest 110 = .ok (.iconst 0, 1) := by decide +kernel
theorem dX5_isRest_111 : decode cX5_isRest 111 = .ok (.ireturn, 1) := by decide +kernel
theorem dX5_isRest_112 : decode cX5_isRest 112 = .ok (.iinc 5 1, 3) := by decide +kernel
theorem dX5_isRest_115 : decode cX5_isRest 115 = .ok (.goto (-85), 3) := by decide +kernel
theorem dX5_isRest_118 : decode cX5_isRest 118 = .ok (.iconst 1, 1) := by decide +kernel
theorem dX5_isRest_119 : decode cX5_isRest 119 = .ok (.ireturn, 1) := by decide +kernel
theorem dX5_rests_0 : decode cX5_rests 0 = .ok (.aload_n 0, 1) := by decide +kernel
theorem dX5_rests_1 : decode cX5_rests 1 = .ok (.iload_n 1, 1) := by decide +kernel
theorem dX5_rests_2 : decode cX5_rests 2 = .ok (.invokevirtual 228, 3) := by decide +kernel
theorem dX5_rests_5 : decode cX5_rests 5 = .ok (.ifCond .ne 9, 3) := by decide +kernel
theorem dX5_rests_8 : decode cX5_rests 8 = .ok (.aload_n 0, 1) := by decide +kernel
theorem dX5_rests_9 : decode cX5_rests 9 = .ok (.iconst (-1), 1) := by decide +kernel
theorem dX5_rests_10 : decode cX5_rests 10 = .ok (.invokevirtual 137, 3) := by decide +kernel
theorem dX5_rests_13 : decode cX5_rests 13 = .ok (.ireturn, 1) := by decide +kernel
theorem dX5_rests_14 : decode cX5_rests 14 = .ok (.iconst 0, 1) := by decide +kernel
theorem dX5_rests_15 : decode cX5_rests 15 = .ok (.istore_n 2, 1) := by decide +kernel
theorem dX5_rests_16 : decode cX5_rests 16 = .ok (.iconst 0, 1) := by decide +kernel
theorem dX5_rests_17 : decode cX5_rests 17 = .ok (.istore_n 3, 1) := by decide +kernel
theorem dX5_rests_18 : decode cX5_rests 18 = .ok (.iload_n 3, 1) := by decide +kernel
theorem dX5_rests_19 : decode cX5_rests 19 = .ok (.bipush 64, 2) := by decide +kernel
theorem dX5_rests_21 : decode cX5_rests 21 = .ok (.if_icmp .ge 38, 3) := by decide +kernel
theorem dX5_rests_24 : decode cX5_rests 24 = .ok (.iload_n 2, 1) := by decide +kernel
theorem dX5_rests_25 : decode cX5_rests 25 = .ok (.iload_n 3, 1) := by decide +kernel
theorem dX5_rests_26 : decode cX5_rests 26 = .ok (.aload_n 0, 1) := by decide +kernel
theorem dX5_rests_27 : decode cX5_rests 27 = .ok (.iload_n 1, 1) := by decide +kernel
theorem dX5_rests_28 : decode cX5_rests 28 = .ok (.invokevirtual 312, 3) := by decide +kernel
theorem dX5_rests_31 : decode cX5_rests 31 = .ok (.iconst (-1), 1) := by decide +kernel
theorem dX5_rests_32 : decode cX5_rests 32 = .ok (.ixor, 1) := by decide +kernel
theorem dX5_rests_33 : decode cX5_rests 33 = .ok (.iand, 1) := by decide +kernel
theorem dX5_rests_34 : decode cX5_rests 34 = .ok (.ifCond .ne 16, 3) := by decide +kernel
theorem dX5_rests_37 : decode cX5_rests 37 = .ok (.aload_n 0, 1) := by decide +kernel
theorem dX5_rests_38 : decode cX5_rests 38 = .ok (.iload_n 1, 1) := by decide +kernel
theorem dX5_rests_39 : decode cX5_rests 39 = .ok (.iload_n 3, 1) := by decide +kernel
theorem dX5_rests_40 : decode cX5_rests 40 = .ok (.invokevirtual 315, 3) := by decide +kernel
theorem dX5_rests_43 : decode cX5_rests 43 = .ok (.ifCond .eq 7, 3) := by decide +kernel
theorem dX5_rests_46 : decode cX5_rests 46 = .ok (.iconst 1, 1) := by decide +kernel
theorem dX5_rests_47 : decode cX5_rests 47 = .ok (.goto 4, 3) := by decide +kernel
theorem dX5_rests_50 : decode cX5_rests 50 = .ok (.iconst 0, 1) := by decide +kernel
theorem dX5_rests_51 : decode cX5_rests 51 = .ok (.iadd, 1) := by decide +kernel
theorem dX5_rests_52 : decode cX5_rests 52 = .ok (.istore_n 2, 1) := by decide +kernel
theorem dX5_rests_53 : decode cX5_rests 53 = .ok (.iinc 3 1, 3) := by decide +kernel
theorem dX5_rests_56 : decode cX5_rests 56 = .ok (.goto (-38), 3) := by decide +kernel
theorem dX5_rests_59 : decode cX5_rests 59 = .ok (.iload_n 2, 1) := by decide +kernel
theorem dX5_rests_60 : decode cX5_rests 60 = .ok (.ireturn, 1) := by decide +kernel
theorem dX5_rest_0 : decode cX5_rest 0 = .ok (.aload_n 0, 1) := by decide +kernel
theorem dX5_rest_1 : decode cX5_rest 1 = .ok (.iload_n 1, 1) := by decide +kernel
theorem dX5_rest_2 : decode cX5_rest 2 = .ok (.invokevirtual 228, 3) := by decide +kernel
theorem dX5_rest_5 : decode cX5_rest 5 = .ok (.ifCond .ne 9, 3) := by decide +kernel
theorem dX5_rest_8 : decode cX5_rest 8 = .ok (.aload_n 0, 1) := by decide +kernel
theorem dX5_rest_9 : decode cX5_rest 9 = .ok (.iconst (-1), 1) := by decide +kernel
theorem dX5_rest_10 : decode cX5_rest 10 = .ok (.invokevirtual 137, 3) := by decide +kernel
theorem dX5_rest_13 : decode cX5_rest 13 = .ok (.ireturn, 1) := by decide +kernel
theorem dX5_rest_14 : decode cX5_rest 14 = .ok (.iconst 0, 1) := by decide +kernel
theorem dX5_rest_15 : decode cX5_rest 15 = .ok (.istore_n 2, 1) := by decide +kernel
theorem dX5_rest_16 : decode cX5_rest 16 = .ok (.iload_n 2, 1) := by decide +kernel
theorem dX5_rest_17 : decode cX5_rest 17 = .ok (.bipush 64, 2) := by decide +kernel
theorem dX5_rest_19 : decode cX5_rest 19 = .ok (.if_icmp .ge 32, 3) := by decide +kernel
theorem dX5_rest_22 : decode cX5_rest 22 = .ok (.iload_n 2, 1) := by decide +kernel
theorem dX5_rest_23 : decode cX5_rest 23 = .ok (.aload_n 0, 1) := by decide +kernel
theorem dX5_rest_24 : decode cX5_rest 24 = .ok (.iload_n 1, 1) := by decide +kernel
theorem dX5_rest_25 : decode cX5_rest 25 = .ok (.invokevirtual 312, 3) := by decide +kernel
theorem dX5_rest_28 : decode cX5_rest 28 = .ok (.iconst (-1), 1) := by decide +kernel
theorem dX5_rest_29 : decode cX5_rest 29 = .ok (.ixor, 1) := by decide +kernel
theorem dX5_rest_30 : decode cX5_rest 30 = .ok (.iand, 1) := by decide +kernel
theorem dX5_rest_31 : decode cX5_rest 31 = .ok (.ifCond .ne 14, 3) := by decide +kernel
theorem dX5_rest_34 : decode cX5_rest 34 = .ok (.aload_n 0, 1) := by decide +kernel
theorem dX5_rest_35 : decode cX5_rest 35 = .ok (.iload_n 1, 1) := by decide +kernel
theorem dX5_rest_36 : decode cX5_rest 36 = .ok (.iload_n 2, 1) := by decide +kernel
theorem dX5_rest_37 : decode cX5_rest 37 = .ok (.invokevirtual 315, 3) := by decide +kernel
theorem dX5_rest_40 : decode cX5_rest 40 = .ok (.ifCond .eq 5, 3) := by decide +kernel
theorem dX5_rest_43 : decode cX5_rest 43 = .ok (.iload_n 2, 1) := by decide +kernel
theorem dX5_rest_44 : decode cX5_rest 44 = .ok (.ireturn, 1) := by decide +kernel
theorem dX5_rest_45 : decode cX5_rest 45 = .ok (.iinc 2 1, 3) := by decide +kernel
theorem dX5_rest_48 : decode cX5_rest 48 = .ok (.goto (-32), 3) := by decide +kernel
theorem dX5_rest_51 : decode cX5_rest 51 = .ok (.bipush (-9), 2) := by decide +kernel
theorem dX5_rest_53 : decode cX5_rest 53 = .ok (.ireturn, 1) := by decide +kernel
theorem dX5_endsOf_0 : decode cX5_endsOf 0 = .ok (.aload_n 0, 1) := by decide +kernel
theorem dX5_endsOf_1 : decode cX5_endsOf 1 = .ok (.iload_n 1, 1) := by decide +kernel
theorem dX5_endsOf_2 : decode cX5_endsOf 2 = .ok (.invokevirtual 231, 3) := by decide +kernel
theorem dX5_endsOf_5 : decode cX5_endsOf 5 = .ok (.ifCond .eq 30, 3) := by decide +kernel
theorem dX5_endsOf_8 : decode cX5_endsOf 8 = .ok (.aload_n 0, 1) := by decide +kernel
theorem dX5_endsOf_9 : decode cX5_endsOf 9 = .ok (.iload_n 1, 1) := by decide +kernel
theorem dX5_endsOf_10 : decode cX5_endsOf 10 = .ok (.aload_n 0, 1) := by decide +kernel
theorem dX5_endsOf_11 : decode cX5_endsOf 11 = .ok (.getfield 194, 3) := by decide +kernel
theorem dX5_endsOf_14 : decode cX5_endsOf 14 = .ok (.aload_n 0, 1) := by decide +kernel
theorem dX5_endsOf_15 : decode cX5_endsOf 15 = .ok (.getfield 34, 3) := by decide +kernel
theorem dX5_endsOf_18 : decode cX5_endsOf 18 = .ok (.iload_n 1, 1) := by decide +kernel
theorem dX5_endsOf_19 : decode cX5_endsOf 19 = .ok (.iaload, 1) := by decide +kernel
theorem dX5_endsOf_20 : decode cX5_endsOf 20 = .ok (.invokestatic 222, 3) := by decide +kernel
theorem dX5_endsOf_23 : decode cX5_endsOf 23 = .ok (.iconst 1, 1) := by decide +kernel
theorem dX5_endsOf_24 : decode cX5_endsOf 24 = .ok (.iadd, 1) := by decide +kernel
theorem dX5_endsOf_25 : decode cX5_endsOf 25 = .ok (.invokevirtual 225, 3) := by decide +kernel
theorem dX5_endsOf_28 : decode cX5_endsOf 28 = .ok (.ifCond .ne 7, 3) := by decide +kernel
theorem dX5_endsOf_31 : decode cX5_endsOf 31 = .ok (.iconst 1, 1) := by decide +kernel
theorem dX5_endsOf_32 : decode cX5_endsOf 32 = .ok (.goto 4, 3) := by decide +kernel
theorem dX5_endsOf_35 : decode cX5_endsOf 35 = .ok (.iconst 0, 1) := by decide +kernel
theorem dX5_endsOf_36 : decode cX5_endsOf 36 = .ok (.istore_n 2, 1) := by decide +kernel
theorem dX5_endsOf_37 : decode cX5_endsOf 37 = .ok (.iload_n 2, 1) := by decide +kernel
theorem dX5_endsOf_38 : decode cX5_endsOf 38 = .ok (.ifCond .eq 11, 3) := by decide +kernel
theorem dX5_endsOf_41 : decode cX5_endsOf 41 = .ok (.aload_n 0, 1) := by decide +kernel
theorem dX5_endsOf_42 : decode cX5_endsOf 42 = .ok (.iload_n 1, 1) := by decide +kernel
theorem dX5_endsOf_43 : decode cX5_endsOf 43 = .ok (.invokevirtual 312, 3) := by decide +kernel
theorem dX5_endsOf_46 : decode cX5_endsOf 46 = .ok (.goto 4, 3) := by decide +kernel
theorem dX5_endsOf_49 : decode cX5_endsOf 49 = .ok (.iconst 0, 1) := by decide +kernel
theorem dX5_endsOf_50 : decode cX5_endsOf 50 = .ok (.ireturn, 1) := by decide +kernel
theorem dX5_ends_0 : decode cX5_ends 0 = .ok (.aload_n 0, 1) := by decide +kernel
theorem dX5_ends_1 : decode cX5_ends 1 = .ok (.iload_n 1, 1) := by decide +kernel
theorem dX5_ends_2 : decode cX5_ends 2 = .ok (.invokevirtual 228, 3) := by decide +kernel
theorem dX5_ends_5 : decode cX5_ends 5 = .ok (.ifCond .eq 11, 3) := by decide +kernel
theorem dX5_ends_8 : decode cX5_ends 8 = .ok (.aload_n 0, 1) := by decide +kernel
theorem dX5_ends_9 : decode cX5_ends 9 = .ok (.iload_n 1, 1) := by decide +kernel
theorem dX5_ends_10 : decode cX5_ends 10 = .ok (.invokevirtual 318, 3) := by decide +kernel
theorem dX5_ends_13 : decode cX5_ends 13 = .ok (.goto 8, 3) := by decide +kernel
theorem dX5_ends_16 : decode cX5_ends 16 = .ok (.aload_n 0, 1) := by decide +kernel
theorem dX5_ends_17 : decode cX5_ends 17 = .ok (.iconst (-1), 1) := by decide +kernel
theorem dX5_ends_18 : decode cX5_ends 18 = .ok (.invokevirtual 137, 3) := by decide +kernel
theorem dX5_ends_21 : decode cX5_ends 21 = .ok (.ireturn, 1) := by decide +kernel
theorem dX5_asks_0 : decode cX5_asks 0 = .ok (.aload_n 0, 1) := by decide +kernel
theorem dX5_asks_1 : decode cX5_asks 1 = .ok (.iload_n 1, 1) := by decide +kernel
theorem dX5_asks_2 : decode cX5_asks 2 = .ok (.invokevirtual 213, 3) := by decide +kernel
theorem dX5_asks_5 : decode cX5_asks 5 = .ok (.ifCond .eq 11, 3) := by decide +kernel
theorem dX5_asks_8 : decode cX5_asks 8 = .ok (.aload_n 0, 1) := by decide +kernel
theorem dX5_asks_9 : decode cX5_asks 9 = .ok (.iload_n 2, 1) := by decide +kernel
theorem dX5_asks_10 : decode cX5_asks 10 = .ok (.invokevirtual 228, 3) := by decide +kernel
theorem dX5_asks_13 : decode cX5_asks 13 = .ok (.ifCond .ne 9, 3) := by decide +kernel
theorem dX5_asks_16 : decode cX5_asks 16 = .ok (.aload_n 0, 1) := by decide +kernel
theorem dX5_asks_17 : decode cX5_asks 17 = .ok (.iconst (-1), 1) := by decide +kernel
theorem dX5_asks_18 : decode cX5_asks 18 = .ok (.invokevirtual 137, 3) := by decide +kernel
theorem dX5_asks_21 : decode cX5_asks 21 = .ok (.ireturn, 1) := by decide +kernel
theorem dX5_asks_22 : decode cX5_asks 22 = .ok (.iload_n 3, 1) := by decide +kernel
theorem dX5_asks_23 : decode cX5_asks 23 = .ok (.iconst 1, 1) := by decide +kernel
theorem dX5_asks_24 : decode cX5_asks 24 = .ok (.if_icmp .ge 10, 3) := by decide +kernel
theorem dX5_asks_27 : decode cX5_asks 27 = .ok (.aload_n 0, 1) := by decide +kernel
theorem dX5_asks_28 : decode cX5_asks 28 = .ok (.bipush (-4), 2) := by decide +kernel
theorem dX5_asks_30 : decode cX5_asks 30 = .ok (.invokevirtual 137, 3) := by decide +kernel
theorem dX5_asks_33 : decode cX5_asks 33 = .ok (.ireturn, 1) := by decide +kernel
theorem dX5_asks_34 : decode cX5_asks 34 = .ok (.iload_n 3, 1) := by decide +kernel
theorem dX5_asks_35 : decode cX5_asks 35 = .ok (.bipush 99, 2) := by decide +kernel
theorem dX5_asks_37 : decode cX5_asks 37 = .ok (.if_icmp .le 10, 3) := by decide +kernel
theorem dX5_asks_40 : decode cX5_asks 40 = .ok (.aload_n 0, 1) := by decide +kernel
theorem dX5_asks_41 : decode cX5_asks 41 = .ok (.bipush (-6), 2) := by decide +kernel
theorem dX5_asks_43 : decode cX5_asks 43 = .ok (.invokevirtual 137, 3) := by decide +kernel
theorem dX5_asks_46 : decode cX5_asks 46 = .ok (.ireturn, 1) := by decide +kernel
theorem dX5_asks_47 : decode cX5_asks 47 = .ok (.aload_n 0, 1) := by decide +kernel
theorem dX5_asks_48 : decode cX5_asks 48 = .ok (.iload_n 1, 1) := by decide +kernel
theorem dX5_asks_49 : decode cX5_asks 49 = .ok (.iload_n 2, 1) := by decide +kernel
theorem dX5_asks_50 : decode cX5_asks 50 = .ok (.invokevirtual 207, 3) := by decide +kernel
theorem dX5_asks_53 : decode cX5_asks 53 = .ok (.ifCond .ne 10, 3) := by decide +kernel
theorem dX5_asks_56 : decode cX5_asks 56 = .ok (.aload_n 0, 1) := by decide +kernel
theorem dX5_asks_57 : decode cX5_asks 57 = .ok (.bipush (-3), 2) := by decide +kernel
theorem dX5_asks_59 : decode cX5_asks 59 = .ok (.invokevirtual 137, 3) := by decide +kernel
theorem dX5_asks_62 : decode cX5_asks 62 = .ok (.ireturn, 1) := by decide +kernel
theorem dX5_asks_63 : decode cX5_asks 63 = .ok (.lconst 0, 1) := by decide +kernel
theorem dX5_asks_64 : decode cX5_asks 64 = .ok (.lstore 4, 2) := by decide +kernel
theorem dX5_asks_66 : decode cX5_asks 66 = .ok (.iconst 0, 1) := by decide +kernel
theorem dX5_asks_67 : decode cX5_asks 67 = .ok (.istore 6, 2) := by decide +kernel
theorem dX5_asks_69 : decode cX5_asks 69 = .ok (.iload 6, 2) := by decide +kernel
theorem dX5_asks_71 : decode cX5_asks 71 = .ok (.aload_n 0, 1) := by decide +kernel
theorem dX5_asks_72 : decode cX5_asks 72 = .ok (.getfield 142, 3) := by decide +kernel
theorem dX5_asks_75 : decode cX5_asks 75 = .ok (.if_icmp .ge 53, 3) := by decide +kernel
theorem dX5_asks_78 : decode cX5_asks 78 = .ok (.lload 4, 2) := by decide +kernel
theorem dX5_asks_80 : decode cX5_asks 80 = .ok (.iload 6, 2) := by decide +kernel
theorem dX5_asks_82 : decode cX5_asks 82 = .ok (.iload_n 1, 1) := by decide +kernel
theorem dX5_asks_83 : decode cX5_asks 83 = .ok (.if_icmp .eq 35, 3) := by decide +kernel
theorem dX5_asks_86 : decode cX5_asks 86 = .ok (.aload_n 0, 1) := by decide +kernel
theorem dX5_asks_87 : decode cX5_asks 87 = .ok (.iload 6, 2) := by decide +kernel
theorem dX5_asks_89 : decode cX5_asks 89 = .ok (.iload_n 2, 1) := by decide +kernel
theorem dX5_asks_90 : decode cX5_asks 90 = .ok (.invokevirtual 207, 3) := by decide +kernel
theorem dX5_asks_93 : decode cX5_asks 93 = .ok (.ifCond .eq 25, 3) := by decide +kernel
theorem dX5_asks_96 : decode cX5_asks 96 = .ok (.ldc2_w 321, 3) := by decide +kernel
theorem dX5_asks_99 : decode cX5_asks 99 = .ok (.aload_n 0, 1) := by decide +kernel
theorem dX5_asks_100 : decode cX5_asks 100 = .ok (.iload 6, 2) := by decide +kernel
theorem dX5_asks_102 : decode cX5_asks 102 = .ok (.iload_n 2, 1) := by decide +kernel
theorem dX5_asks_103 : decode cX5_asks 103 = .ok (.invokevirtual 248, 3) := by decide +kernel
theorem dX5_asks_106 : decode cX5_asks 106 = .ok (.lmul, 1) := by decide +kernel
theorem dX5_asks_107 : decode cX5_asks 107 = .ok (.aload_n 0, 1) := by decide +kernel
theorem dX5_asks_108 : decode cX5_asks 108 = .ok (.iload 6, 2) := by decide +kernel
theorem dX5_asks_110 : decode cX5_asks 110 = .ok (.iload_n 2, 1) := by decide +kernel
theorem dX5_asks_111 : decode cX5_asks 111 = .ok (.invokevirtual 252, 3) := by decide +kernel
theorem dX5_asks_114 : decode cX5_asks 114 = .ok (.ldiv, 1) := by decide +kernel
theorem dX5_asks_115 : decode cX5_asks 115 = .ok (.goto 4, 3) := by decide +kernel
theorem dX5_asks_118 : decode cX5_asks 118 = .ok (.lconst 0, 1) := by decide +kernel
theorem dX5_asks_119 : decode cX5_asks 119 = .ok (.ladd, 1) := by decide +kernel
theorem dX5_asks_120 : decode cX5_asks 120 = .ok (.lstore 4, 2) := by decide +kernel
theorem dX5_asks_122 : decode cX5_asks 122 = .ok (.iinc 6 1, 3) := by decide +kernel
theorem dX5_asks_125 : decode cX5_asks 125 = .ok (.goto (-56), 3) := by decide +kernel
theorem dX5_asks_128 : decode cX5_asks 128 = .ok (.aload_n 0, 1) := by decide +kernel
theorem dX5_asks_129 : decode cX5_asks 129 = .ok (.iload_n 2, 1) := by decide +kernel
theorem dX5_asks_130 : decode cX5_asks 130 = .ok (.invokevirtual 318, 3) := by decide +kernel
theorem dX5_asks_133 : decode cX5_asks 133 = .ok (.iload_n 1, 1) := by decide +kernel
theorem dX5_asks_134 : decode cX5_asks 134 = .ok (.ishr, 1) := by decide +kernel
theorem dX5_asks_135 : decode cX5_asks 135 = .ok (.iconst 1, 1) := by decide +kernel
theorem dX5_asks_136 : decode cX5_asks 136 = .ok (.iand, 1) := by decide +kernel
theorem dX5_asks_137 : decode cX5_asks 137 = .ok (.iconst 1, 1) := by decide +kernel
theorem dX5_asks_138 : decode cX5_asks 138 = .ok (.if_icmp .ne 20, 3) := by decide +kernel
theorem dX5_asks_141 : decode cX5_asks 141 = .ok (.lload 4, 2) := by decide +kernel
theorem dX5_asks_143 : decode cX5_asks 143 = .ok (.lconst 0, 1) := by decide +kernel
theorem dX5_asks_144 : decode cX5_asks 144 = .ok (.lcmp, 1) := by decide +kernel
theorem dX5_asks_145 : decode cX5_asks 145 = .ok (.ifCond .ge 13, 3) := by decide +kernel
theorem dX5_asks_148 : decode cX5_asks 148 = .ok (.lload 4, 2) := by decide +kernel
theorem dX5_asks_150 : decode cX5_asks 150 = .ok (.lneg, 1) := by decide +kernel
theorem dX5_asks_151 : decode cX5_asks 151 = .ok (.iload_n 3, 1) := by decide +kernel
theorem dX5_asks_152 : decode cX5_asks 152 = .ok (.i2l, 1) := by decide +kernel
theorem dX5_asks_153 : decode cX5_asks 153 = .ok (.lmul, 1) := by decide +kernel
theorem dX5_asks_154 : decode cX5_asks 154 = .ok (.l2i, 1) := by decide +kernel
theorem dX5_asks_155 : decode cX5_asks 155 = .ok (.goto 4, 3) := by decide +kernel
theorem dX5_asks_158 : decode cX5_asks 158 = .ok (.iconst 0, 1) := by decide +kernel
theorem dX5_asks_159 : decode cX5_asks 159 = .ok (.ireturn, 1) := by decide +kernel
theorem dX5_power_0 : decode cX5_power 0 = .ok (.aload_n 0, 1) := by decide +kernel
theorem dX5_power_1 : decode cX5_power 1 = .ok (.iload_n 1, 1) := by decide +kernel
theorem dX5_power_2 : decode cX5_power 2 = .ok (.invokevirtual 213, 3) := by decide +kernel
theorem dX5_power_5 : decode cX5_power 5 = .ok (.ifCond .eq 11, 3) := by decide +kernel
theorem dX5_power_8 : decode cX5_power 8 = .ok (.aload_n 0, 1) := by decide +kernel
theorem dX5_power_9 : decode cX5_power 9 = .ok (.iload_n 2, 1) := by decide +kernel
theorem dX5_power_10 : decode cX5_power 10 = .ok (.invokevirtual 228, 3) := by decide +kernel
theorem dX5_power_13 : decode cX5_power 13 = .ok (.ifCond .ne 9, 3) := by decide +kernel
theorem dX5_power_16 : decode cX5_power 16 = .ok (.aload_n 0, 1) := by decide +kernel
theorem dX5_power_17 : decode cX5_power 17 = .ok (.iconst (-1), 1) := by decide +kernel
theorem dX5_power_18 : decode cX5_power 18 = .ok (.invokevirtual 137, 3) := by decide +kernel
theorem dX5_power_21 : decode cX5_power 21 = .ok (.ireturn, 1) := by decide +kernel
theorem dX5_power_22 : decode cX5_power 22 = .ok (.iload_n 3, 1) := by decide +kernel
theorem dX5_power_23 : decode cX5_power 23 = .ok (.iconst 0, 1) := by decide +kernel
theorem dX5_power_24 : decode cX5_power 24 = .ok (.iconst 1, 1) := by decide +kernel
theorem dX5_power_25 : decode cX5_power 25 = .ok (.invokestatic 145, 3) := by decide +kernel
theorem dX5_power_28 : decode cX5_power 28 = .ok (.ifCond .ne 10, 3) := by decide +kernel
theorem dX5_power_31 : decode cX5_power 31 = .ok (.aload_n 0, 1) := by decide +kernel
theorem dX5_power_32 : decode cX5_power 32 = .ok (.bipush (-2), 2) := by decide +kernel
theorem dX5_power_34 : decode cX5_power 34 = .ok (.invokevirtual 137, 3) := by decide +kernel
theorem dX5_power_37 : decode cX5_power 37 = .ok (.ireturn, 1) := by decide +kernel
theorem dX5_power_38 : decode cX5_power 38 = .ok (.aload_n 0, 1) := by decide +kernel
theorem dX5_power_39 : decode cX5_power 39 = .ok (.iload_n 1, 1) := by decide +kernel
theorem dX5_power_40 : decode cX5_power 40 = .ok (.iload_n 2, 1) := by decide +kernel
theorem dX5_power_41 : decode cX5_power 41 = .ok (.invokevirtual 207, 3) := by decide +kernel
theorem dX5_power_44 : decode cX5_power 44 = .ok (.ifCond .eq 12, 3) := by decide +kernel
theorem dX5_power_47 : decode cX5_power 47 = .ok (.aload_n 0, 1) := by decide +kernel
theorem dX5_power_48 : decode cX5_power 48 = .ok (.iload_n 1, 1) := by decide +kernel
theorem dX5_power_49 : decode cX5_power 49 = .ok (.iload_n 2, 1) := by decide +kernel
theorem dX5_power_50 : decode cX5_power 50 = .ok (.invokevirtual 210, 3) := by decide +kernel
theorem dX5_power_53 : decode cX5_power 53 = .ok (.ifCond .eq 10, 3) := by decide +kernel
theorem dX5_power_56 : decode cX5_power 56 = .ok (.aload_n 0, 1) := by decide +kernel
theorem dX5_power_57 : decode cX5_power 57 = .ok (.bipush (-3), 2) := by decide +kernel
theorem dX5_power_59 : decode cX5_power 59 = .ok (.invokevirtual 137, 3) := by decide +kernel
theorem dX5_power_62 : decode cX5_power 62 = .ok (.ireturn, 1) := by decide +kernel
theorem dX5_power_63 : decode cX5_power 63 = .ok (.aload_n 0, 1) := by decide +kernel
theorem dX5_power_64 : decode cX5_power 64 = .ok (.getfield 194, 3) := by decide +kernel
theorem dX5_power_67 : decode cX5_power 67 = .ok (.iconst 4, 1) := by decide +kernel
theorem dX5_power_68 : decode cX5_power 68 = .ok (.if_icmp .eq 11, 3) := by decide +kernel
theorem dX5_power_71 : decode cX5_power 71 = .ok (.aload_n 0, 1) := by decide +kernel
theorem dX5_power_72 : decode cX5_power 72 = .ok (.iload_n 2, 1) := by decide +kernel
theorem dX5_power_73 : decode cX5_power 73 = .ok (.invokevirtual 231, 3) := by decide +kernel
theorem dX5_power_76 : decode cX5_power 76 = .ok (.ifCond .ne 7, 3) := by decide +kernel
theorem dX5_power_79 : decode cX5_power 79 = .ok (.iconst 1, 1) := by decide +kernel
theorem dX5_power_80 : decode cX5_power 80 = .ok (.goto 4, 3) := by decide +kernel
theorem dX5_power_83 : decode cX5_power 83 = .ok (.iconst 0, 1) := by decide +kernel
theorem dX5_power_84 : decode cX5_power 84 = .ok (.istore 4, 2) := by decide +kernel
theorem dX5_power_86 : decode cX5_power 86 = .ok (.iload_n 3, 1) := by decide +kernel
theorem dX5_power_87 : decode cX5_power 87 = .ok (.ifCond .ne 16, 3) := by decide +kernel
theorem dX5_power_90 : decode cX5_power 90 = .ok (.iload 4, 2) := by decide +kernel
theorem dX5_power_92 : decode cX5_power 92 = .ok (.ifCond .eq 7, 3) := by decide +kernel
theorem dX5_power_95 : decode cX5_power 95 = .ok (.iconst 0, 1) := by decide +kernel
theorem dX5_power_96 : decode cX5_power 96 = .ok (.goto 24, 3) := by decide +kernel
theorem dX5_power_99 : decode cX5_power 99 = .ok (.iconst 1, 1) := by decide +kernel
theorem dX5_power_100 : decode cX5_power 100 = .ok (.goto 20, 3) := by decide +kernel
theorem dX5_power_103 : decode cX5_power 103 = .ok (.iload 4, 2) := by decide +kernel
theorem dX5_power_105 : decode cX5_power 105 = .ok (.ifCond .eq 7, 3) := by decide +kernel
theorem dX5_power_108 : decode cX5_power 108 = .ok (.iconst 1, 1) := by decide +kernel
theorem dX5_power_109 : decode cX5_power 109 = .ok (.goto 11, 3) := by decide +kernel
theorem dX5_power_112 : decode cX5_power 112 = .ok (.aload_n 0, 1) := by decide +kernel
theorem dX5_power_113 : decode cX5_power 113 = .ok (.iload_n 2, 1) := by decide +kernel
theorem dX5_power_114 : decode cX5_power 114 = .ok (.invokevirtual 312, 3) := by decide +kernel
theorem dX5_power_117 : decode cX5_power 117 = .ok (.invokestatic 222, 3) := by decide +kernel
theorem dX5_power_120 : decode cX5_power 120 = .ok (.ireturn, 1) := by decide +kernel
theorem dX5_power0_0 : decode cX5_power0 0 = .ok (.lconst 1, 1) := by decide +kernel
theorem dX5_power0_1 : decode cX5_power0 1 = .ok (.lstore_n 3, 1) := by decide +kernel
theorem dX5_power0_2 : decode cX5_power0 2 = .ok (.iconst 0, 1) := by decide +kernel
theorem dX5_power0_3 : decode cX5_power0 3 = .ok (.istore 5, 2) := by decide +kernel
theorem dX5_power0_5 : decode cX5_power0 5 = .ok (.iload 5, 2) := by decide +kernel
theorem dX5_power0_7 : decode cX5_power0 7 = .ok (.iload_n 2, 1) := by decide +kernel
theorem dX5_power0_8 : decode cX5_power0 8 = .ok (.if_icmp .ge 13, 3) := by decide +kernel
theorem dX5_power0_11 : decode cX5_power0 11 = .ok (.lload_n 3, 1) := by decide +kernel
theorem dX5_power0_12 : decode cX5_power0 12 = .ok (.lload_n 0, 1) := by decide +kernel
theorem dX5_power0_13 : decode cX5_power0 13 = .ok (.lmul, 1) := by decide +kernel
theorem dX5_power0_14 : decode cX5_power0 14 = .ok (.lstore_n 3, 1) := by decide +kernel
theorem dX5_power0_15 : decode cX5_power0 15 = .ok (.iinc 5 1, 3) := by decide +kernel
theorem dX5_power0_18 : decode cX5_power0 18 = .ok (.goto (-13), 3) := by decide +kernel
theorem dX5_power0_21 : decode cX5_power0 21 = .ok (.lload_n 3, 1) := by decide +kernel
theorem dX5_power0_22 : decode cX5_power0 22 = .ok (.lreturn, 1) := by decide +kernel
theorem dX5_chance_0 : decode cX5_chance 0 = .ok (.aload_n 0, 1) := by decide +kernel
theorem dX5_chance_1 : decode cX5_chance 1 = .ok (.iload_n 1, 1) := by decide +kernel
theorem dX5_chance_2 : decode cX5_chance 2 = .ok (.invokevirtual 228, 3) := by decide +kernel
theorem dX5_chance_5 : decode cX5_chance 5 = .ok (.ifCond .ne 9, 3) := by decide +kernel
theorem dX5_chance_8 : decode cX5_chance 8 = .ok (.aload_n 0, 1) := by decide +kernel
theorem dX5_chance_9 : decode cX5_chance 9 = .ok (.iconst (-1), 1) := by decide +kernel
theorem dX5_chance_10 : decode cX5_chance 10 = .ok (.invokevirtual 244, 3) := by decide +kernel
theorem dX5_chance_13 : decode cX5_chance 13 = .ok (.lreturn, 1) := by decide +kernel
theorem dX5_chance_14 : decode cX5_chance 14 = .ok (.iload 4, 2) := by decide +kernel
theorem dX5_chance_16 : decode cX5_chance 16 = .ok (.iconst 0, 1) := by decide +kernel
theorem dX5_chance_17 : decode cX5_chance 17 = .ok (.iconst 1, 1) := by decide +kernel
theorem dX5_chance_18 : decode cX5_chance 18 = .ok (.invokestatic 145, 3) := by decide +kernel
theorem dX5_chance_21 : decode cX5_chance 21 = .ok (.ifCond .ne 10, 3) := by decide +kernel
theorem dX5_chance_24 : decode cX5_chance 24 = .ok (.aload_n 0, 1) := by decide +kernel
theorem dX5_chance_25 : decode cX5_chance 25 = .ok (.bipush (-2), 2) := by decide +kernel
theorem dX5_chance_27 : decode cX5_chance 27 = .ok (.invokevirtual 244, 3) := by decide +kernel
theorem dX5_chance_30 : decode cX5_chance 30 = .ok (.lreturn, 1) := by decide +kernel
theorem dX5_chance_31 : decode cX5_chance 31 = .ok (.iload_n 2, 1) := by decide +kernel
theorem dX5_chance_32 : decode cX5_chance 32 = .ok (.ifCond .lt 7, 3) := by decide +kernel
theorem dX5_chance_35 : decode cX5_chance 35 = .ok (.iload_n 3, 1) := by decide +kernel
theorem dX5_chance_36 : decode cX5_chance 36 = .ok (.ifCond .ge 10, 3) := by decide +kernel
theorem dX5_chance_39 : decode cX5_chance 39 = .ok (.aload_n 0, 1) := by decide +kernel
theorem dX5_chance_40 : decode cX5_chance 40 = .ok (.bipush (-4), 2) := by decide +kernel
theorem dX5_chance_42 : decode cX5_chance 42 = .ok (.invokevirtual 244, 3) := by decide +kernel
theorem dX5_chance_45 : decode cX5_chance 45 = .ok (.lreturn, 1) := by decide +kernel
theorem dX5_chance_46 : decode cX5_chance 46 = .ok (.aload_n 0, 1) := by decide +kernel
theorem dX5_chance_47 : decode cX5_chance 47 = .ok (.iload_n 1, 1) := by decide +kernel
theorem dX5_chance_48 : decode cX5_chance 48 = .ok (.invokevirtual 312, 3) := by decide +kernel
theorem dX5_chance_51 : decode cX5_chance 51 = .ok (.invokestatic 222, 3) := by decide +kernel
theorem dX5_chance_54 : decode cX5_chance 54 = .ok (.istore 5, 2) := by decide +kernel
theorem dX5_chance_56 : decode cX5_chance 56 = .ok (.iload_n 2, 1) := by decide +kernel
theorem dX5_chance_57 : decode cX5_chance 57 = .ok (.bipush 100, 2) := by decide +kernel
theorem dX5_chance_59 : decode cX5_chance 59 = .ok (.if_icmp .gt 18, 3) := by decide +kernel
theorem dX5_chance_62 : decode cX5_chance 62 = .ok (.iload_n 3, 1) := by decide +kernel
theorem dX5_chance_63 : decode cX5_chance 63 = .ok (.bipush 8, 2) := by decide +kernel
theorem dX5_chance_65 : decode cX5_chance 65 = .ok (.if_icmp .gt 12, 3) := by decide +kernel
theorem dX5_chance_68 : decode cX5_chance 68 = .ok (.iload_n 3, 1) := by decide +kernel
theorem dX5_chance_69 : decode cX5_chance 69 = .ok (.iload 5, 2) := by decide +kernel
theorem dX5_chance_71 : decode cX5_chance 71 = .ok (.imul, 1) := by decide +kernel
theorem dX5_chance_72 : decode cX5_chance 72 = .ok (.bipush 8, 2) := by decide +kernel
theorem dX5_chance_74 : decode cX5_chance 74 = .ok (.if_icmp .le 10, 3) := by decide +kernel
theorem dX5_chance_77 : decode cX5_chance 77 = .ok (.aload_n 0, 1) := by decide +kernel
theorem dX5_chance_78 : decode cX5_chance 78 = .ok (.bipush (-6), 2) := by decide +kernel
theorem dX5_chance_80 : decode cX5_chance 80 = .ok (.invokevirtual 244, 3) := by decide +kernel
theorem dX5_chance_83 : decode cX5_chance 83 = .ok (.lreturn, 1) := by decide +kernel
theorem dX5_chance_84 : decode cX5_chance 84 = .ok (.ldc2_w 323, 3) := by decide +kernel
theorem dX5_chance_87 : decode cX5_chance 87 = .ok (.iload_n 2, 1) := by decide +kernel
theorem dX5_chance_88 : decode cX5_chance 88 = .ok (.i2l, 1) := by decide +kernel
theorem dX5_chance_89 : decode cX5_chance 89 = .ok (.lsub, 1) := by decide +kernel
theorem dX5_chance_90 : decode cX5_chance 90 = .ok (.iload_n 3, 1) := by decide +kernel
theorem dX5_chance_91 : decode cX5_chance 91 = .ok (.invokestatic 325, 3) := by decide +kernel
theorem dX5_chance_94 : decode cX5_chance 94 = .ok (.lstore 6, 2) := by decide +kernel
theorem dX5_chance_96 : decode cX5_chance 96 = .ok (.ldc2_w 323, 3) := by decide +kernel
theorem dX5_chance_99 : decode cX5_chance 99 = .ok (.iload_n 3, 1) := by decide +kernel
theorem dX5_chance_100 : decode cX5_chance 100 = .ok (.invokestatic 325, 3) := by decide +kernel
theorem dX5_chance_103 : decode cX5_chance 103 = .ok (.lload 6, 2) := by decide +kernel
theorem dX5_chance_105 : decode cX5_chance 105 = .ok (.lsub, 1) := by decide +kernel
theorem dX5_chance_106 : decode cX5_chance 106 = .ok (.lstore 8, 2) := by decide +kernel
theorem dX5_chance_108 : decode cX5_chance 108 = .ok (.lconst 0, 1) := by decide +kernel
theorem dX5_chance_109 : decode cX5_chance 109 = .ok (.lstore 10, 2) := by decide +kernel
theorem dX5_chance_111 : decode cX5_chance 111 = .ok (.lconst 1, 1) := by decide +kernel
theorem dX5_chance_112 : decode cX5_chance 112 = .ok (.lstore 12, 2) := by decide +kernel
theorem dX5_chance_114 : decode cX5_chance 114 = .ok (.iconst 0, 1) := by decide +kernel
theorem dX5_chance_115 : decode cX5_chance 115 = .ok (.istore 14, 2) := by decide +kernel
theorem dX5_chance_117 : decode cX5_chance 117 = .ok (.iload 14, 2) := by decide +kernel
theorem dX5_chance_119 : decode cX5_chance 119 = .ok (.iload 5, 2) := by decide +kernel
theorem dX5_chance_121 : decode cX5_chance 121 = .ok (.if_icmp .gt 80, 3) := by decide +kernel
theorem dX5_chance_124 : decode cX5_chance 124 = .ok (.lload 10, 2) := by decide +kernel
theorem dX5_chance_126 : decode cX5_chance 126 = .ok (.aload_n 0, 1) := by decide +kernel
theorem dX5_chance_127 : decode cX5_chance 127 = .ok (.iload_n 1, 1) := by decide +kernel
theorem dX5_chance_128 : decode cX5_chance 128 = .ok (.aload_n 0, 1) := by decide +kernel
theorem dX5_chance_129 : decode cX5_chance 129 = .ok (.getfield 194, 3) := by decide +kernel
theorem dX5_chance_132 : decode cX5_chance 132 = .ok (.aload_n 0, 1) := by decide +kernel
theorem dX5_chance_133 : decode cX5_chance 133 = .ok (.getfield 34, 3) := by decide +kernel
theorem dX5_chance_136 : decode cX5_chance 136 = .ok (.iload_n 1, 1) := by decide +kernel
theorem dX5_chance_137 : decode cX5_chance 137 = .ok (.iaload, 1) := by decide +kernel
theorem dX5_chance_138 : decode cX5_chance 138 = .ok (.invokestatic 222, 3) := by decide +kernel
theorem dX5_chance_141 : decode cX5_chance 141 = .ok (.iload 14, 2) := by decide +kernel
theorem dX5_chance_143 : decode cX5_chance 143 = .ok (.iadd, 1) := by decide +kernel
theorem dX5_chance_144 : decode cX5_chance 144 = .ok (.invokevirtual 225, 3) := by decide +kernel
theorem dX5_chance_147 : decode cX5_chance 147 = .ok (.ifCond .eq 27, 3) := by decide +kernel
theorem dX5_chance_150 : decode cX5_chance 150 = .ok (.lload 12, 2) := by decide +kernel
theorem dX5_chance_152 : decode cX5_chance 152 = .ok (.lload 8, 2) := by decide +kernel
theorem dX5_chance_154 : decode cX5_chance 154 = .ok (.iload 14, 2) := by decide +kernel
theorem dX5_chance_156 : decode cX5_chance 156 = .ok (.invokestatic 325, 3) := by decide +kernel
theorem dX5_chance_159 : decode cX5_chance 159 = .ok (.lmul, 1) := by decide +kernel
theorem dX5_chance_160 : decode cX5_chance 160 = .ok (.lload 6, 2) := by decide +kernel
theorem dX5_chance_162 : decode cX5_chance 162 = .ok (.iload 5, 2) := by decide +kernel
theorem dX5_chance_164 : decode cX5_chance 164 = .ok (.iload 14, 2) := by decide +kernel
theorem dX5_chance_166 : decode cX5_chance 166 = .ok (.isub, 1) := by decide +kernel
theorem dX5_chance_167 : decode cX5_chance 167 = .ok (.invokestatic 325, 3) := by decide +kernel
theorem dX5_chance_170 : decode cX5_chance 170 = .ok (.lmul, 1) := by decide +kernel
theorem dX5_chance_171 : decode cX5_chance 171 = .ok (.goto 4, 3) := by decide +kernel
theorem dX5_chance_174 : decode cX5_chance 174 = .ok (.lconst 0, 1) := by decide +kernel
theorem dX5_chance_175 : decode cX5_chance 175 = .ok (.ladd, 1) := by decide +kernel
theorem dX5_chance_176 : decode cX5_chance 176 = .ok (.lstore 10, 2) := by decide +kernel
theorem dX5_chance_178 : decode cX5_chance 178 = .ok (.lload 12, 2) := by decide +kernel
theorem dX5_chance_180 : decode cX5_chance 180 = .ok (.iload 5, 2) := by decide +kernel
theorem dX5_chance_182 : decode cX5_chance 182 = .ok (.iload 14, 2) := by decide +kernel
theorem dX5_chance_184 : decode cX5_chance 184 = .ok (.isub, 1) := by decide +kernel
theorem dX5_chance_185 : decode cX5_chance 185 = .ok (.i2l, 1) := by decide +kernel
theorem dX5_chance_186 : decode cX5_chance 186 = .ok (.lmul, 1) := by decide +kernel
theorem dX5_chance_187 : decode cX5_chance 187 = .ok (.iload 14, 2) := by decide +kernel
theorem dX5_chance_189 : decode cX5_chance 189 = .ok (.iconst 1, 1) := by decide +kernel
theorem dX5_chance_190 : decode cX5_chance 190 = .ok (.iadd, 1) := by decide +kernel
theorem dX5_chance_191 : decode cX5_chance 191 = .ok (.i2l, 1) := by decide +kernel
theorem dX5_chance_192 : decode cX5_chance 192 = .ok (.ldiv, 1) := by decide +kernel
theorem dX5_chance_193 : decode cX5_chance 193 = .ok (.lstore 12, 2) := by decide +kernel
theorem dX5_chance_195 : decode cX5_chance 195 = .ok (.iinc 14 1, 3) := by decide +kernel
theorem dX5_chance_198 : decode cX5_chance 198 = .ok (.goto (-81), 3) := by decide +kernel
theorem dX5_chance_201 : decode cX5_chance 201 = .ok (.lload 10, 2) := by decide +kernel
theorem dX5_chance_203 : decode cX5_chance 203 = .ok (.ldc2_w 323, 3) := by decide +kernel
theorem dX5_chance_206 : decode cX5_chance 206 = .ok (.iload_n 3, 1) := by decide +kernel
theorem dX5_chance_207 : decode cX5_chance 207 = .ok (.iload 5, 2) := by decide +kernel
theorem dX5_chance_209 : decode cX5_chance 209 = .ok (.imul, 1) := by decide +kernel
theorem dX5_chance_210 : decode cX5_chance 210 = .ok (.invokestatic 325, 3) := by decide +kernel
theorem dX5_chance_213 : decode cX5_chance 213 = .ok (.iload 4, 2) := by decide +kernel
theorem dX5_chance_215 : decode cX5_chance 215 = .ok (.invokestatic 255, 3) := by decide +kernel
theorem dX5_chance_218 : decode cX5_chance 218 = .ok (.lreturn, 1) := by decide +kernel
theorem dX5_lawFor_0 : decode cX5_lawFor 0 = .ok (.aload_n 0, 1) := by decide +kernel
theorem dX5_lawFor_1 : decode cX5_lawFor 1 = .ok (.getfield 194, 3) := by decide +kernel
theorem dX5_lawFor_4 : decode cX5_lawFor 4 = .ok (.istore_n 3, 1) := by decide +kernel
theorem dX5_lawFor_5 : decode cX5_lawFor 5 = .ok (.aload_n 0, 1) := by decide +kernel
theorem dX5_lawFor_6 : decode cX5_lawFor 6 = .ok (.invokevirtual 288, 3) := by decide +kernel
theorem dX5_lawFor_9 : decode cX5_lawFor 9 = .ok (.aload_n 0, 1) := by decide +kernel
theorem dX5_lawFor_10 : decode cX5_lawFor 10 = .ok (.iload_n 1, 1) := by decide +kernel
theorem dX5_lawFor_11 : decode cX5_lawFor 11 = .ok (.putfield 194, 3) := by decide +kernel
theorem dX5_lawFor_14 : decode cX5_lawFor 14 = .ok (.iconst 0, 1) := by decide +kernel
theorem dX5_lawFor_15 : decode cX5_lawFor 15 = .ok (.istore 4, 2) := by decide +kernel
theorem dX5_lawFor_17 : decode cX5_lawFor 17 = .ok (.iload 4, 2) := by decide +kernel
theorem dX5_lawFor_19 : decode cX5_lawFor 19 = .ok (.iconst 5, 1) := by decide +kernel
theorem dX5_lawFor_20 : decode cX5_lawFor 20 = .ok (.if_icmp .ge 23, 3) := by decide +kernel
theorem dX5_lawFor_23 : decode cX5_lawFor 23 = .ok (.aload_n 0, 1) := by decide +kernel
theorem dX5_lawFor_24 : decode cX5_lawFor 24 = .ok (.getfield 93, 3) := by decide +kernel
theorem dX5_lawFor_27 : decode cX5_lawFor 27 = .ok (.iload 4, 2) := by decide +kernel
theorem dX5_lawFor_29 : decode cX5_lawFor 29 = .ok (.aload_n 0, 1) := by decide +kernel
theorem dX5_lawFor_30 : decode cX5_lawFor 30 = .ok (.getfield 40, 3) := by decide +kernel
theorem dX5_lawFor_33 : decode cX5_lawFor 33 = .ok (.iload 4, 2) := by decide +kernel
theorem dX5_lawFor_35 : decode cX5_lawFor 35 = .ok (.iaload, 1) := by decide +kernel
theorem dX5_lawFor_36 : decode cX5_lawFor 36 = .ok (.iastore, 1) := by decide +kernel
theorem dX5_lawFor_37 : decode cX5_lawFor 37 = .ok (.iinc 4 1, 3) := by decide +kernel
theorem dX5_lawFor_40 : decode cX5_lawFor 40 = .ok (.goto (-23), 3) := by decide +kernel
theorem dX5_lawFor_43 : decode cX5_lawFor 43 = .ok (.iconst 0, 1) := by decide +kernel
theorem dX5_lawFor_44 : decode cX5_lawFor 44 = .ok (.istore 4, 2) := by decide +kernel
theorem dX5_lawFor_46 : decode cX5_lawFor 46 = .ok (.iload 4, 2) := by decide +kernel
theorem dX5_lawFor_48 : decode cX5_lawFor 48 = .ok (.iload_n 2, 1) := by decide +kernel
theorem dX5_lawFor_49 : decode cX5_lawFor 49 = .ok (.if_icmp .ge 13, 3) := by decide +kernel
theorem dX5_lawFor_52 : decode cX5_lawFor 52 = .ok (.aload_n 0, 1) := by decide +kernel
theorem dX5_lawFor_53 : decode cX5_lawFor 53 = .ok (.invokevirtual 279, 3) := by decide +kernel
theorem dX5_lawFor_56 : decode cX5_lawFor 56 = .ok (.iinc 4 1, 3) := by decide +kernel
theorem dX5_lawFor_59 : decode cX5_lawFor 59 = .ok (.goto (-13), 3) := by decide +kernel
theorem dX5_lawFor_62 : decode cX5_lawFor 62 = .ok (.iconst 0, 1) := by decide +kernel
theorem dX5_lawFor_63 : decode cX5_lawFor 63 = .ok (.istore 4, 2) := by decide +kernel
theorem dX5_lawFor_65 : decode cX5_lawFor 65 = .ok (.iload 4, 2) := by decide +kernel
theorem dX5_lawFor_67 : decode cX5_lawFor 67 = .ok (.iconst 5, 1) := by decide +kernel
theorem dX5_lawFor_68 : decode cX5_lawFor 68 = .ok (.if_icmp .ge 31, 3) := by decide +kernel
theorem dX5_lawFor_71 : decode cX5_lawFor 71 = .ok (.aload_n 0, 1) := by decide +kernel
theorem dX5_lawFor_72 : decode cX5_lawFor 72 = .ok (.getfield 93, 3) := by decide +kernel
theorem dX5_lawFor_75 : decode cX5_lawFor 75 = .ok (.iload 4, 2) := by decide +kernel
theorem dX5_lawFor_77 : decode cX5_lawFor 77 = .ok (.aload_n 0, 1) := by decide +kernel
theorem dX5_lawFor_78 : decode cX5_lawFor 78 = .ok (.getfield 40, 3) := by decide +kernel
theorem dX5_lawFor_81 : decode cX5_lawFor 81 = .ok (.iload 4, 2) := by decide +kernel
theorem dX5_lawFor_83 : decode cX5_lawFor 83 = .ok (.iaload, 1) := by decide +kernel
theorem dX5_lawFor_84 : decode cX5_lawFor 84 = .ok (.aload_n 0, 1) := by decide +kernel
theorem dX5_lawFor_85 : decode cX5_lawFor 85 = .ok (.getfield 93, 3) := by decide +kernel
theorem dX5_lawFor_88 : decode cX5_lawFor 88 = .ok (.iload 4, 2) := by decide +kernel
theorem dX5_lawFor_90 : decode cX5_lawFor 90 = .ok (.iaload, 1) := by decide +kernel
theorem dX5_lawFor_91 : decode cX5_lawFor 91 = .ok (.isub, 1) := by decide +kernel
theorem dX5_lawFor_92 : decode cX5_lawFor 92 = .ok (.iastore, 1) := by decide +kernel
theorem dX5_lawFor_93 : decode cX5_lawFor 93 = .ok (.iinc 4 1, 3) := by decide +kernel
theorem dX5_lawFor_96 : decode cX5_lawFor 96 = .ok (.goto (-31), 3) := by decide +kernel
theorem dX5_lawFor_99 : decode cX5_lawFor 99 = .ok (.aload_n 0, 1) := by decide +kernel
theorem dX5_lawFor_100 : decode cX5_lawFor 100 = .ok (.invokevirtual 291, 3) := by decide +kernel
theorem dX5_lawFor_103 : decode cX5_lawFor 103 = .ok (.aload_n 0, 1) := by decide +kernel
theorem dX5_lawFor_104 : decode cX5_lawFor 104 = .ok (.iload_n 3, 1) := by decide +kernel
theorem dX5_lawFor_105 : decode cX5_lawFor 105 = .ok (.putfield 194, 3) := by decide +kernel
theorem dX5_lawFor_108 : decode cX5_lawFor 108 = .ok (.return_, 1) := by decide +kernel
theorem dX5_laws_0 : decode cX5_laws 0 = .ok (.aload_n 0, 1) := by decide +kernel
theorem dX5_laws_1 : decode cX5_laws 1 = .ok (.iload_n 1, 1) := by decide +kernel
theorem dX5_laws_2 : decode cX5_laws 2 = .ok (.invokevirtual 228, 3) := by decide +kernel
theorem dX5_laws_5 : decode cX5_laws 5 = .ok (.ifCond .ne 9, 3) := by decide +kernel
theorem dX5_laws_8 : decode cX5_laws 8 = .ok (.aload_n 0, 1) := by decide +kernel
theorem dX5_laws_9 : decode cX5_laws 9 = .ok (.iconst (-1), 1) := by decide +kernel
theorem dX5_laws_10 : decode cX5_laws 10 = .ok (.invokevirtual 137, 3) := by decide +kernel
theorem dX5_laws_13 : decode cX5_laws 13 = .ok (.ireturn, 1) := by decide +kernel
theorem dX5_laws_14 : decode cX5_laws 14 = .ok (.iload_n 2, 1) := by decide +kernel
theorem dX5_laws_15 : decode cX5_laws 15 = .ok (.iconst 0, 1) := by decide +kernel
theorem dX5_laws_16 : decode cX5_laws 16 = .ok (.iconst 4, 1) := by decide +kernel
theorem dX5_laws_17 : decode cX5_laws 17 = .ok (.invokestatic 145, 3) := by decide +kernel
theorem dX5_laws_20 : decode cX5_laws 20 = .ok (.ifCond .ne 10, 3) := by decide +kernel
theorem dX5_laws_23 : decode cX5_laws 23 = .ok (.aload_n 0, 1) := by decide +kernel
theorem dX5_laws_24 : decode cX5_laws 24 = .ok (.bipush (-2), 2) := by decide +kernel
theorem dX5_laws_26 : decode cX5_laws 26 = .ok (.invokevirtual 137, 3) := by decide +kernel
theorem dX5_laws_29 : decode cX5_laws 29 = .ok (.ireturn, 1) := by decide +kernel
theorem dX5_laws_30 : decode cX5_laws 30 = .ok (.iload_n 3, 1) := by decide +kernel
theorem dX5_laws_31 : decode cX5_laws 31 = .ok (.iconst 1, 1) := by decide +kernel
theorem dX5_laws_32 : decode cX5_laws 32 = .ok (.if_icmp .ge 10, 3) := by decide +kernel
theorem dX5_laws_35 : decode cX5_laws 35 = .ok (.aload_n 0, 1) := by decide +kernel
theorem dX5_laws_36 : decode cX5_laws 36 = .ok (.bipush (-4), 2) := by decide +kernel
theorem dX5_laws_38 : decode cX5_laws 38 = .ok (.invokevirtual 137, 3) := by decide +kernel
theorem dX5_laws_41 : decode cX5_laws 41 = .ok (.ireturn, 1) := by decide +kernel
theorem dX5_laws_42 : decode cX5_laws 42 = .ok (.iload_n 3, 1) := by decide +kernel
theorem dX5_laws_43 : decode cX5_laws 43 = .ok (.bipush 60, 2) := by decide +kernel
theorem dX5_laws_45 : decode cX5_laws 45 = .ok (.if_icmp .le 10, 3) := by decide +kernel
theorem dX5_laws_48 : decode cX5_laws 48 = .ok (.aload_n 0, 1) := by decide +kernel
theorem dX5_laws_49 : decode cX5_laws 49 = .ok (.bipush (-6), 2) := by decide +kernel
theorem dX5_laws_51 : decode cX5_laws 51 = .ok (.invokevirtual 137, 3) := by decide +kernel
theorem dX5_laws_54 : decode cX5_laws 54 = .ok (.ireturn, 1) := by decide +kernel
theorem dX5_laws_55 : decode cX5_laws 55 = .ok (.aload_n 0, 1) := by decide +kernel
theorem dX5_laws_56 : decode cX5_laws 56 = .ok (.iload_n 2, 1) := by decide +kernel
theorem dX5_laws_57 : decode cX5_laws 57 = .ok (.iload_n 3, 1) := by decide +kernel
theorem dX5_laws_58 : decode cX5_laws 58 = .ok (.invokevirtual 329, 3) := by decide +kernel
theorem dX5_laws_61 : decode cX5_laws 61 = .ok (.aload_n 0, 1) := by decide +kernel
theorem dX5_laws_62 : decode cX5_laws 62 = .ok (.getfield 93, 3) := by decide +kernel
theorem dX5_laws_65 : decode cX5_laws 65 = .ok (.iload_n 1, 1) := by decide +kernel
theorem dX5_laws_66 : decode cX5_laws 66 = .ok (.iaload, 1) := by decide +kernel
theorem dX5_laws_67 : decode cX5_laws 67 = .ok (.ireturn, 1) := by decide +kernel
theorem dX5_lasting_0 : decode cX5_lasting 0 = .ok (.iload_n 1, 1) := by decide +kernel
theorem dX5_lasting_1 : decode cX5_lasting 1 = .ok (.iconst 1, 1) := by decide +kernel
theorem dX5_lasting_2 : decode cX5_lasting 2 = .ok (.if_icmp .ge 10, 3) := by decide +kernel
theorem dX5_lasting_5 : decode cX5_lasting 5 = .ok (.aload_n 0, 1) := by decide +kernel
theorem dX5_lasting_6 : decode cX5_lasting 6 = .ok (.bipush (-4), 2) := by decide +kernel
theorem dX5_lasting_8 : decode cX5_lasting 8 = .ok (.invokevirtual 137, 3) := by decide +kernel
theorem dX5_lasting_11 : decode cX5_lasting 11 = .ok (.ireturn, 1) := by decide +kernel
theorem dX5_lasting_12 : decode cX5_lasting 12 = .ok (.iload_n 1, 1) := by decide +kernel
theorem dX5_lasting_13 : decode cX5_lasting 13 = .ok (.bipush 60, 2) := by decide +kernel
theorem dX5_lasting_15 : decode cX5_lasting 15 = .ok (.if_icmp .le 10, 3) := by decide +kernel
theorem dX5_lasting_18 : decode cX5_lasting 18 = .ok (.aload_n 0, 1) := by decide +kernel
theorem dX5_lasting_19 : decode cX5_lasting 19 = .ok (.bipush (-6), 2) := by decide +kernel
theorem dX5_lasting_21 : decode cX5_lasting 21 = .ok (.invokevirtual 137, 3) := by decide +kernel
theorem dX5_lasting_24 : decode cX5_lasting 24 = .ok (.ireturn, 1) := by decide +kernel
theorem dX5_lasting_25 : decode cX5_lasting 25 = .ok (.aload_n 0, 1) := by decide +kernel
theorem dX5_lasting_26 : decode cX5_lasting 26 = .ok (.aload_n 0, 1) := by decide +kernel
theorem dX5_lasting_27 : decode cX5_lasting 27 = .ok (.getfield 194, 3) := by decide +kernel
theorem dX5_lasting_30 : decode cX5_lasting 30 = .ok (.iload_n 1, 1) := by decide +kernel
theorem dX5_lasting_31 : decode cX5_lasting 31 = .ok (.invokevirtual 329, 3) := by decide +kernel
theorem dX5_lasting_34 : decode cX5_lasting 34 = .ok (.bipush (-9), 2) := by decide +kernel
theorem dX5_lasting_36 : decode cX5_lasting 36 = .ok (.istore_n 2, 1) := by decide +kernel
theorem dX5_lasting_37 : decode cX5_lasting 37 = .ok (.iconst 0, 1) := by decide +kernel
theorem dX5_lasting_38 : decode cX5_lasting 38 = .ok (.istore_n 3, 1) := by decide +kernel
theorem dX5_lasting_39 : decode cX5_lasting 39 = .ok (.iload_n 3, 1) := by decide +kernel
theorem dX5_lasting_40 : decode cX5_lasting 40 = .ok (.aload_n 0, 1) := by decide +kernel
theorem dX5_lasting_41 : decode cX5_lasting 41 = .ok (.getfield 149, 3) := by decide +kernel
theorem dX5_lasting_44 : decode cX5_lasting 44 = .ok (.if_icmp .ge 36, 3) := by decide +kernel
theorem dX5_lasting_47 : decode cX5_lasting 47 = .ok (.iload_n 2, 1) := by decide +kernel
theorem dX5_lasting_48 : decode cX5_lasting 48 = .ok (.bipush (-9), 2) := by decide +kernel
theorem dX5_lasting_50 : decode cX5_lasting 50 = .ok (.if_icmp .eq 18, 3) := by decide +kernel
theorem dX5_lasting_53 : decode cX5_lasting 53 = .ok (.aload_n 0, 1) := by decide +kernel
theorem dX5_lasting_54 : decode cX5_lasting 54 = .ok (.getfield 93, 3) := by decide +kernel
theorem dX5_lasting_57 : decode cX5_lasting 57 = .ok (.iload_n 3, 1) := by decide +kernel
theorem dX5_lasting_58 : decode cX5_lasting 58 = .ok (.iaload, 1) := by decide +kernel
theorem dX5_lasting_59 : decode cX5_lasting 59 = .ok (.aload_n 0, 1) := by decide +kernel
theorem dX5_lasting_60 : decode cX5_lasting 60 = .ok (.getfield 93, 3) := by decide +kernel
theorem dX5_lasting_63 : decode cX5_lasting 63 = .ok (.iload_n 2, 1) := by decide +kernel
theorem dX5_lasting_64 : decode cX5_lasting 64 = .ok (.iaload, 1) := by decide +kernel
theorem dX5_lasting_65 : decode cX5_lasting 65 = .ok (.if_icmp .le 7, 3) := by decide +kernel
theorem dX5_lasting_68 : decode cX5_lasting 68 = .ok (.iload_n 3, 1) := by decide +kernel
theorem dX5_lasting_69 : decode cX5_lasting 69 = .ok (.goto 4, 3) := by decide +kernel
theorem dX5_lasting_72 : decode cX5_lasting 72 = .ok (.iload_n 2, 1) := by decide +kernel
theorem dX5_lasting_73 : decode cX5_lasting 73 = .ok (.istore_n 2, 1) := by decide +kernel
theorem dX5_lasting_74 : decode cX5_lasting 74 = .ok (.iinc 3 1, 3) := by decide +kernel
theorem dX5_lasting_77 : decode cX5_lasting 77 = .ok (.goto (-38), 3) := by decide +kernel
theorem dX5_lasting_80 : decode cX5_lasting 80 = .ok (.iload_n 2, 1) := by decide +kernel
theorem dX5_lasting_81 : decode cX5_lasting 81 = .ok (.ireturn, 1) := by decide +kernel
theorem dX5_draws_0 : decode cX5_draws 0 = .ok (.aload_n 0, 1) := by decide +kernel
theorem dX5_draws_1 : decode cX5_draws 1 = .ok (.aload_n 0, 1) := by decide +kernel
theorem dX5_draws_2 : decode cX5_draws 2 = .ok (.getfield 332, 3) := by decide +kernel
theorem dX5_draws_5 : decode cX5_draws 5 = .ok (.ldc_w 335, 3) := by decide +kernel
theorem dX5_draws_8 : decode cX5_draws 8 = .ok (.imul, 1) := by decide +kernel
theorem dX5_draws_9 : decode cX5_draws 9 = .ok (.ldc_w 336, 3) := by decide +kernel
theorem dX5_draws_12 : decode cX5_draws 12 = .ok (.iadd, 1) := by decide +kernel
theorem dX5_draws_13 : decode cX5_draws 13 = .ok (.putfield 332, 3) := by decide +kernel
theorem dX5_draws_16 : decode cX5_draws 16 = .ok (.aload_n 0, 1) := by decide +kernel
theorem dX5_draws_17 : decode cX5_draws 17 = .ok (.getfield 332, 3) := by decide +kernel
theorem dX5_draws_20 : decode cX5_draws 20 = .ok (.ldc_w 337, 3) := by decide +kernel
theorem dX5_draws_23 : decode cX5_draws 23 = .ok (.iand, 1) := by decide +kernel
theorem dX5_draws_24 : decode cX5_draws 24 = .ok (.sipush 256, 3) := by decide +kernel
theorem dX5_draws_27 : decode cX5_draws 27 = .ok (.idiv, 1) := by decide +kernel
theorem dX5_draws_28 : decode cX5_draws 28 = .ok (.iload_n 1, 1) := by decide +kernel
theorem dX5_draws_29 : decode cX5_draws 29 = .ok (.irem, 1) := by decide +kernel
theorem dX5_draws_30 : decode cX5_draws 30 = .ok (.ireturn, 1) := by decide +kernel
theorem dX5_allHad_0 : decode cX5_allHad 0 = .ok (.iconst 0, 1) := by decide +kernel
theorem dX5_allHad_1 : decode cX5_allHad 1 = .ok (.istore_n 1, 1) := by decide +kernel
theorem dX5_allHad_2 : decode cX5_allHad 2 = .ok (.iconst 0, 1) := by decide +kernel
theorem dX5_allHad_3 : decode cX5_allHad 3 = .ok (.istore_n 2, 1) := by decide +kernel
theorem dX5_allHad_4 : decode cX5_allHad 4 = .ok (.iload_n 2, 1) := by decide +kernel
theorem dX5_allHad_5 : decode cX5_allHad 5 = .ok (.aload_n 0, 1) := by decide +kernel
theorem dX5_allHad_6 : decode cX5_allHad 6 = .ok (.getfield 142, 3) := by decide +kernel
theorem dX5_allHad_9 : decode cX5_allHad 9 = .ok (.if_icmp .ge 18, 3) := by decide +kernel
theorem dX5_allHad_12 : decode cX5_allHad 12 = .ok (.iload_n 1, 1) := by decide +kernel
theorem dX5_allHad_13 : decode cX5_allHad 13 = .ok (.aload_n 0, 1) := by decide +kernel
theorem dX5_allHad_14 : decode cX5_allHad 14 = .ok (.getfield 19, 3) := by decide +kernel
theorem dX5_allHad_17 : decode cX5_allHad 17 = .ok (.iload_n 2, 1) := by decide +kernel
theorem dX5_allHad_18 : decode cX5_allHad 18 = .ok (.iaload, 1) := by decide +kernel
theorem dX5_allHad_19 : decode cX5_allHad 19 = .ok (.iadd, 1) := by decide +kernel
theorem dX5_allHad_20 : decode cX5_allHad 20 = .ok (.istore_n 1, 1) := by decide +kernel
theorem dX5_allHad_21 : decode cX5_allHad 21 = .ok (.iinc 2 1, 3) := by decide +kernel
theorem dX5_allHad_24 : decode cX5_allHad 24 = .ok (.goto (-20), 3) := by decide +kernel
theorem dX5_allHad_27 : decode cX5_allHad 27 = .ok (.iload_n 1, 1) := by decide +kernel
theorem dX5_allHad_28 : decode cX5_allHad 28 = .ok (.ireturn, 1) := by decide +kernel
theorem dX5_lots_0 : decode cX5_lots 0 = .ok (.iload_n 1, 1) := by decide +kernel
theorem dX5_lots_1 : decode cX5_lots 1 = .ok (.iconst 1, 1) := by decide +kernel
theorem dX5_lots_2 : decode cX5_lots 2 = .ok (.if_icmp .ge 10, 3) := by decide +kernel
theorem dX5_lots_5 : decode cX5_lots 5 = .ok (.aload_n 0, 1) := by decide +kernel
theorem dX5_lots_6 : decode cX5_lots 6 = .ok (.bipush (-4), 2) := by decide +kernel
theorem dX5_lots_8 : decode cX5_lots 8 = .ok (.invokevirtual 234, 3) := by decide +kernel
theorem dX5_lots_11 : decode cX5_lots 11 = .ok (.ireturn, 1) := by decide +kernel
theorem dX5_lots_12 : decode cX5_lots 12 = .ok (.iload_n 1, 1) := by decide +kernel
theorem dX5_lots_13 : decode cX5_lots 13 = .ok (.bipush 60, 2) := by decide +kernel
theorem dX5_lots_15 : decode cX5_lots 15 = .ok (.if_icmp .le 10, 3) := by decide +kernel
theorem dX5_lots_18 : decode cX5_lots 18 = .ok (.aload_n 0, 1) := by decide +kernel
theorem dX5_lots_19 : decode cX5_lots 19 = .ok (.bipush (-6), 2) := by decide +kernel
theorem dX5_lots_21 : decode cX5_lots 21 = .ok (.invokevirtual 234, 3) := by decide +kernel
theorem dX5_lots_24 : decode cX5_lots 24 = .ok (.ireturn, 1) := by decide +kernel
theorem dX5_lots_25 : decode cX5_lots 25 = .ok (.aload_n 0, 1) := by decide +kernel
theorem dX5_lots_26 : decode cX5_lots 26 = .ok (.getfield 142, 3) := by decide +kernel
theorem dX5_lots_29 : decode cX5_lots 29 = .ok (.ifCond .eq 10, 3) := by decide +kernel
theorem dX5_lots_32 : decode cX5_lots 32 = .ok (.aload_n 0, 1) := by decide +kernel
theorem dX5_lots_33 : decode cX5_lots 33 = .ok (.getfield 149, 3) := by decide +kernel
theorem dX5_lots_36 : decode cX5_lots 36 = .ok (.ifCond .ne 10, 3) := by decide +kernel
theorem dX5_lots_39 : decode cX5_lots 39 = .ok (.aload_n 0, 1) := by decide +kernel
theorem dX5_lots_40 : decode cX5_lots 40 = .ok (.bipush (-3), 2) := by decide +kernel
theorem dX5_lots_42 : decode cX5_lots 42 = .ok (.invokevirtual 234, 3) := by decide +kernel
theorem dX5_lots_45 : decode cX5_lots 45 = .ok (.ireturn, 1) := by decide +kernel
theorem dX5_lots_46 : decode cX5_lots 46 = .ok (.aload_n 0, 1) := by decide +kernel
theorem dX5_lots_47 : decode cX5_lots 47 = .ok (.invokevirtual 288, 3) := by decide +kernel
theorem dX5_lots_50 : decode cX5_lots 50 = .ok (.aload_n 0, 1) := by decide +kernel
theorem dX5_lots_51 : decode cX5_lots 51 = .ok (.iload_n 2, 1) := by decide +kernel
theorem dX5_lots_52 : decode cX5_lots 52 = .ok (.putfield 332, 3) := by decide +kernel
theorem dX5_lots_55 : decode cX5_lots 55 = .ok (.aload_n 0, 1) := by decide +kernel
theorem dX5_lots_56 : decode cX5_lots 56 = .ok (.invokevirtual 338, 3) := by decide +kernel
theorem dX5_lots_59 : decode cX5_lots 59 = .ok (.istore_n 3, 1) := by decide +kernel
theorem dX5_lots_60 : decode cX5_lots 60 = .ok (.iconst 0, 1) := by decide +kernel
theorem dX5_lots_61 : decode cX5_lots 61 = .ok (.istore 4, 2) := by decide +kernel
theorem dX5_lots_63 : decode cX5_lots 63 = .ok (.iload 4, 2) := by decide +kernel
theorem dX5_lots_65 : decode cX5_lots 65 = .ok (.iload_n 1, 1) := by decide +kernel
theorem dX5_lots_66 : decode cX5_lots 66 = .ok (.if_icmp .ge 52, 3) := by decide +kernel
theorem dX5_lots_69 : decode cX5_lots 69 = .ok (.aload_n 0, 1) := by decide +kernel
theorem dX5_lots_70 : decode cX5_lots 70 = .ok (.aload_n 0, 1) := by decide +kernel
theorem dX5_lots_71 : decode cX5_lots 71 = .ok (.getfield 142, 3) := by decide +kernel
theorem dX5_lots_74 : decode cX5_lots 74 = .ok (.invokevirtual 341, 3) := by decide +kernel
theorem dX5_lots_77 : decode cX5_lots 77 = .ok (.istore 5, 2) := by decide +kernel
theorem dX5_lots_79 : decode cX5_lots 79 = .ok (.aload_n 0, 1) := by decide +kernel
theorem dX5_lots_80 : decode cX5_lots 80 = .ok (.aload_n 0, 1) := by decide +kernel
theorem dX5_lots_81 : decode cX5_lots 81 = .ok (.getfield 149, 3) := by decide +kernel
theorem dX5_lots_84 : decode cX5_lots 84 = .ok (.invokevirtual 341, 3) := by decide +kernel
theorem dX5_lots_87 : decode cX5_lots 87 = .ok (.istore 6, 2) := by decide +kernel
theorem dX5_lots_89 : decode cX5_lots 89 = .ok (.aload_n 0, 1) := by decide +kernel
theorem dX5_lots_90 : decode cX5_lots 90 = .ok (.iload 5, 2) := by decide +kernel
theorem dX5_lots_92 : decode cX5_lots 92 = .ok (.iload 6, 2) := by decide +kernel
theorem dX5_lots_94 : decode cX5_lots 94 = .ok (.invokevirtual 237, 3) := by decide +kernel
theorem dX5_lots_97 : decode cX5_lots 97 = .ok (.ifCond .eq 11, 3) := by decide +kernel
theorem dX5_lots_100 : decode cX5_lots 100 = .ok (.aload_n 0, 1) := by decide +kernel
theorem dX5_lots_101 : decode cX5_lots 101 = .ok (.iload 5, 2) := by decide +kernel
theorem dX5_lots_103 : decode cX5_lots 103 = .ok (.iload 6, 2) := by decide +kernel
theorem dX5_lots_105 : decode cX5_lots 105 = .ok (.invokevirtual 240, 3) := by decide +kernel
theorem dX5_lots_108 : decode cX5_lots 108 = .ok (.aload_n 0, 1) := by decide +kernel
theorem dX5_lots_109 : decode cX5_lots 109 = .ok (.invokevirtual 279, 3) := by decide +kernel
theorem dX5_lots_112 : decode cX5_lots 112 = .ok (.iinc 4 1, 3) := by decide +kernel
theorem dX5_lots_115 : decode cX5_lots 115 = .ok (.goto (-52), 3) := by decide +kernel
theorem dX5_lots_118 : decode cX5_lots 118 = .ok (.aload_n 0, 1) := by decide +kernel
theorem dX5_lots_119 : decode cX5_lots 119 = .ok (.invokevirtual 338, 3) := by decide +kernel
theorem dX5_lots_122 : decode cX5_lots 122 = .ok (.iload_n 3, 1) := by decide +kernel
theorem dX5_lots_123 : decode cX5_lots 123 = .ok (.isub, 1) := by decide +kernel
theorem dX5_lots_124 : decode cX5_lots 124 = .ok (.istore 4, 2) := by decide +kernel
theorem dX5_lots_126 : decode cX5_lots 126 = .ok (.aload_n 0, 1) := by decide +kernel
theorem dX5_lots_127 : decode cX5_lots 127 = .ok (.invokevirtual 291, 3) := by decide +kernel
theorem dX5_lots_130 : decode cX5_lots 130 = .ok (.iload 4, 2) := by decide +kernel
theorem dX5_lots_132 : decode cX5_lots 132 = .ok (.ireturn, 1) := by decide +kernel
theorem dX5_row_0 : decode cX5_row 0 = .ok (.iload_n 1, 1) := by decide +kernel
theorem dX5_row_1 : decode cX5_row 1 = .ok (.ifCond .ge 10, 3) := by decide +kernel
theorem dX5_row_4 : decode cX5_row 4 = .ok (.aload_n 0, 1) := by decide +kernel
theorem dX5_row_5 : decode cX5_row 5 = .ok (.bipush (-4), 2) := by decide +kernel
theorem dX5_row_7 : decode cX5_row 7 = .ok (.invokevirtual 137, 3) := by decide +kernel
theorem dX5_row_10 : decode cX5_row 10 = .ok (.ireturn, 1) := by decide +kernel
theorem dX5_row_11 : decode cX5_row 11 = .ok (.iload_n 1, 1) := by decide +kernel
theorem dX5_row_12 : decode cX5_row 12 = .ok (.bipush 9, 2) := by decide +kernel
theorem dX5_row_14 : decode cX5_row 14 = .ok (.if_icmp .gt 12, 3) := by decide +kernel
theorem dX5_row_17 : decode cX5_row 17 = .ok (.aload_n 0, 1) := by decide +kernel
theorem dX5_row_18 : decode cX5_row 18 = .ok (.getfield 344, 3) := by decide +kernel
theorem dX5_row_21 : decode cX5_row 21 = .ok (.bipush 12, 2) := by decide +kernel
theorem dX5_row_23 : decode cX5_row 23 = .ok (.if_icmp .ne 10, 3) := by decide +kernel
theorem dX5_row_26 : decode cX5_row 26 = .ok (.aload_n 0, 1) := by decide +kernel
theorem dX5_row_27 : decode cX5_row 27 = .ok (.bipush (-6), 2) := by decide +kernel
theorem dX5_row_29 : decode cX5_row 29 = .ok (.invokevirtual 137, 3) := by decide +kernel
theorem dX5_row_32 : decode cX5_row 32 = .ok (.ireturn, 1) := by decide +kernel
theorem dX5_row_33 : decode cX5_row 33 = .ok (.aload_n 0, 1) := by decide +kernel
theorem dX5_row_34 : decode cX5_row 34 = .ok (.getfield 57, 3) := by decide +kernel
theorem dX5_row_37 : decode cX5_row 37 = .ok (.aload_n 0, 1) := by decide +kernel
theorem dX5_row_38 : decode cX5_row 38 = .ok (.getfield 344, 3) := by decide +kernel
theorem dX5_row_41 : decode cX5_row 41 = .ok (.iload_n 1, 1) := by decide +kernel
theorem dX5_row_42 : decode cX5_row 42 = .ok (.iastore, 1) := by decide +kernel
theorem dX5_row_43 : decode cX5_row 43 = .ok (.aload_n 0, 1) := by decide +kernel
theorem dX5_row_44 : decode cX5_row 44 = .ok (.dup, 1) := by decide +kernel
theorem dX5_row_45 : decode cX5_row 45 = .ok (.getfield 344, 3) := by decide +kernel
theorem dX5_row_48 : decode cX5_row 48 = .ok (.iconst 1, 1) := by decide +kernel
theorem dX5_row_49 : decode cX5_row 49 = .ok (.iadd, 1) := by decide +kernel
theorem dX5_row_50 : decode cX5_row 50 = .ok (.putfield 344, 3) := by decide +kernel
theorem dX5_row_53 : decode cX5_row 53 = .ok (.aload_n 0, 1) := by decide +kernel
theorem dX5_row_54 : decode cX5_row 54 = .ok (.getfield 344, 3) := by decide +kernel
theorem dX5_row_57 : decode cX5_row 57 = .ok (.ireturn, 1) := by decide +kernel
theorem dX5_judge_0 : decode cX5_judge 0 = .ok (.aload_n 0, 1) := by decide +kernel
theorem dX5_judge_1 : decode cX5_judge 1 = .ok (.iload_n 1, 1) := by decide +kernel
theorem dX5_judge_2 : decode cX5_judge 2 = .ok (.invokevirtual 228, 3) := by decide +kernel
theorem dX5_judge_5 : decode cX5_judge 5 = .ok (.ifCond .ne 9, 3) := by decide +kernel
theorem dX5_judge_8 : decode cX5_judge 8 = .ok (.aload_n 0, 1) := by decide +kernel
theorem dX5_judge_9 : decode cX5_judge 9 = .ok (.iconst (-1), 1) := by decide +kernel
theorem dX5_judge_10 : decode cX5_judge 10 = .ok (.invokevirtual 137, 3) := by decide +kernel
theorem dX5_judge_13 : decode cX5_judge 13 = .ok (.ireturn, 1) := by decide +kernel
theorem dX5_judge_14 : decode cX5_judge 14 = .ok (.aload_n 0, 1) := by decide +kernel
theorem dX5_judge_15 : decode cX5_judge 15 = .ok (.invokevirtual 288, 3) := by decide +kernel
theorem dX5_judge_18 : decode cX5_judge 18 = .ok (.bipush (-9), 2) := by decide +kernel
theorem dX5_judge_20 : decode cX5_judge 20 = .ok (.istore_n 2, 1) := by decide +kernel
theorem dX5_judge_21 : decode cX5_judge 21 = .ok (.iconst 0, 1) := by decide +kernel
theorem dX5_judge_22 : decode cX5_judge 22 = .ok (.istore_n 3, 1) := by decide +kernel
theorem dX5_judge_23 : decode cX5_judge 23 = .ok (.iload_n 3, 1) := by decide +kernel
theorem dX5_judge_24 : decode cX5_judge 24 = .ok (.aload_n 0, 1) := by decide +kernel
theorem dX5_judge_25 : decode cX5_judge 25 = .ok (.getfield 344, 3) := by decide +kernel
theorem dX5_judge_28 : decode cX5_judge 28 = .ok (.if_icmp .ge 67, 3) := by decide +kernel
theorem dX5_judge_31 : decode cX5_judge 31 = .ok (.iload_n 2, 1) := by decide +kernel
theorem dX5_judge_32 : decode cX5_judge 32 = .ok (.bipush (-9), 2) := by decide +kernel
theorem dX5_judge_34 : decode cX5_judge 34 = .ok (.if_icmp .ne 61, 3) := by decide +kernel
theorem dX5_judge_37 : decode cX5_judge 37 = .ok (.aload_n 0, 1) := by decide +kernel
theorem dX5_judge_38 : decode cX5_judge 38 = .ok (.getfield 57, 3) := by decide +kernel
theorem dX5_judge_41 : decode cX5_judge 41 = .ok (.iload_n 3, 1) := by decide +kernel
theorem dX5_judge_42 : decode cX5_judge 42 = .ok (.iaload, 1) := by decide +kernel
theorem dX5_judge_43 : decode cX5_judge 43 = .ok (.bipush 9, 2) := by decide +kernel
theorem dX5_judge_45 : decode cX5_judge 45 = .ok (.if_icmp .ne 10, 3) := by decide +kernel
theorem dX5_judge_48 : decode cX5_judge 48 = .ok (.aload_n 0, 1) := by decide +kernel
theorem dX5_judge_49 : decode cX5_judge 49 = .ok (.invokevirtual 279, 3) := by decide +kernel
theorem dX5_judge_52 : decode cX5_judge 52 = .ok (.goto 37, 3) := by decide +kernel
theorem dX5_judge_55 : decode cX5_judge 55 = .ok (.aload_n 0, 1) := by decide +kernel
theorem dX5_judge_56 : decode cX5_judge 56 = .ok (.aload_n 0, 1) := by decide +kernel
theorem dX5_judge_57 : decode cX5_judge 57 = .ok (.getfield 57, 3) := by decide +kernel
theorem dX5_judge_60 : decode cX5_judge 60 = .ok (.iload_n 3, 1) := by decide +kernel
theorem dX5_judge_61 : decode cX5_judge 61 = .ok (.iaload, 1) := by decide +kernel
theorem dX5_judge_62 : decode cX5_judge 62 = .ok (.iload_n 1, 1) := by decide +kernel
theorem dX5_judge_63 : decode cX5_judge 63 = .ok (.invokevirtual 237, 3) := by decide +kernel
theorem dX5_judge_66 : decode cX5_judge 66 = .ok (.ifCond .eq 21, 3) := by decide +kernel
theorem dX5_judge_69 : decode cX5_judge 69 = .ok (.aload_n 0, 1) := by decide +kernel
theorem dX5_judge_70 : decode cX5_judge 70 = .ok (.aload_n 0, 1) := by decide +kernel
theorem dX5_judge_71 : decode cX5_judge 71 = .ok (.getfield 57, 3) := by decide +kernel
theorem dX5_judge_74 : decode cX5_judge 74 = .ok (.iload_n 3, 1) := by decide +kernel
theorem dX5_judge_75 : decode cX5_judge 75 = .ok (.iaload, 1) := by decide +kernel
theorem dX5_judge_76 : decode cX5_judge 76 = .ok (.iload_n 1, 1) := by decide +kernel
theorem dX5_judge_77 : decode cX5_judge 77 = .ok (.invokevirtual 240, 3) := by decide +kernel
theorem dX5_judge_80 : decode cX5_judge 80 = .ok (.aload_n 0, 1) := by decide +kernel
theorem dX5_judge_81 : decode cX5_judge 81 = .ok (.invokevirtual 279, 3) := by decide +kernel
theorem dX5_judge_84 : decode cX5_judge 84 = .ok (.goto 5, 3) := by decide +kernel
theorem dX5_judge_87 : decode cX5_judge 87 = .ok (.iload_n 3, 1) := by decide +kernel
theorem dX5_judge_88 : decode cX5_judge 88 = .ok (.istore_n 2, 1) := by decide +kernel
theorem dX5_judge_89 : decode cX5_judge 89 = .ok (.iinc 3 1, 3) := by decide +kernel
theorem dX5_judge_92 : decode cX5_judge 92 = .ok (.goto (-69), 3) := by decide +kernel
theorem dX5_judge_95 : decode cX5_judge 95 = .ok (.aload_n 0, 1) := by decide +kernel
theorem dX5_judge_96 : decode cX5_judge 96 = .ok (.invokevirtual 291, 3) := by decide +kernel
theorem dX5_judge_99 : decode cX5_judge 99 = .ok (.aload_n 0, 1) := by decide +kernel
theorem dX5_judge_100 : decode cX5_judge 100 = .ok (.iconst 0, 1) := by decide +kernel
theorem dX5_judge_101 : decode cX5_judge 101 = .ok (.putfield 344, 3) := by decide +kernel
theorem dX5_judge_104 : decode cX5_judge 104 = .ok (.iload_n 2, 1) := by decide +kernel
theorem dX5_judge_105 : decode cX5_judge 105 = .ok (.ireturn, 1) := by decide +kernel
theorem dX5_image_0 : decode cX5_image 0 = .ok (.aload_n 0, 1) := by decide +kernel
theorem dX5_image_1 : decode cX5_image 1 = .ok (.iconst 1, 1) := by decide +kernel
theorem dX5_image_2 : decode cX5_image 2 = .ok (.putfield 347, 3) := by decide +kernel
theorem dX5_image_5 : decode cX5_image 5 = .ok (.aload_n 0, 1) := by decide +kernel
theorem dX5_image_6 : decode cX5_image 6 = .ok (.aload_n 0, 1) := by decide +kernel
theorem dX5_image_7 : decode cX5_image 7 = .ok (.getfield 142, 3) := by decide +kernel
theorem dX5_image_10 : decode cX5_image 10 = .ok (.putfield 351, 3) := by decide +kernel
theorem dX5_image_13 : decode cX5_image 13 = .ok (.aload_n 0, 1) := by decide +kernel
theorem dX5_image_14 : decode cX5_image 14 = .ok (.aload_n 0, 1) := by decide +kernel
theorem dX5_image_15 : decode cX5_image 15 = .ok (.getfield 149, 3) := by decide +kernel
theorem dX5_image_18 : decode cX5_image 18 = .ok (.putfield 354, 3) := by decide +kernel
theorem dX5_image_21 : decode cX5_image 21 = .ok (.aload_n 0, 1) := by decide +kernel
theorem dX5_image_22 : decode cX5_image 22 = .ok (.aload_n 0, 1) := by decide +kernel
theorem dX5_image_23 : decode cX5_image 23 = .ok (.getfield 194, 3) := by decide +kernel
theorem dX5_image_26 : decode cX5_image 26 = .ok (.putfield 357, 3) := by decide +kernel
theorem dX5_image_29 : decode cX5_image 29 = .ok (.aload_n 0, 1) := by decide +kernel
theorem dX5_image_30 : decode cX5_image 30 = .ok (.aload_n 0, 1) := by decide +kernel
theorem dX5_image_31 : decode cX5_image 31 = .ok (.getfield 50, 3) := by decide +kernel
theorem dX5_image_34 : decode cX5_image 34 = .ok (.putfield 360, 3) := by decide +kernel
theorem dX5_image_37 : decode cX5_image 37 = .ok (.aload_n 0, 1) := by decide +kernel
theorem dX5_image_38 : decode cX5_image 38 = .ok (.aload_n 0, 1) := by decide +kernel
theorem dX5_image_39 : decode cX5_image 39 = .ok (.getfield 264, 3) := by decide +kernel
theorem dX5_image_42 : decode cX5_image 42 = .ok (.putfield 363, 3) := by decide +kernel
theorem dX5_image_45 : decode cX5_image 45 = .ok (.iconst 0, 1) := by decide +kernel
theorem dX5_image_46 : decode cX5_image 46 = .ok (.istore_n 1, 1) := by decide +kernel
theorem dX5_image_47 : decode cX5_image 47 = .ok (.iload_n 1, 1) := by decide +kernel
theorem dX5_image_48 : decode cX5_image 48 = .ok (.bipush 6, 2) := by decide +kernel
theorem dX5_image_50 : decode cX5_image 50 = .ok (.if_icmp .ge 57, 3) := by decide +kernel
theorem dX5_image_53 : decode cX5_image 53 = .ok (.aload_n 0, 1) := by decide +kernel
theorem dX5_image_54 : decode cX5_image 54 = .ok (.getfield 96, 3) := by decide +kernel
theorem dX5_image_57 : decode cX5_image 57 = .ok (.iload_n 1, 1) := by decide +kernel
theorem dX5_image_58 : decode cX5_image 58 = .ok (.aload_n 0, 1) := by decide +kernel
theorem dX5_image_59 : decode cX5_image 59 = .ok (.getfield 7, 3) := by decide +kernel
theorem dX5_image_62 : decode cX5_image 62 = .ok (.iload_n 1, 1) := by decide +kernel
theorem dX5_image_63 : decode cX5_image 63 = .ok (.iaload, 1) := by decide +kernel
theorem dX5_image_64 : decode cX5_image 64 = .ok (.iastore, 1) := by decide +kernel
theorem dX5_image_65 : decode cX5_image 65 = .ok (.aload_n 0, 1) := by decide +kernel
theorem dX5_image_66 : decode cX5_image 66 = .ok (.getfield 99, 3) := by decide +kernel
theorem dX5_image_69 : decode cX5_image 69 = .ok (.iload_n 1, 1) := by decide +kernel
theorem dX5_image_70 : decode cX5_image 70 = .ok (.aload_n 0, 1) := by decide +kernel
theorem dX5_image_71 : decode cX5_image 71 = .ok (.getfield 13, 3) := by decide +kernel
theorem dX5_image_74 : decode cX5_image 74 = .ok (.iload_n 1, 1) := by decide +kernel
theorem dX5_image_75 : decode cX5_image 75 = .ok (.iaload, 1) := by decide +kernel
theorem dX5_image_76 : decode cX5_image 76 = .ok (.iastore, 1) := by decide +kernel
theorem dX5_image_77 : decode cX5_image 77 = .ok (.aload_n 0, 1) := by decide +kernel
theorem dX5_image_78 : decode cX5_image 78 = .ok (.getfield 102, 3) := by decide +kernel
theorem dX5_image_81 : decode cX5_image 81 = .ok (.iload_n 1, 1) := by decide +kernel
theorem dX5_image_82 : decode cX5_image 82 = .ok (.aload_n 0, 1) := by decide +kernel
theorem dX5_image_83 : decode cX5_image 83 = .ok (.getfield 16, 3) := by decide +kernel
theorem dX5_image_86 : decode cX5_image 86 = .ok (.iload_n 1, 1) := by decide +kernel
theorem dX5_image_87 : decode cX5_image 87 = .ok (.iaload, 1) := by decide +kernel
theorem dX5_image_88 : decode cX5_image 88 = .ok (.iastore, 1) := by decide +kernel
theorem dX5_image_89 : decode cX5_image 89 = .ok (.aload_n 0, 1) := by decide +kernel
theorem dX5_image_90 : decode cX5_image 90 = .ok (.getfield 105, 3) := by decide +kernel
theorem dX5_image_93 : decode cX5_image 93 = .ok (.iload_n 1, 1) := by decide +kernel
theorem dX5_image_94 : decode cX5_image 94 = .ok (.aload_n 0, 1) := by decide +kernel
theorem dX5_image_95 : decode cX5_image 95 = .ok (.getfield 19, 3) := by decide +kernel
theorem dX5_image_98 : decode cX5_image 98 = .ok (.iload_n 1, 1) := by decide +kernel
theorem dX5_image_99 : decode cX5_image 99 = .ok (.iaload, 1) := by decide +kernel
theorem dX5_image_100 : decode cX5_image 100 = .ok (.iastore, 1) := by decide +kernel
theorem dX5_image_101 : decode cX5_image 101 = .ok (.iinc 1 1, 3) := by decide +kernel
theorem dX5_image_104 : decode cX5_image 104 = .ok (.goto (-57), 3) := by decide +kernel
theorem dX5_image_107 : decode cX5_image 107 = .ok (.iconst 0, 1) := by decide +kernel
theorem dX5_image_108 : decode cX5_image 108 = .ok (.istore_n 1, 1) := by decide +kernel
theorem dX5_image_109 : decode cX5_image 109 = .ok (.iload_n 1, 1) := by decide +kernel
theorem dX5_image_110 : decode cX5_image 110 = .ok (.iconst 5, 1) := by decide +kernel
theorem dX5_image_111 : decode cX5_image 111 = .ok (.if_icmp .ge 69, 3) := by decide +kernel
theorem dX5_image_114 : decode cX5_image 114 = .ok (.aload_n 0, 1) := by decide +kernel
theorem dX5_image_115 : decode cX5_image 115 = .ok (.getfield 108, 3) := by decide +kernel
theorem dX5_image_118 : decode cX5_image 118 = .ok (.iload_n 1, 1) := by decide +kernel
theorem dX5_image_119 : decode cX5_image 119 = .ok (.aload_n 0, 1) := by decide +kernel
theorem dX5_image_120 : decode cX5_image 120 = .ok (.getfield 22, 3) := by decide +kernel
theorem dX5_image_123 : decode cX5_image 123 = .ok (.iload_n 1, 1) := by decide +kernel
theorem dX5_image_124 : decode cX5_image 124 = .ok (.iaload, 1) := by decide +kernel
theorem dX5_image_125 : decode cX5_image 125 = .ok (.iastore, 1) := by decide +kernel
theorem dX5_image_126 : decode cX5_image 126 = .ok (.aload_n 0, 1) := by decide +kernel
theorem dX5_image_127 : decode cX5_image 127 = .ok (.getfield 117, 3) := by decide +kernel
theorem dX5_image_130 : decode cX5_image 130 = .ok (.iload_n 1, 1) := by decide +kernel
theorem dX5_image_131 : decode cX5_image 131 = .ok (.aload_n 0, 1) := by decide +kernel
theorem dX5_image_132 : decode cX5_image 132 = .ok (.getfield 31, 3) := by decide +kernel
theorem dX5_image_135 : decode cX5_image 135 = .ok (.iload_n 1, 1) := by decide +kernel
theorem dX5_image_136 : decode cX5_image 136 = .ok (.iaload, 1) := by decide +kernel
theorem dX5_image_137 : decode cX5_image 137 = .ok (.iastore, 1) := by decide +kernel
theorem dX5_image_138 : decode cX5_image 138 = .ok (.aload_n 0, 1) := by decide +kernel
theorem dX5_image_139 : decode cX5_image 139 = .ok (.getfield 120, 3) := by decide +kernel
theorem dX5_image_142 : decode cX5_image 142 = .ok (.iload_n 1, 1) := by decide +kernel
theorem dX5_image_143 : decode cX5_image 143 = .ok (.aload_n 0, 1) := by decide +kernel
theorem dX5_image_144 : decode cX5_image 144 = .ok (.getfield 34, 3) := by decide +kernel
theorem dX5_image_147 : decode cX5_image 147 = .ok (.iload_n 1, 1) := by decide +kernel
theorem dX5_image_148 : decode cX5_image 148 = .ok (.iaload, 1) := by decide +kernel
theorem dX5_image_149 : decode cX5_image 149 = .ok (.iastore, 1) := by decide +kernel
theorem dX5_image_150 : decode cX5_image 150 = .ok (.aload_n 0, 1) := by decide +kernel
theorem dX5_image_151 : decode cX5_image 151 = .ok (.getfield 123, 3) := by decide +kernel
theorem dX5_image_154 : decode cX5_image 154 = .ok (.iload_n 1, 1) := by decide +kernel
theorem dX5_image_155 : decode cX5_image 155 = .ok (.aload_n 0, 1) := by decide +kernel
theorem dX5_image_156 : decode cX5_image 156 = .ok (.getfield 37, 3) := by decide +kernel
theorem dX5_image_159 : decode cX5_image 159 = .ok (.iload_n 1, 1) := by decide +kernel
theorem dX5_image_160 : decode cX5_image 160 = .ok (.iaload, 1) := by decide +kernel
theorem dX5_image_161 : decode cX5_image 161 = .ok (.iastore, 1) := by decide +kernel
theorem dX5_image_162 : decode cX5_image 162 = .ok (.aload_n 0, 1) := by decide +kernel
theorem dX5_image_163 : decode cX5_image 163 = .ok (.getfield 126, 3) := by decide +kernel
theorem dX5_image_166 : decode cX5_image 166 = .ok (.iload_n 1, 1) := by decide +kernel
theorem dX5_image_167 : decode cX5_image 167 = .ok (.aload_n 0, 1) := by decide +kernel
theorem dX5_image_168 : decode cX5_image 168 = .ok (.getfield 40, 3) := by decide +kernel
theorem dX5_image_171 : decode cX5_image 171 = .ok (.iload_n 1, 1) := by decide +kernel
theorem dX5_image_172 : decode cX5_image 172 = .ok (.iaload, 1) := by decide +kernel
theorem dX5_image_173 : decode cX5_image 173 = .ok (.iastore, 1) := by decide +kernel
theorem dX5_image_174 : decode cX5_image 174 = .ok (.iinc 1 1, 3) := by decide +kernel
theorem dX5_image_177 : decode cX5_image 177 = .ok (.goto (-68), 3) := by decide +kernel
theorem dX5_image_180 : decode cX5_image 180 = .ok (.iconst 0, 1) := by decide +kernel
theorem dX5_image_181 : decode cX5_image 181 = .ok (.istore_n 1, 1) := by decide +kernel
theorem dX5_image_182 : decode cX5_image 182 = .ok (.iload_n 1, 1) := by decide +kernel
theorem dX5_image_183 : decode cX5_image 183 = .ok (.bipush 15, 2) := by decide +kernel
theorem dX5_image_185 : decode cX5_image 185 = .ok (.if_icmp .ge 33, 3) := by decide +kernel
theorem dX5_image_188 : decode cX5_image 188 = .ok (.aload_n 0, 1) := by decide +kernel
theorem dX5_image_189 : decode cX5_image 189 = .ok (.getfield 111, 3) := by decide +kernel
theorem dX5_image_192 : decode cX5_image 192 = .ok (.iload_n 1, 1) := by decide +kernel
theorem dX5_image_193 : decode cX5_image 193 = .ok (.aload_n 0, 1) := by decide +kernel
theorem dX5_image_194 : decode cX5_image 194 = .ok (.getfield 25, 3) := by decide +kernel
theorem dX5_image_197 : decode cX5_image 197 = .ok (.iload_n 1, 1) := by decide +kernel
theorem dX5_image_198 : decode cX5_image 198 = .ok (.iaload, 1) := by decide +kernel
theorem dX5_image_199 : decode cX5_image 199 = .ok (.iastore, 1) := by decide +kernel
theorem dX5_image_200 : decode cX5_image 200 = .ok (.aload_n 0, 1) := by decide +kernel
theorem dX5_image_201 : decode cX5_image 201 = .ok (.getfield 114, 3) := by decide +kernel
theorem dX5_image_204 : decode cX5_image 204 = .ok (.iload_n 1, 1) := by decide +kernel
theorem dX5_image_205 : decode cX5_image 205 = .ok (.aload_n 0, 1) := by decide +kernel
theorem dX5_image_206 : decode cX5_image 206 = .ok (.getfield 28, 3) := by decide +kernel
theorem dX5_image_209 : decode cX5_image 209 = .ok (.iload_n 1, 1) := by decide +kernel
theorem dX5_image_210 : decode cX5_image 210 = .ok (.iaload, 1) := by decide +kernel
theorem dX5_image_211 : decode cX5_image 211 = .ok (.iastore, 1) := by decide +kernel
theorem dX5_image_212 : decode cX5_image 212 = .ok (.iinc 1 1, 3) := by decide +kernel
theorem dX5_image_215 : decode cX5_image 215 = .ok (.goto (-33), 3) := by decide +kernel
theorem dX5_image_218 : decode cX5_image 218 = .ok (.iconst 0, 1) := by decide +kernel
theorem dX5_image_219 : decode cX5_image 219 = .ok (.istore_n 1, 1) := by decide +kernel
theorem dX5_image_220 : decode cX5_image 220 = .ok (.iload_n 1, 1) := by decide +kernel
theorem dX5_image_221 : decode cX5_image 221 = .ok (.bipush 30, 2) := by decide +kernel
theorem dX5_image_223 : decode cX5_image 223 = .ok (.if_icmp .ge 21, 3) := by decide +kernel
theorem dX5_image_226 : decode cX5_image 226 = .ok (.aload_n 0, 1) := by decide +kernel
theorem dX5_image_227 : decode cX5_image 227 = .ok (.getfield 129, 3) := by decide +kernel
theorem dX5_image_230 : decode cX5_image 230 = .ok (.iload_n 1, 1) := by decide +kernel
theorem dX5_image_231 : decode cX5_image 231 = .ok (.aload_n 0, 1) := by decide +kernel
theorem dX5_image_232 : decode cX5_image 232 = .ok (.getfield 47, 3) := by decide +kernel
theorem dX5_image_235 : decode cX5_image 235 = .ok (.iload_n 1, 1) := by decide +kernel
theorem dX5_image_236 : decode cX5_image 236 = .ok (.iaload, 1) := by decide +kernel
theorem dX5_image_237 : decode cX5_image 237 = .ok (.iastore, 1) := by decide +kernel
theorem dX5_image_238 : decode cX5_image 238 = .ok (.iinc 1 1, 3) := by decide +kernel
theorem dX5_image_241 : decode cX5_image 241 = .ok (.goto (-21), 3) := by decide +kernel
theorem dX5_image_244 : decode cX5_image 244 = .ok (.iconst 0, 1) := by decide +kernel
theorem dX5_image_245 : decode cX5_image 245 = .ok (.istore_n 1, 1) := by decide +kernel
theorem dX5_image_246 : decode cX5_image 246 = .ok (.iload_n 1, 1) := by decide +kernel
theorem dX5_image_247 : decode cX5_image 247 = .ok (.bipush 90, 2) := by decide +kernel
theorem dX5_image_249 : decode cX5_image 249 = .ok (.if_icmp .ge 21, 3) := by decide +kernel
theorem dX5_image_252 : decode cX5_image 252 = .ok (.aload_n 0, 1) := by decide +kernel
theorem dX5_image_253 : decode cX5_image 253 = .ok (.getfield 132, 3) := by decide +kernel
theorem dX5_image_256 : decode cX5_image 256 = .ok (.iload_n 1, 1) := by decide +kernel
theorem dX5_image_257 : decode cX5_image 257 = .ok (.aload_n 0, 1) := by decide +kernel
theorem dX5_image_258 : decode cX5_image 258 = .ok (.getfield 43, 3) := by decide +kernel
theorem dX5_image_261 : decode cX5_image 261 = .ok (.iload_n 1, 1) := by decide +kernel
theorem dX5_image_262 : decode cX5_image 262 = .ok (.laload, 1) := by decide +kernel
theorem dX5_image_263 : decode cX5_image 263 = .ok (.lastore, 1) := by decide +kernel
theorem dX5_image_264 : decode cX5_image 264 = .ok (.iinc 1 1, 3) := by decide +kernel
theorem dX5_image_267 : decode cX5_image 267 = .ok (.goto (-21), 3) := by decide +kernel
theorem dX5_image_270 : decode cX5_image 270 = .ok (.aload_n 0, 1) := by decide +kernel
theorem dX5_image_271 : decode cX5_image 271 = .ok (.getfield 264, 3) := by decide +kernel
theorem dX5_image_274 : decode cX5_image 274 = .ok (.ireturn, 1) := by decide +kernel
theorem dX5_on_0 : decode cX5_on 0 = .ok (.aload_n 0, 1) := by decide +kernel
theorem dX5_on_1 : decode cX5_on 1 = .ok (.getfield 347, 3) := by decide +kernel
theorem dX5_on_4 : decode cX5_on 4 = .ok (.ifCond .ne 10, 3) := by decide +kernel
theorem dX5_on_7 : decode cX5_on 7 = .ok (.aload_n 0, 1) := by decide +kernel
theorem dX5_on_8 : decode cX5_on 8 = .ok (.bipush (-3), 2) := by decide +kernel
theorem dX5_on_10 : decode cX5_on 10 = .ok (.invokevirtual 137, 3) := by decide +kernel
theorem dX5_on_13 : decode cX5_on 13 = .ok (.ireturn, 1) := by decide +kernel
theorem dX5_on_14 : decode cX5_on 14 = .ok (.aload_n 0, 1) := by decide +kernel
theorem dX5_on_15 : decode cX5_on 15 = .ok (.aload_n 0, 1) := by decide +kernel
theorem dX5_on_16 : decode cX5_on 16 = .ok (.getfield 351, 3) := by decide +kernel
theorem dX5_on_19 : decode cX5_on 19 = .ok (.putfield 142, 3) := by decide +kernel
theorem dX5_on_22 : decode cX5_on 22 = .ok (.aload_n 0, 1) := by decide +kernel
theorem dX5_on_23 : decode cX5_on 23 = .ok (.aload_n 0, 1) := by decide +kernel
theorem dX5_on_24 : decode cX5_on 24 = .ok (.getfield 354, 3) := by decide +kernel
theorem dX5_on_27 : decode cX5_on 27 = .ok (.putfield 149, 3) := by decide +kernel
theorem dX5_on_30 : decode cX5_on 30 = .ok (.aload_n 0, 1) := by decide +kernel
theorem dX5_on_31 : decode cX5_on 31 = .ok (.aload_n 0, 1) := by decide +kernel
theorem dX5_on_32 : decode cX5_on 32 = .ok (.getfield 357, 3) := by decide +kernel
theorem dX5_on_35 : decode cX5_on 35 = .ok (.putfield 194, 3) := by decide +kernel
theorem dX5_on_38 : decode cX5_on 38 = .ok (.aload_n 0, 1) := by decide +kernel
theorem dX5_on_39 : decode cX5_on 39 = .ok (.aload_n 0, 1) := by decide +kernel
theorem dX5_on_40 : decode cX5_on 40 = .ok (.getfield 360, 3) := by decide +kernel
theorem dX5_on_43 : decode cX5_on 43 = .ok (.putfield 50, 3) := by decide +kernel
theorem dX5_on_46 : decode cX5_on 46 = .ok (.aload_n 0, 1) := by decide +kernel
theorem dX5_on_47 : decode cX5_on 47 = .ok (.aload_n 0, 1) := by decide +kernel
theorem dX5_on_48 : decode cX5_on 48 = .ok (.getfield 363, 3) := by decide +kernel
theorem dX5_on_51 : decode cX5_on 51 = .ok (.putfield 264, 3) := by decide +kernel
theorem dX5_on_54 : decode cX5_on 54 = .ok (.iconst 0, 1) := by decide +kernel
theorem dX5_on_55 : decode cX5_on 55 = .ok (.istore_n 1, 1) := by decide +kernel
theorem dX5_on_56 : decode cX5_on 56 = .ok (.iload_n 1, 1) := by decide +kernel
theorem dX5_on_57 : decode cX5_on 57 = .ok (.bipush 6, 2) := by decide +kernel
theorem dX5_on_59 : decode cX5_on 59 = .ok (.if_icmp .ge 57, 3) := by decide +kernel
theorem dX5_on_62 : decode cX5_on 62 = .ok (.aload_n 0, 1) := by decide +kernel
theorem dX5_on_63 : decode cX5_on 63 = .ok (.getfield 7, 3) := by decide +kernel
theorem dX5_on_66 : decode cX5_on 66 = .ok (.iload_n 1, 1) := by decide +kernel
theorem dX5_on_67 : decode cX5_on 67 = .ok (.aload_n 0, 1) := by decide +kernel
theorem dX5_on_68 : decode cX5_on 68 = .ok (.getfield 96, 3) := by decide +kernel
theorem dX5_on_71 : decode cX5_on 71 = .ok (.iload_n 1, 1) := by decide +kernel
theorem dX5_on_72 : decode cX5_on 72 = .ok (.iaload, 1) := by decide +kernel
theorem dX5_on_73 : decode cX5_on 73 = .ok (.iastore, 1) := by decide +kernel
theorem dX5_on_74 : decode cX5_on 74 = .ok (.aload_n 0, 1) := by decide +kernel
theorem dX5_on_75 : decode cX5_on 75 = .ok (.getfield 13, 3) := by decide +kernel
theorem dX5_on_78 : decode cX5_on 78 = .ok (.iload_n 1, 1) := by decide +kernel
theorem dX5_on_79 : decode cX5_on 79 = .ok (.aload_n 0, 1) := by decide +kernel
theorem dX5_on_80 : decode cX5_on 80 = .ok (.getfield 99, 3) := by decide +kernel
theorem dX5_on_83 : decode cX5_on 83 = .ok (.iload_n 1, 1) := by decide +kernel
theorem dX5_on_84 : decode cX5_on 84 = .ok (.iaload, 1) := by decide +kernel
theorem dX5_on_85 : decode cX5_on 85 = .ok (.iastore, 1) := by decide +kernel
theorem dX5_on_86 : decode cX5_on 86 = .ok (.aload_n 0, 1) := by decide +kernel
theorem dX5_on_87 : decode cX5_on 87 = .ok (.getfield 16, 3) := by decide +kernel
theorem dX5_on_90 : decode cX5_on 90 = .ok (.iload_n 1, 1) := by decide +kernel
theorem dX5_on_91 : decode cX5_on 91 = .ok (.aload_n 0, 1) := by decide +kernel
theorem dX5_on_92 : decode cX5_on 92 = .ok (.getfield 102, 3) := by decide +kernel
theorem dX5_on_95 : decode cX5_on 95 = .ok (.iload_n 1, 1) := by decide +kernel
theorem dX5_on_96 : decode cX5_on 96 = .ok (.iaload, 1) := by decide +kernel
theorem dX5_on_97 : decode cX5_on 97 = .ok (.iastore, 1) := by decide +kernel
theorem dX5_on_98 : decode cX5_on 98 = .ok (.aload_n 0, 1) := by decide +kernel
theorem dX5_on_99 : decode cX5_on 99 = .ok (.getfield 19, 3) := by decide +kernel
theorem dX5_on_102 : decode cX5_on 102 = .ok (.iload_n 1, 1) := by decide +kernel
theorem dX5_on_103 : decode cX5_on 103 = .ok (.aload_n 0, 1) := by decide +kernel
theorem dX5_on_104 : decode cX5_on 104 = .ok (.getfield 105, 3) := by decide +kernel
theorem dX5_on_107 : decode cX5_on 107 = .ok (.iload_n 1, 1) := by decide +kernel
theorem dX5_on_108 : decode cX5_on 108 = .ok (.iaload, 1) := by decide +kernel
theorem dX5_on_109 : decode cX5_on 109 = .ok (.iastore, 1) := by decide +kernel
theorem dX5_on_110 : decode cX5_on 110 = .ok (.iinc 1 1, 3) := by decide +kernel
theorem dX5_on_113 : decode cX5_on 113 = .ok (.goto (-57), 3) := by decide +kernel
theorem dX5_on_116 : decode cX5_on 116 = .ok (.iconst 0, 1) := by decide +kernel
theorem dX5_on_117 : decode cX5_on 117 = .ok (.istore_n 1, 1) := by decide +kernel
theorem dX5_on_118 : decode cX5_on 118 = .ok (.iload_n 1, 1) := by decide +kernel
theorem dX5_on_119 : decode cX5_on 119 = .ok (.iconst 5, 1) := by decide +kernel
theorem dX5_on_120 : decode cX5_on 120 = .ok (.if_icmp .ge 69, 3) := by decide +kernel
theorem dX5_on_123 : decode cX5_on 123 = .ok (.aload_n 0, 1) := by decide +kernel
theorem dX5_on_124 : decode cX5_on 124 = .ok (.getfield 22, 3) := by decide +kernel
theorem dX5_on_127 : decode cX5_on 127 = .ok (.iload_n 1, 1) := by decide +kernel
theorem dX5_on_128 : decode cX5_on 128 = .ok (.aload_n 0, 1) := by decide +kernel
theorem dX5_on_129 : decode cX5_on 129 = .ok (.getfield 108, 3) := by decide +kernel
theorem dX5_on_132 : decode cX5_on 132 = .ok (.iload_n 1, 1) := by decide +kernel
theorem dX5_on_133 : decode cX5_on 133 = .ok (.iaload, 1) := by decide +kernel
theorem dX5_on_134 : decode cX5_on 134 = .ok (.iastore, 1) := by decide +kernel
theorem dX5_on_135 : decode cX5_on 135 = .ok (.aload_n 0, 1) := by decide +kernel
theorem dX5_on_136 : decode cX5_on 136 = .ok (.getfield 31, 3) := by decide +kernel
theorem dX5_on_139 : decode cX5_on 139 = .ok (.iload_n 1, 1) := by decide +kernel
theorem dX5_on_140 : decode cX5_on 140 = .ok (.aload_n 0, 1) := by decide +kernel
theorem dX5_on_141 : decode cX5_on 141 = .ok (.getfield 117, 3) := by decide +kernel
theorem dX5_on_144 : decode cX5_on 144 = .ok (.iload_n 1, 1) := by decide +kernel
theorem dX5_on_145 : decode cX5_on 145 = .ok (.iaload, 1) := by decide +kernel
theorem dX5_on_146 : decode cX5_on 146 = .ok (.iastore, 1) := by decide +kernel
theorem dX5_on_147 : decode cX5_on 147 = .ok (.aload_n 0, 1) := by decide +kernel
theorem dX5_on_148 : decode cX5_on 148 = .ok (.getfield 34, 3) := by decide +kernel
theorem dX5_on_151 : decode cX5_on 151 = .ok (.iload_n 1, 1) := by decide +kernel
theorem dX5_on_152 : decode cX5_on 152 = .ok (.aload_n 0, 1) := by decide +kernel
theorem dX5_on_153 : decode cX5_on 153 = .ok (.getfield 120, 3) := by decide +kernel
theorem dX5_on_156 : decode cX5_on 156 = .ok (.iload_n 1, 1) := by decide +kernel
theorem dX5_on_157 : decode cX5_on 157 = .ok (.iaload, 1) := by decide +kernel
theorem dX5_on_158 : decode cX5_on 158 = .ok (.iastore, 1) := by decide +kernel
theorem dX5_on_159 : decode cX5_on 159 = .ok (.aload_n 0, 1) := by decide +kernel
theorem dX5_on_160 : decode cX5_on 160 = .ok (.getfield 37, 3) := by decide +kernel
theorem dX5_on_163 : decode cX5_on 163 = .ok (.iload_n 1, 1) := by decide +kernel
theorem dX5_on_164 : decode cX5_on 164 = .ok (.aload_n 0, 1) := by decide +kernel
theorem dX5_on_165 : decode cX5_on 165 = .ok (.getfield 123, 3) := by decide +kernel
theorem dX5_on_168 : decode cX5_on 168 = .ok (.iload_n 1, 1) := by decide +kernel
theorem dX5_on_169 : decode cX5_on 169 = .ok (.iaload, 1) := by decide +kernel
theorem dX5_on_170 : decode cX5_on 170 = .ok (.iastore, 1) := by decide +kernel
theorem dX5_on_171 : decode cX5_on 171 = .ok (.aload_n 0, 1) := by decide +kernel
theorem dX5_on_172 : decode cX5_on 172 = .ok (.getfield 40, 3) := by decide +kernel
theorem dX5_on_175 : decode cX5_on 175 = .ok (.iload_n 1, 1) := by decide +kernel
theorem dX5_on_176 : decode cX5_on 176 = .ok (.aload_n 0, 1) := by decide +kernel
theorem dX5_on_177 : decode cX5_on 177 = .ok (.getfield 126, 3) := by decide +kernel
theorem dX5_on_180 : decode cX5_on 180 = .ok (.iload_n 1, 1) := by decide +kernel
theorem dX5_on_181 : decode cX5_on 181 = .ok (.iaload, 1) := by decide +kernel
theorem dX5_on_182 : decode cX5_on 182 = .ok (.iastore, 1) := by decide +kernel
theorem dX5_on_183 : decode cX5_on 183 = .ok (.iinc 1 1, 3) := by decide +kernel
theorem dX5_on_186 : decode cX5_on 186 = .ok (.goto (-68), 3) := by decide +kernel
theorem dX5_on_189 : decode cX5_on 189 = .ok (.iconst 0, 1) := by decide +kernel
theorem dX5_on_190 : decode cX5_on 190 = .ok (.istore_n 1, 1) := by decide +kernel
theorem dX5_on_191 : decode cX5_on 191 = .ok (.iload_n 1, 1) := by decide +kernel
theorem dX5_on_192 : decode cX5_on 192 = .ok (.bipush 15, 2) := by decide +kernel
theorem dX5_on_194 : decode cX5_on 194 = .ok (.if_icmp .ge 33, 3) := by decide +kernel
theorem dX5_on_197 : decode cX5_on 197 = .ok (.aload_n 0, 1) := by decide +kernel
theorem dX5_on_198 : decode cX5_on 198 = .ok (.getfield 25, 3) := by decide +kernel
theorem dX5_on_201 : decode cX5_on 201 = .ok (.iload_n 1, 1) := by decide +kernel
theorem dX5_on_202 : decode cX5_on 202 = .ok (.aload_n 0, 1) := by decide +kernel
theorem dX5_on_203 : decode cX5_on 203 = .ok (.getfield 111, 3) := by decide +kernel
theorem dX5_on_206 : decode cX5_on 206 = .ok (.iload_n 1, 1) := by decide +kernel
theorem dX5_on_207 : decode cX5_on 207 = .ok (.iaload, 1) := by decide +kernel
theorem dX5_on_208 : decode cX5_on 208 = .ok (.iastore, 1) := by decide +kernel
theorem dX5_on_209 : decode cX5_on 209 = .ok (.aload_n 0, 1) := by decide +kernel
theorem dX5_on_210 : decode cX5_on 210 = .ok (.getfield 28, 3) := by decide +kernel
theorem dX5_on_213 : decode cX5_on 213 = .ok (.iload_n 1, 1) := by decide +kernel
theorem dX5_on_214 : decode cX5_on 214 = .ok (.aload_n 0, 1) := by decide +kernel
theorem dX5_on_215 : decode cX5_on 215 = .ok (.getfield 114, 3) := by decide +kernel
theorem dX5_on_218 : decode cX5_on 218 = .ok (.iload_n 1, 1) := by decide +kernel
theorem dX5_on_219 : decode cX5_on 219 = .ok (.iaload, 1) := by decide +kernel
theorem dX5_on_220 : decode cX5_on 220 = .ok (.iastore, 1) := by decide +kernel
theorem dX5_on_221 : decode cX5_on 221 = .ok (.iinc 1 1, 3) := by decide +kernel
theorem dX5_on_224 : decode cX5_on 224 = .ok (.goto (-33), 3) := by decide +kernel
theorem dX5_on_227 : decode cX5_on 227 = .ok (.iconst 0, 1) := by decide +kernel
theorem dX5_on_228 : decode cX5_on 228 = .ok (.istore_n 1, 1) := by decide +kernel
theorem dX5_on_229 : decode cX5_on 229 = .ok (.iload_n 1, 1) := by decide +kernel
theorem dX5_on_230 : decode cX5_on 230 = .ok (.bipush 30, 2) := by decide +kernel
theorem dX5_on_232 : decode cX5_on 232 = .ok (.if_icmp .ge 21, 3) := by decide +kernel
theorem dX5_on_235 : decode cX5_on 235 = .ok (.aload_n 0, 1) := by decide +kernel
theorem dX5_on_236 : decode cX5_on 236 = .ok (.getfield 47, 3) := by decide +kernel
theorem dX5_on_239 : decode cX5_on 239 = .ok (.iload_n 1, 1) := by decide +kernel
theorem dX5_on_240 : decode cX5_on 240 = .ok (.aload_n 0, 1) := by decide +kernel
theorem dX5_on_241 : decode cX5_on 241 = .ok (.getfield 129, 3) := by decide +kernel
theorem dX5_on_244 : decode cX5_on 244 = .ok (.iload_n 1, 1) := by decide +kernel
theorem dX5_on_245 : decode cX5_on 245 = .ok (.iaload, 1) := by decide +kernel
theorem dX5_on_246 : decode cX5_on 246 = .ok (.iastore, 1) := by decide +kernel
theorem dX5_on_247 : decode cX5_on 247 = .ok (.iinc 1 1, 3) := by decide +kernel
theorem dX5_on_250 : decode cX5_on 250 = .ok (.goto (-21), 3) := by decide +kernel
theorem dX5_on_253 : decode cX5_on 253 = .ok (.iconst 0, 1) := by decide +kernel
theorem dX5_on_254 : decode cX5_on 254 = .ok (.istore_n 1, 1) := by decide +kernel
theorem dX5_on_255 : decode cX5_on 255 = .ok (.iload_n 1, 1) := by decide +kernel
theorem dX5_on_256 : decode cX5_on 256 = .ok (.bipush 90, 2) := by decide +kernel
theorem dX5_on_258 : decode cX5_on 258 = .ok (.if_icmp .ge 21, 3) := by decide +kernel
theorem dX5_on_261 : decode cX5_on 261 = .ok (.aload_n 0, 1) := by decide +kernel
theorem dX5_on_262 : decode cX5_on 262 = .ok (.getfield 43, 3) := by decide +kernel
theorem dX5_on_265 : decode cX5_on 265 = .ok (.iload_n 1, 1) := by decide +kernel
theorem dX5_on_266 : decode cX5_on 266 = .ok (.aload_n 0, 1) := by decide +kernel
theorem dX5_on_267 : decode cX5_on 267 = .ok (.getfield 132, 3) := by decide +kernel
theorem dX5_on_270 : decode cX5_on 270 = .ok (.iload_n 1, 1) := by decide +kernel
theorem dX5_on_271 : decode cX5_on 271 = .ok (.laload, 1) := by decide +kernel
theorem dX5_on_272 : decode cX5_on 272 = .ok (.lastore, 1) := by decide +kernel
theorem dX5_on_273 : decode cX5_on 273 = .ok (.iinc 1 1, 3) := by decide +kernel
theorem dX5_on_276 : decode cX5_on 276 = .ok (.goto (-21), 3) := by decide +kernel
theorem dX5_on_279 : decode cX5_on 279 = .ok (.aload_n 0, 1) := by decide +kernel
theorem dX5_on_280 : decode cX5_on 280 = .ok (.getfield 264, 3) := by decide +kernel
theorem dX5_on_283 : decode cX5_on 283 = .ok (.ireturn, 1) := by decide +kernel
theorem dX5_inForce_0 : decode cX5_inForce 0 = .ok (.iconst 0, 1) := by decide +kernel
theorem dX5_inForce_1 : decode cX5_inForce 1 = .ok (.istore_n 1, 1) := by decide +kernel
theorem dX5_inForce_2 : decode cX5_inForce 2 = .ok (.iconst 0, 1) := by decide +kernel
theorem dX5_inForce_3 : decode cX5_inForce 3 = .ok (.istore_n 2, 1) := by decide +kernel
theorem dX5_inForce_4 : decode cX5_inForce 4 = .ok (.iload_n 2, 1) := by decide +kernel
theorem dX5_inForce_5 : decode cX5_inForce 5 = .ok (.aload_n 0, 1) := by decide +kernel
theorem dX5_inForce_6 : decode cX5_inForce 6 = .ok (.getfield 149, 3) := by decide +kernel
theorem dX5_inForce_9 : decode cX5_inForce 9 = .ok (.if_icmp .ge 25, 3) := by decide +kernel
theorem dX5_inForce_12 : decode cX5_inForce 12 = .ok (.iload_n 1, 1) := by decide +kernel
theorem dX5_inForce_13 : decode cX5_inForce 13 = .ok (.aload_n 0, 1) := by decide +kernel
theorem dX5_inForce_14 : decode cX5_inForce 14 = .ok (.iload_n 2, 1) := by decide +kernel
theorem dX5_inForce_15 : decode cX5_inForce 15 = .ok (.invokevirtual 231, 3) := by decide +kernel
theorem dX5_inForce_18 : decode cX5_inForce 18 = .ok (.ifCond .eq 7, 3) := by decide +kernel
theorem dX5_inForce_21 : decode cX5_inForce 21 = .ok (.iconst 1, 1) := by decide +kernel
theorem dX5_inForce_22 : decode cX5_inForce 22 = .ok (.goto 4, 3) := by decide +kernel
theorem dX5_inForce_25 : decode cX5_inForce 25 = .ok (.iconst 0, 1) := by decide +kernel
theorem dX5_inForce_26 : decode cX5_inForce 26 = .ok (.iadd, 1) := by decide +kernel
theorem dX5_inForce_27 : decode cX5_inForce 27 = .ok (.istore_n 1, 1) := by decide +kernel
theorem dX5_inForce_28 : decode cX5_inForce 28 = .ok (.iinc 2 1, 3) := by decide +kernel
theorem dX5_inForce_31 : decode cX5_inForce 31 = .ok (.goto (-27), 3) := by decide +kernel
theorem dX5_inForce_34 : decode cX5_inForce 34 = .ok (.iload_n 1, 1) := by decide +kernel
theorem dX5_inForce_35 : decode cX5_inForce 35 = .ok (.ireturn, 1) := by decide +kernel
theorem dX5_count_0 : decode cX5_count 0 = .ok (.iload_n 1, 1) := by decide +kernel
theorem dX5_count_1 : decode cX5_count 1 = .ok (.tableswitch 87 0 7 #[47, 52, 57, 62, 67, 72, 77, 82], 47) := by decide +kernel
theorem dX5_count_48 : decode cX5_count 48 = .ok (.aload_n 0, 1) := by decide +kernel
theorem dX5_count_49 : decode cX5_count 49 = .ok (.getfield 142, 3) := by decide +kernel
theorem dX5_count_52 : decode cX5_count 52 = .ok (.ireturn, 1) := by decide +kernel
theorem dX5_count_53 : decode cX5_count 53 = .ok (.aload_n 0, 1) := by decide +kernel
theorem dX5_count_54 : decode cX5_count 54 = .ok (.getfield 149, 3) := by decide +kernel
theorem dX5_count_57 : decode cX5_count 57 = .ok (.ireturn, 1) := by decide +kernel
theorem dX5_count_58 : decode cX5_count 58 = .ok (.aload_n 0, 1) := by decide +kernel
theorem dX5_count_59 : decode cX5_count 59 = .ok (.getfield 264, 3) := by decide +kernel
theorem dX5_count_62 : decode cX5_count 62 = .ok (.ireturn, 1) := by decide +kernel
theorem dX5_count_63 : decode cX5_count 63 = .ok (.aload_n 0, 1) := by decide +kernel
theorem dX5_count_64 : decode cX5_count 64 = .ok (.invokevirtual 366, 3) := by decide +kernel
theorem dX5_count_67 : decode cX5_count 67 = .ok (.ireturn, 1) := by decide +kernel
theorem dX5_count_68 : decode cX5_count 68 = .ok (.aload_n 0, 1) := by decide +kernel
theorem dX5_count_69 : decode cX5_count 69 = .ok (.getfield 194, 3) := by decide +kernel
theorem dX5_count_72 : decode cX5_count 72 = .ok (.ireturn, 1) := by decide +kernel
theorem dX5_count_73 : decode cX5_count 73 = .ok (.aload_n 0, 1) := by decide +kernel
theorem dX5_count_74 : decode cX5_count 74 = .ok (.getfield 50, 3) := by decide +kernel
theorem dX5_count_77 : decode cX5_count 77 = .ok (.ireturn, 1) := by decide +kernel
theorem dX5_count_78 : decode cX5_count 78 = .ok (.aload_n 0, 1) := by decide +kernel
theorem dX5_count_79 : decode cX5_count 79 = .ok (.getfield 344, 3) := by decide +kernel
theorem dX5_count_82 : decode cX5_count 82 = .ok (.ireturn, 1) := by decide +kernel
theorem dX5_count_83 : decode cX5_count 83 = .ok (.aload_n 0, 1) := by decide +kernel
theorem dX5_count_84 : decode cX5_count 84 = .ok (.getfield 152, 3) := by decide +kernel
theorem dX5_count_87 : decode cX5_count 87 = .ok (.ireturn, 1) := by decide +kernel
theorem dX5_count_88 : decode cX5_count 88 = .ok (.iload_n 1, 1) := by decide +kernel
theorem dX5_count_89 : decode cX5_count 89 = .ok (.bipush 11, 2) := by decide +kernel
theorem dX5_count_91 : decode cX5_count 91 = .ok (.bipush 16, 2) := by decide +kernel
theorem dX5_count_93 : decode cX5_count 93 = .ok (.invokestatic 145, 3) := by decide +kernel
theorem dX5_count_96 : decode cX5_count 96 = .ok (.ifCond .eq 15, 3) := by decide +kernel
theorem dX5_count_99 : decode cX5_count 99 = .ok (.aload_n 0, 1) := by decide +kernel
theorem dX5_count_100 : decode cX5_count 100 = .ok (.getfield 60, 3) := by decide +kernel
theorem dX5_count_103 : decode cX5_count 103 = .ok (.iload_n 1, 1) := by decide +kernel
theorem dX5_count_104 : decode cX5_count 104 = .ok (.bipush 10, 2) := by decide +kernel
theorem dX5_count_106 : decode cX5_count 106 = .ok (.isub, 1) := by decide +kernel
theorem dX5_count_107 : decode cX5_count 107 = .ok (.iaload, 1) := by decide +kernel
theorem dX5_count_108 : decode cX5_count 108 = .ok (.goto 5, 3) := by decide +kernel
theorem dX5_count_111 : decode cX5_count 111 = .ok (.bipush (-9), 2) := by decide +kernel
theorem dX5_count_113 : decode cX5_count 113 = .ok (.ireturn, 1) := by decide +kernel

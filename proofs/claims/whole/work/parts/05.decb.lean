theorem dX7_init_0 : decode cX7_init 0 = .ok (.aload_n 0, 1) := by decide +kernel
theorem dX7_init_1 : decode cX7_init 1 = .ok (.invokespecial 1, 3) := by decide +kernel
theorem dX7_init_4 : decode cX7_init 4 = .ok (.aload_n 0, 1) := by decide +kernel
theorem dX7_init_5 : decode cX7_init 5 = .ok (.iconst 4, 1) := by decide +kernel
theorem dX7_init_6 : decode cX7_init 6 = .ok (.newarray .int, 2) := by decide +kernel
theorem dX7_init_8 : decode cX7_init 8 = .ok (.putfield 7, 3) := by decide +kernel
theorem dX7_init_11 : decode cX7_init 11 = .ok (.aload_n 0, 1) := by decide +kernel
theorem dX7_init_12 : decode cX7_init 12 = .ok (.iconst 4, 1) := by decide +kernel
theorem dX7_init_13 : decode cX7_init 13 = .ok (.newarray .int, 2) := by decide +kernel
theorem dX7_init_15 : decode cX7_init 15 = .ok (.putfield 13, 3) := by decide +kernel
theorem dX7_init_18 : decode cX7_init 18 = .ok (.aload_n 0, 1) := by decide +kernel
theorem dX7_init_19 : decode cX7_init 19 = .ok (.iconst 4, 1) := by decide +kernel
theorem dX7_init_20 : decode cX7_init 20 = .ok (.newarray .int, 2) := by decide +kernel
theorem dX7_init_22 : decode cX7_init 22 = .ok (.putfield 16, 3) := by decide +kernel
theorem dX7_init_25 : decode cX7_init 25 = .ok (.aload_n 0, 1) := by decide +kernel
theorem dX7_init_26 : decode cX7_init 26 = .ok (.iconst 4, 1) := by decide +kernel
theorem dX7_init_27 : decode cX7_init 27 = .ok (.newarray .int, 2) := by decide +kernel
theorem dX7_init_29 : decode cX7_init 29 = .ok (.putfield 19, 3) := by decide +kernel
theorem dX7_init_32 : decode cX7_init 32 = .ok (.aload_n 0, 1) := by decide +kernel
theorem dX7_init_33 : decode cX7_init 33 = .ok (.iconst 4, 1) := by decide +kernel
theorem dX7_init_34 : decode cX7_init 34 = .ok (.newarray .int, 2) := by decide +kernel
theorem dX7_init_36 : decode cX7_init 36 = .ok (.putfield 22, 3) := by decide +kernel
theorem dX7_init_39 : decode cX7_init 39 = .ok (.aload_n 0, 1) := by decide +kernel
theorem dX7_init_40 : decode cX7_init 40 = .ok (.iconst 4, 1) := by decide +kernel
theorem dX7_init_41 : decode cX7_init 41 = .ok (.newarray .int, 2) := by decide +kernel
theorem dX7_init_43 : decode cX7_init 43 = .ok (.putfield 25, 3) := by decide +kernel
theorem dX7_init_46 : decode cX7_init 46 = .ok (.aload_n 0, 1) := by decide +kernel
theorem dX7_init_47 : decode cX7_init 47 = .ok (.iconst 4, 1) := by decide +kernel
theorem dX7_init_48 : decode cX7_init 48 = .ok (.newarray .int, 2) := by decide +kernel
theorem dX7_init_50 : decode cX7_init 50 = .ok (.putfield 28, 3) := by decide +kernel
theorem dX7_init_53 : decode cX7_init 53 = .ok (.aload_n 0, 1) := by decide +kernel
theorem dX7_init_54 : decode cX7_init 54 = .ok (.bipush 6, 2) := by decide +kernel
theorem dX7_init_56 : decode cX7_init 56 = .ok (.newarray .int, 2) := by decide +kernel
theorem dX7_init_58 : decode cX7_init 58 = .ok (.putfield 31, 3) := by decide +kernel
theorem dX7_init_61 : decode cX7_init 61 = .ok (.aload_n 0, 1) := by decide +kernel
theorem dX7_init_62 : decode cX7_init 62 = .ok (.bipush 6, 2) := by decide +kernel
theorem dX7_init_64 : decode cX7_init 64 = .ok (.newarray .int, 2) := by decide +kernel
theorem dX7_init_66 : decode cX7_init 66 = .ok (.putfield 34, 3) := by decide +kernel
theorem dX7_init_69 : decode cX7_init 69 = .ok (.aload_n 0, 1) := by decide +kernel
theorem dX7_init_70 : decode cX7_init 70 = .ok (.bipush 6, 2) := by decide +kernel
theorem dX7_init_72 : decode cX7_init 72 = .ok (.newarray .int, 2) := by decide +kernel
theorem dX7_init_74 : decode cX7_init 74 = .ok (.putfield 37, 3) := by decide +kernel
theorem dX7_init_77 : decode cX7_init 77 = .ok (.aload_n 0, 1) := by decide +kernel
theorem dX7_init_78 : decode cX7_init 78 = .ok (.sipush 3006, 3) := by decide +kernel
theorem dX7_init_81 : decode cX7_init 81 = .ok (.newarray .int, 2) := by decide +kernel
theorem dX7_init_83 : decode cX7_init 83 = .ok (.putfield 40, 3) := by decide +kernel
theorem dX7_init_86 : decode cX7_init 86 = .ok (.aload_n 0, 1) := by decide +kernel
theorem dX7_init_87 : decode cX7_init 87 = .ok (.bipush 6, 2) := by decide +kernel
theorem dX7_init_89 : decode cX7_init 89 = .ok (.newarray .int, 2) := by decide +kernel
theorem dX7_init_91 : decode cX7_init 91 = .ok (.putfield 43, 3) := by decide +kernel
theorem dX7_init_94 : decode cX7_init 94 = .ok (.aload_n 0, 1) := by decide +kernel
theorem dX7_init_95 : decode cX7_init 95 = .ok (.bipush 6, 2) := by decide +kernel
theorem dX7_init_97 : decode cX7_init 97 = .ok (.newarray .int, 2) := by decide +kernel
theorem dX7_init_99 : decode cX7_init 99 = .ok (.putfield 46, 3) := by decide +kernel
theorem dX7_init_102 : decode cX7_init 102 = .ok (.aload_n 0, 1) := by decide +kernel
theorem dX7_init_103 : decode cX7_init 103 = .ok (.bipush 6, 2) := by decide +kernel
theorem dX7_init_105 : decode cX7_init 105 = .ok (.newarray .int, 2) := by decide +kernel
theorem dX7_init_107 : decode cX7_init 107 = .ok (.putfield 49, 3) := by decide +kernel
theorem dX7_init_110 : decode cX7_init 110 = .ok (.aload_n 0, 1) := by decide +kernel
theorem dX7_init_111 : decode cX7_init 111 = .ok (.bipush 6, 2) := by decide +kernel
theorem dX7_init_113 : decode cX7_init 113 = .ok (.newarray .int, 2) := by decide +kernel
theorem dX7_init_115 : decode cX7_init 115 = .ok (.putfield 52, 3) := by decide +kernel
theorem dX7_init_118 : decode cX7_init 118 = .ok (.aload_n 0, 1) := by decide +kernel
theorem dX7_init_119 : decode cX7_init 119 = .ok (.bipush 10, 2) := by decide +kernel
theorem dX7_init_121 : decode cX7_init 121 = .ok (.newarray .int, 2) := by decide +kernel
theorem dX7_init_123 : decode cX7_init 123 = .ok (.putfield 55, 3) := by decide +kernel
theorem dX7_init_126 : decode cX7_init 126 = .ok (.aload_n 0, 1) := by decide +kernel
theorem dX7_init_127 : decode cX7_init 127 = .ok (.bipush 24, 2) := by decide +kernel
theorem dX7_init_129 : decode cX7_init 129 = .ok (.newarray .int, 2) := by decide +kernel
theorem dX7_init_131 : decode cX7_init 131 = .ok (.putfield 58, 3) := by decide +kernel
theorem dX7_init_134 : decode cX7_init 134 = .ok (.aload_n 0, 1) := by decide +kernel
theorem dX7_init_135 : decode cX7_init 135 = .ok (.bipush 24, 2) := by decide +kernel
theorem dX7_init_137 : decode cX7_init 137 = .ok (.newarray .int, 2) := by decide +kernel
theorem dX7_init_139 : decode cX7_init 139 = .ok (.putfield 61, 3) := by decide +kernel
theorem dX7_init_142 : decode cX7_init 142 = .ok (.aload_n 0, 1) := by decide +kernel
theorem dX7_init_143 : decode cX7_init 143 = .ok (.bipush 24, 2) := by decide +kernel
theorem dX7_init_145 : decode cX7_init 145 = .ok (.newarray .int, 2) := by decide +kernel
theorem dX7_init_147 : decode cX7_init 147 = .ok (.putfield 64, 3) := by decide +kernel
theorem dX7_init_150 : decode cX7_init 150 = .ok (.aload_n 0, 1) := by decide +kernel
theorem dX7_init_151 : decode cX7_init 151 = .ok (.bipush 24, 2) := by decide +kernel
theorem dX7_init_153 : decode cX7_init 153 = .ok (.newarray .int, 2) := by decide +kernel
theorem dX7_init_155 : decode cX7_init 155 = .ok (.putfield 67, 3) := by decide +kernel
theorem dX7_init_158 : decode cX7_init 158 = .ok (.aload_n 0, 1) := by decide +kernel
theorem dX7_init_159 : decode cX7_init 159 = .ok (.bipush 24, 2) := by decide +kernel
theorem dX7_init_161 : decode cX7_init 161 = .ok (.newarray .int, 2) := by decide +kernel
theorem dX7_init_163 : decode cX7_init 163 = .ok (.putfield 70, 3) := by decide +kernel
theorem dX7_init_166 : decode cX7_init 166 = .ok (.aload_n 0, 1) := by decide +kernel
theorem dX7_init_167 : decode cX7_init 167 = .ok (.bipush 24, 2) := by decide +kernel
theorem dX7_init_169 : decode cX7_init 169 = .ok (.newarray .int, 2) := by decide +kernel
theorem dX7_init_171 : decode cX7_init 171 = .ok (.putfield 73, 3) := by decide +kernel
theorem dX7_init_174 : decode cX7_init 174 = .ok (.aload_n 0, 1) := by decide +kernel
theorem dX7_init_175 : decode cX7_init 175 = .ok (.bipush 24, 2) := by decide +kernel
theorem dX7_init_177 : decode cX7_init 177 = .ok (.newarray .int, 2) := by decide +kernel
theorem dX7_init_179 : decode cX7_init 179 = .ok (.putfield 76, 3) := by decide +kernel
theorem dX7_init_182 : decode cX7_init 182 = .ok (.aload_n 0, 1) := by decide +kernel
theorem dX7_init_183 : decode cX7_init 183 = .ok (.bipush 24, 2) := by decide +kernel
theorem dX7_init_185 : decode cX7_init 185 = .ok (.newarray .int, 2) := by decide +kernel
theorem dX7_init_187 : decode cX7_init 187 = .ok (.putfield 79, 3) := by decide +kernel
theorem dX7_init_190 : decode cX7_init 190 = .ok (.aload_n 0, 1) := by decide +kernel
theorem dX7_init_191 : decode cX7_init 191 = .ok (.bipush 24, 2) := by decide +kernel
theorem dX7_init_193 : decode cX7_init 193 = .ok (.newarray .int, 2) := by decide +kernel
theorem dX7_init_195 : decode cX7_init 195 = .ok (.putfield 82, 3) := by decide +kernel
theorem dX7_init_198 : decode cX7_init 198 = .ok (.aload_n 0, 1) := by decide +kernel
theorem dX7_init_199 : decode cX7_init 199 = .ok (.bipush 24, 2) := by decide +kernel
theorem dX7_init_201 : decode cX7_init 201 = .ok (.newarray .int, 2) := by decide +kernel
theorem dX7_init_203 : decode cX7_init 203 = .ok (.putfield 85, 3) := by decide +kernel
theorem dX7_init_206 : decode cX7_init 206 = .ok (.aload_n 0, 1) := by decide +kernel
theorem dX7_init_207 : decode cX7_init 207 = .ok (.bipush 40, 2) := by decide +kernel
theorem dX7_init_209 : decode cX7_init 209 = .ok (.newarray .int, 2) := by decide +kernel
theorem dX7_init_211 : decode cX7_init 211 = .ok (.putfield 88, 3) := by decide +kernel
theorem dX7_init_214 : decode cX7_init 214 = .ok (.aload_n 0, 1) := by decide +kernel
theorem dX7_init_215 : decode cX7_init 215 = .ok (.bipush 40, 2) := by decide +kernel
theorem dX7_init_217 : decode cX7_init 217 = .ok (.newarray .int, 2) := by decide +kernel
theorem dX7_init_219 : decode cX7_init 219 = .ok (.putfield 91, 3) := by decide +kernel
theorem dX7_init_222 : decode cX7_init 222 = .ok (.aload_n 0, 1) := by decide +kernel
theorem dX7_init_223 : decode cX7_init 223 = .ok (.bipush 40, 2) := by decide +kernel
theorem dX7_init_225 : decode cX7_init 225 = .ok (.newarray .int, 2) := by decide +kernel
theorem dX7_init_227 : decode cX7_init 227 = .ok (.putfield 94, 3) := by decide +kernel
theorem dX7_init_230 : decode cX7_init 230 = .ok (.aload_n 0, 1) := by decide +kernel
theorem dX7_init_231 : decode cX7_init 231 = .ok (.bipush 40, 2) := by decide +kernel
theorem dX7_init_233 : decode cX7_init 233 = .ok (.newarray .int, 2) := by decide +kernel
theorem dX7_init_235 : decode cX7_init 235 = .ok (.putfield 97, 3) := by decide +kernel
theorem dX7_init_238 : decode cX7_init 238 = .ok (.aload_n 0, 1) := by decide +kernel
theorem dX7_init_239 : decode cX7_init 239 = .ok (.bipush 40, 2) := by decide +kernel
theorem dX7_init_241 : decode cX7_init 241 = .ok (.newarray .int, 2) := by decide +kernel
theorem dX7_init_243 : decode cX7_init 243 = .ok (.putfield 100, 3) := by decide +kernel
theorem dX7_init_246 : decode cX7_init 246 = .ok (.aload_n 0, 1) := by decide +kernel
theorem dX7_init_247 : decode cX7_init 247 = .ok (.bipush 40, 2) := by decide +kernel
theorem dX7_init_249 : decode cX7_init 249 = .ok (.newarray .int, 2) := by decide +kernel
theorem dX7_init_251 : decode cX7_init 251 = .ok (.putfield 103, 3) := by decide +kernel
theorem dX7_init_254 : decode cX7_init 254 = .ok (.aload_n 0, 1) := by decide +kernel
theorem dX7_init_255 : decode cX7_init 255 = .ok (.bipush 40, 2) := by decide +kernel
theorem dX7_init_257 : decode cX7_init 257 = .ok (.newarray .int, 2) := by decide +kernel
theorem dX7_init_259 : decode cX7_init 259 = .ok (.putfield 106, 3) := by decide +kernel
theorem dX7_init_262 : decode cX7_init 262 = .ok (.aload_n 0, 1) := by decide +kernel
theorem dX7_init_263 : decode cX7_init 263 = .ok (.bipush 40, 2) := by decide +kernel
theorem dX7_init_265 : decode cX7_init 265 = .ok (.newarray .int, 2) := by decide +kernel
theorem dX7_init_267 : decode cX7_init 267 = .ok (.putfield 109, 3) := by decide +kernel
theorem dX7_init_270 : decode cX7_init 270 = .ok (.aload_n 0, 1) := by decide +kernel
theorem dX7_init_271 : decode cX7_init 271 = .ok (.bipush 40, 2) := by decide +kernel
theorem dX7_init_273 : decode cX7_init 273 = .ok (.newarray .int, 2) := by decide +kernel
theorem dX7_init_275 : decode cX7_init 275 = .ok (.putfield 112, 3) := by decide +kernel
theorem dX7_init_278 : decode cX7_init 278 = .ok (.aload_n 0, 1) := by decide +kernel
theorem dX7_init_279 : decode cX7_init 279 = .ok (.bipush 40, 2) := by decide +kernel
theorem dX7_init_281 : decode cX7_init 281 = .ok (.newarray .int, 2) := by decide +kernel
theorem dX7_init_283 : decode cX7_init 283 = .ok (.putfield 115, 3) := by decide +kernel
theorem dX7_init_286 : decode cX7_init 286 = .ok (.aload_n 0, 1) := by decide +kernel
theorem dX7_init_287 : decode cX7_init 287 = .ok (.bipush 40, 2) := by decide +kernel
theorem dX7_init_289 : decode cX7_init 289 = .ok (.newarray .int, 2) := by decide +kernel
theorem dX7_init_291 : decode cX7_init 291 = .ok (.putfield 118, 3) := by decide +kernel
theorem dX7_init_294 : decode cX7_init 294 = .ok (.aload_n 0, 1) := by decide +kernel
theorem dX7_init_295 : decode cX7_init 295 = .ok (.bipush 40, 2) := by decide +kernel
theorem dX7_init_297 : decode cX7_init 297 = .ok (.newarray .int, 2) := by decide +kernel
theorem dX7_init_299 : decode cX7_init 299 = .ok (.putfield 121, 3) := by decide +kernel
theorem dX7_init_302 : decode cX7_init 302 = .ok (.aload_n 0, 1) := by decide +kernel
theorem dX7_init_303 : decode cX7_init 303 = .ok (.iconst 4, 1) := by decide +kernel
theorem dX7_init_304 : decode cX7_init 304 = .ok (.newarray .int, 2) := by decide +kernel
theorem dX7_init_306 : decode cX7_init 306 = .ok (.putfield 124, 3) := by decide +kernel
theorem dX7_init_309 : decode cX7_init 309 = .ok (.aload_n 0, 1) := by decide +kernel
theorem dX7_init_310 : decode cX7_init 310 = .ok (.iconst 4, 1) := by decide +kernel
theorem dX7_init_311 : decode cX7_init 311 = .ok (.newarray .int, 2) := by decide +kernel
theorem dX7_init_313 : decode cX7_init 313 = .ok (.putfield 127, 3) := by decide +kernel
theorem dX7_init_316 : decode cX7_init 316 = .ok (.aload_n 0, 1) := by decide +kernel
theorem dX7_init_317 : decode cX7_init 317 = .ok (.bipush 40, 2) := by decide +kernel
theorem dX7_init_319 : decode cX7_init 319 = .ok (.newarray .int, 2) := by decide +kernel
theorem dX7_init_321 : decode cX7_init 321 = .ok (.putfield 130, 3) := by decide +kernel
theorem dX7_init_324 : decode cX7_init 324 = .ok (.return_, 1) := by decide +kernel
theorem dX7_thrown_0 : decode cX7_thrown 0 = .ok (.aload_n 0, 1) := by decide +kernel
theorem dX7_thrown_1 : decode cX7_thrown 1 = .ok (.getfield 133, 3) := by decide +kernel
theorem dX7_thrown_4 : decode cX7_thrown 4 = .ok (.ireturn, 1) := by decide +kernel
theorem dX7_in_0 : decode cX7_in 0 = .ok (.iload_n 0, 1) := by decide +kernel
theorem dX7_in_1 : decode cX7_in 1 = .ok (.iload_n 1, 1) := by decide +kernel
theorem dX7_in_2 : decode cX7_in 2 = .ok (.if_icmp .lt 12, 3) := by decide +kernel
theorem dX7_in_5 : decode cX7_in 5 = .ok (.iload_n 0, 1) := by decide +kernel
theorem dX7_in_6 : decode cX7_in 6 = .ok (.iload_n 2, 1) := by decide +kernel
theorem dX7_in_7 : decode cX7_in 7 = .ok (.if_icmp .gt 7, 3) := by decide +kernel
theorem dX7_in_10 : decode cX7_in 10 = .ok (.iconst 1, 1) := by decide +kernel
theorem dX7_in_11 : decode cX7_in 11 = .ok (.goto 4, 3) := by decide +kernel
theorem dX7_in_14 : decode cX7_in 14 = .ok (.iconst 0, 1) := by decide +kernel
theorem dX7_in_15 : decode cX7_in 15 = .ok (.ireturn, 1) := by decide +kernel
theorem dX7_isIsland_0 : decode cX7_isIsland 0 = .ok (.iload_n 0, 1) := by decide +kernel
theorem dX7_isIsland_1 : decode cX7_isIsland 1 = .ok (.iconst 0, 1) := by decide +kernel
theorem dX7_isIsland_2 : decode cX7_isIsland 2 = .ok (.iconst 5, 1) := by decide +kernel
theorem dX7_isIsland_3 : decode cX7_isIsland 3 = .ok (.invokestatic 137, 3) := by decide +kernel
theorem dX7_isIsland_6 : decode cX7_isIsland 6 = .ok (.ireturn, 1) := by decide +kernel
theorem dX7_isShip_0 : decode cX7_isShip 0 = .ok (.iload_n 1, 1) := by decide +kernel
theorem dX7_isShip_1 : decode cX7_isShip 1 = .ok (.iconst 0, 1) := by decide +kernel
theorem dX7_isShip_2 : decode cX7_isShip 2 = .ok (.aload_n 0, 1) := by decide +kernel
theorem dX7_isShip_3 : decode cX7_isShip 3 = .ok (.getfield 141, 3) := by decide +kernel
theorem dX7_isShip_6 : decode cX7_isShip 6 = .ok (.iconst 1, 1) := by decide +kernel
theorem dX7_isShip_7 : decode cX7_isShip 7 = .ok (.isub, 1) := by decide +kernel
theorem dX7_isShip_8 : decode cX7_isShip 8 = .ok (.invokestatic 137, 3) := by decide +kernel
theorem dX7_isShip_11 : decode cX7_isShip 11 = .ok (.ireturn, 1) := by decide +kernel
theorem dX7_hasSailing_0 : decode cX7_hasSailing 0 = .ok (.aload_n 0, 1) := by decide +kernel
theorem dX7_hasSailing_1 : decode cX7_hasSailing 1 = .ok (.iload_n 1, 1) := by decide +kernel
theorem dX7_hasSailing_2 : decode cX7_hasSailing 2 = .ok (.iconst 0, 1) := by decide +kernel
theorem dX7_hasSailing_3 : decode cX7_hasSailing 3 = .ok (.aload_n 0, 1) := by decide +kernel
theorem dX7_hasSailing_4 : decode cX7_hasSailing 4 = .ok (.getfield 144, 3) := by decide +kernel
theorem dX7_hasSailing_7 : decode cX7_hasSailing 7 = .ok (.iconst 1, 1) := by decide +kernel
theorem dX7_hasSailing_8 : decode cX7_hasSailing 8 = .ok (.isub, 1) := by decide +kernel
theorem dX7_hasSailing_9 : decode cX7_hasSailing 9 = .ok (.invokestatic 137, 3) := by decide +kernel
theorem dX7_hasSailing_12 : decode cX7_hasSailing 12 = .ok (.ifCond .eq 7, 3) := by decide +kernel
theorem dX7_hasSailing_15 : decode cX7_hasSailing 15 = .ok (.iconst 0, 1) := by decide +kernel
theorem dX7_hasSailing_16 : decode cX7_hasSailing 16 = .ok (.goto 4, 3) := by decide +kernel
theorem dX7_hasSailing_19 : decode cX7_hasSailing 19 = .ok (.iconst 1, 1) := by decide +kernel
theorem dX7_hasSailing_20 : decode cX7_hasSailing 20 = .ok (.putfield 133, 3) := by decide +kernel
theorem dX7_hasSailing_23 : decode cX7_hasSailing 23 = .ok (.aload_n 0, 1) := by decide +kernel
theorem dX7_hasSailing_24 : decode cX7_hasSailing 24 = .ok (.getfield 133, 3) := by decide +kernel
theorem dX7_hasSailing_27 : decode cX7_hasSailing 27 = .ok (.ifCond .ne 7, 3) := by decide +kernel
theorem dX7_hasSailing_30 : decode cX7_hasSailing 30 = .ok (.iconst 1, 1) := by decide +kernel
theorem dX7_hasSailing_31 : decode cX7_hasSailing 31 = .ok (.goto 4, 3) := by decide +kernel
theorem dX7_hasSailing_34 : decode cX7_hasSailing 34 = .ok (.iconst 0, 1) := by decide +kernel
theorem dX7_hasSailing_35 : decode cX7_hasSailing 35 = .ok (.ireturn, 1) := by decide +kernel
theorem dX7_hasBooking_0 : decode cX7_hasBooking 0 = .ok (.aload_n 0, 1) := by decide +kernel
theorem dX7_hasBooking_1 : decode cX7_hasBooking 1 = .ok (.iload_n 1, 1) := by decide +kernel
theorem dX7_hasBooking_2 : decode cX7_hasBooking 2 = .ok (.iconst 0, 1) := by decide +kernel
theorem dX7_hasBooking_3 : decode cX7_hasBooking 3 = .ok (.aload_n 0, 1) := by decide +kernel
theorem dX7_hasBooking_4 : decode cX7_hasBooking 4 = .ok (.getfield 147, 3) := by decide +kernel
theorem dX7_hasBooking_7 : decode cX7_hasBooking 7 = .ok (.iconst 1, 1) := by decide +kernel
theorem dX7_hasBooking_8 : decode cX7_hasBooking 8 = .ok (.isub, 1) := by decide +kernel
theorem dX7_hasBooking_9 : decode cX7_hasBooking 9 = .ok (.invokestatic 137, 3) := by decide +kernel
theorem dX7_hasBooking_12 : decode cX7_hasBooking 12 = .ok (.ifCond .eq 7, 3) := by decide +kernel
theorem dX7_hasBooking_15 : decode cX7_hasBooking 15 = .ok (.iconst 0, 1) := by decide +kernel
theorem dX7_hasBooking_16 : decode cX7_hasBooking 16 = .ok (.goto 4, 3) := by decide +kernel
theorem dX7_hasBooking_19 : decode cX7_hasBooking 19 = .ok (.iconst 1, 1) := by decide +kernel
theorem dX7_hasBooking_20 : decode cX7_hasBooking 20 = .ok (.putfield 133, 3) := by decide +kernel
theorem dX7_hasBooking_23 : decode cX7_hasBooking 23 = .ok (.aload_n 0, 1) := by decide +kernel
theorem dX7_hasBooking_24 : decode cX7_hasBooking 24 = .ok (.getfield 133, 3) := by decide +kernel
theorem dX7_hasBooking_27 : decode cX7_hasBooking 27 = .ok (.ifCond .ne 7, 3) := by decide +kernel
theorem dX7_hasBooking_30 : decode cX7_hasBooking 30 = .ok (.iconst 1, 1) := by decide +kernel
theorem dX7_hasBooking_31 : decode cX7_hasBooking 31 = .ok (.goto 4, 3) := by decide +kernel
theorem dX7_hasBooking_34 : decode cX7_hasBooking 34 = .ok (.iconst 0, 1) := by decide +kernel
theorem dX7_hasBooking_35 : decode cX7_hasBooking 35 = .ok (.ireturn, 1) := by decide +kernel
theorem dX7_ship_0 : decode cX7_ship 0 = .ok (.aload_n 0, 1) := by decide +kernel
theorem dX7_ship_1 : decode cX7_ship 1 = .ok (.iload_n 1, 1) := by decide +kernel
theorem dX7_ship_2 : decode cX7_ship 2 = .ok (.invokestatic 150, 3) := by decide +kernel
theorem dX7_ship_5 : decode cX7_ship 5 = .ok (.ifCond .ne 7, 3) := by decide +kernel
theorem dX7_ship_8 : decode cX7_ship 8 = .ok (.iconst 1, 1) := by decide +kernel
theorem dX7_ship_9 : decode cX7_ship 9 = .ok (.goto 4, 3) := by decide +kernel
theorem dX7_ship_12 : decode cX7_ship 12 = .ok (.iconst 0, 1) := by decide +kernel
theorem dX7_ship_13 : decode cX7_ship 13 = .ok (.putfield 133, 3) := by decide +kernel
theorem dX7_ship_16 : decode cX7_ship 16 = .ok (.aload_n 0, 1) := by decide +kernel
theorem dX7_ship_17 : decode cX7_ship 17 = .ok (.getfield 133, 3) := by decide +kernel
theorem dX7_ship_20 : decode cX7_ship 20 = .ok (.ifCond .ne 78, 3) := by decide +kernel
theorem dX7_ship_23 : decode cX7_ship 23 = .ok (.aload_n 0, 1) := by decide +kernel
theorem dX7_ship_24 : decode cX7_ship 24 = .ok (.iload_n 2, 1) := by decide +kernel
theorem dX7_ship_25 : decode cX7_ship 25 = .ok (.iconst 1, 1) := by decide +kernel
theorem dX7_ship_26 : decode cX7_ship 26 = .ok (.iconst 4, 1) := by decide +kernel
theorem dX7_ship_27 : decode cX7_ship 27 = .ok (.invokestatic 137, 3) := by decide +kernel
theorem dX7_ship_30 : decode cX7_ship 30 = .ok (.ifCond .eq 48, 3) := by decide +kernel
theorem dX7_ship_33 : decode cX7_ship 33 = .ok (.iload_n 3, 1) := by decide +kernel
theorem dX7_ship_34 : decode cX7_ship 34 = .ok (.bipush 10, 2) := by decide +kernel
theorem dX7_ship_36 : decode cX7_ship 36 = .ok (.bipush 100, 2) := by decide +kernel
theorem dX7_ship_38 : decode cX7_ship 38 = .ok (.invokestatic 137, 3) := by decide +kernel
theorem dX7_ship_41 : decode cX7_ship 41 = .ok (.ifCond .eq 37, 3) := by decide +kernel
theorem dX7_ship_44 : decode cX7_ship 44 = .ok (.iload 4, 2) := by decide +kernel
theorem dX7_ship_46 : decode cX7_ship 46 = .ok (.iconst 1, 1) := by decide +kernel
theorem dX7_ship_47 : decode cX7_ship 47 = .ok (.sipush 1000, 3) := by decide +kernel
theorem dX7_ship_50 : decode cX7_ship 50 = .ok (.invokestatic 137, 3) := by decide +kernel
theorem dX7_ship_53 : decode cX7_ship 53 = .ok (.ifCond .eq 25, 3) := by decide +kernel
theorem dX7_ship_56 : decode cX7_ship 56 = .ok (.iload 5, 2) := by decide +kernel
theorem dX7_ship_58 : decode cX7_ship 58 = .ok (.iconst 1, 1) := by decide +kernel
theorem dX7_ship_59 : decode cX7_ship 59 = .ok (.bipush 9, 2) := by decide +kernel
theorem dX7_ship_61 : decode cX7_ship 61 = .ok (.invokestatic 137, 3) := by decide +kernel
theorem dX7_ship_64 : decode cX7_ship 64 = .ok (.ifCond .eq 14, 3) := by decide +kernel
theorem dX7_ship_67 : decode cX7_ship 67 = .ok (.iload 6, 2) := by decide +kernel
theorem dX7_ship_69 : decode cX7_ship 69 = .ok (.iconst 1, 1) := by decide +kernel
theorem dX7_ship_70 : decode cX7_ship 70 = .ok (.bipush 40, 2) := by decide +kernel
theorem dX7_ship_72 : decode cX7_ship 72 = .ok (.invokestatic 137, 3) := by decide +kernel
theorem dX7_ship_75 : decode cX7_ship 75 = .ok (.ifCond .ne 7, 3) := by decide +kernel
theorem dX7_ship_78 : decode cX7_ship 78 = .ok (.iconst 2, 1) := by decide +kernel
theorem dX7_ship_79 : decode cX7_ship 79 = .ok (.goto 16, 3) := by decide +kernel
theorem dX7_ship_82 : decode cX7_ship 82 = .ok (.aload_n 0, 1) := by decide +kernel
theorem dX7_ship_83 : decode cX7_ship 83 = .ok (.getfield 141, 3) := by decide +kernel
theorem dX7_ship_86 : decode cX7_ship 86 = .ok (.iconst 4, 1) := by decide +kernel
theorem dX7_ship_87 : decode cX7_ship 87 = .ok (.if_icmp .ne 7, 3) := by decide +kernel
theorem dX7_ship_90 : decode cX7_ship 90 = .ok (.iconst 3, 1) := by decide +kernel
theorem dX7_ship_91 : decode cX7_ship 91 = .ok (.goto 4, 3) := by decide +kernel
theorem dX7_ship_94 : decode cX7_ship 94 = .ok (.iconst 0, 1) := by decide +kernel
theorem dX7_ship_95 : decode cX7_ship 95 = .ok (.putfield 133, 3) := by decide +kernel
theorem dX7_ship_98 : decode cX7_ship 98 = .ok (.aload_n 0, 1) := by decide +kernel
theorem dX7_ship_99 : decode cX7_ship 99 = .ok (.getfield 133, 3) := by decide +kernel
theorem dX7_ship_102 : decode cX7_ship 102 = .ok (.ifCond .le 5, 3) := by decide +kernel
theorem dX7_ship_105 : decode cX7_ship 105 = .ok (.iconst 0, 1) := by decide +kernel
theorem dX7_ship_106 : decode cX7_ship 106 = .ok (.ireturn, 1) := by decide +kernel
theorem dX7_ship_107 : decode cX7_ship 107 = .ok (.aload_n 0, 1) := by decide +kernel
theorem dX7_ship_108 : decode cX7_ship 108 = .ok (.getfield 7, 3) := by decide +kernel
theorem dX7_ship_111 : decode cX7_ship 111 = .ok (.aload_n 0, 1) := by decide +kernel
theorem dX7_ship_112 : decode cX7_ship 112 = .ok (.getfield 141, 3) := by decide +kernel
theorem dX7_ship_115 : decode cX7_ship 115 = .ok (.iload_n 1, 1) := by decide +kernel
theorem dX7_ship_116 : decode cX7_ship 116 = .ok (.iastore, 1) := by decide +kernel
theorem dX7_ship_117 : decode cX7_ship 117 = .ok (.aload_n 0, 1) := by decide +kernel
theorem dX7_ship_118 : decode cX7_ship 118 = .ok (.getfield 13, 3) := by decide +kernel
theorem dX7_ship_121 : decode cX7_ship 121 = .ok (.aload_n 0, 1) := by decide +kernel
theorem dX7_ship_122 : decode cX7_ship 122 = .ok (.getfield 141, 3) := by decide +kernel
theorem dX7_ship_125 : decode cX7_ship 125 = .ok (.iload_n 2, 1) := by decide +kernel
theorem dX7_ship_126 : decode cX7_ship 126 = .ok (.iastore, 1) := by decide +kernel
theorem dX7_ship_127 : decode cX7_ship 127 = .ok (.aload_n 0, 1) := by decide +kernel
theorem dX7_ship_128 : decode cX7_ship 128 = .ok (.getfield 16, 3) := by decide +kernel
theorem dX7_ship_131 : decode cX7_ship 131 = .ok (.aload_n 0, 1) := by decide +kernel
theorem dX7_ship_132 : decode cX7_ship 132 = .ok (.getfield 141, 3) := by decide +kernel
theorem dX7_ship_135 : decode cX7_ship 135 = .ok (.iload_n 3, 1) := by decide +kernel
theorem dX7_ship_136 : decode cX7_ship 136 = .ok (.iastore, 1) := by decide +kernel
theorem dX7_ship_137 : decode cX7_ship 137 = .ok (.aload_n 0, 1) := by decide +kernel
theorem dX7_ship_138 : decode cX7_ship 138 = .ok (.getfield 19, 3) := by decide +kernel
theorem dX7_ship_141 : decode cX7_ship 141 = .ok (.aload_n 0, 1) := by decide +kernel
theorem dX7_ship_142 : decode cX7_ship 142 = .ok (.getfield 141, 3) := by decide +kernel
theorem dX7_ship_145 : decode cX7_ship 145 = .ok (.iload 4, 2) := by decide +kernel
theorem dX7_ship_147 : decode cX7_ship 147 = .ok (.iastore, 1) := by decide +kernel
theorem dX7_ship_148 : decode cX7_ship 148 = .ok (.aload_n 0, 1) := by decide +kernel
theorem dX7_ship_149 : decode cX7_ship 149 = .ok (.getfield 22, 3) := by decide +kernel
theorem dX7_ship_152 : decode cX7_ship 152 = .ok (.aload_n 0, 1) := by decide +kernel
theorem dX7_ship_153 : decode cX7_ship 153 = .ok (.getfield 141, 3) := by decide +kernel
theorem dX7_ship_156 : decode cX7_ship 156 = .ok (.iload 5, 2) := by decide +kernel
theorem dX7_ship_158 : decode cX7_ship 158 = .ok (.iastore, 1) := by decide +kernel
theorem dX7_ship_159 : decode cX7_ship 159 = .ok (.aload_n 0, 1) := by decide +kernel
theorem dX7_ship_160 : decode cX7_ship 160 = .ok (.getfield 25, 3) := by decide +kernel
theorem dX7_ship_163 : decode cX7_ship 163 = .ok (.aload_n 0, 1) := by decide +kernel
theorem dX7_ship_164 : decode cX7_ship 164 = .ok (.getfield 141, 3) := by decide +kernel
theorem dX7_ship_167 : decode cX7_ship 167 = .ok (.iload 6, 2) := by decide +kernel
theorem dX7_ship_169 : decode cX7_ship 169 = .ok (.iastore, 1) := by decide +kernel
theorem dX7_ship_170 : decode cX7_ship 170 = .ok (.aload_n 0, 1) := by decide +kernel
theorem dX7_ship_171 : decode cX7_ship 171 = .ok (.dup, 1) := by decide +kernel
theorem dX7_ship_172 : decode cX7_ship 172 = .ok (.getfield 141, 3) := by decide +kernel
theorem dX7_ship_175 : decode cX7_ship 175 = .ok (.iconst 1, 1) := by decide +kernel
theorem dX7_ship_176 : decode cX7_ship 176 = .ok (.iadd, 1) := by decide +kernel
theorem dX7_ship_177 : decode cX7_ship 177 = .ok (.putfield 141, 3) := by decide +kernel
theorem dX7_ship_180 : decode cX7_ship 180 = .ok (.aload_n 0, 1) := by decide +kernel
theorem dX7_ship_181 : decode cX7_ship 181 = .ok (.getfield 141, 3) := by decide +kernel
theorem dX7_ship_184 : decode cX7_ship 184 = .ok (.iconst 1, 1) := by decide +kernel
theorem dX7_ship_185 : decode cX7_ship 185 = .ok (.isub, 1) := by decide +kernel
theorem dX7_ship_186 : decode cX7_ship 186 = .ok (.ireturn, 1) := by decide +kernel
theorem dX7_fill_0 : decode cX7_fill 0 = .ok (.aload_n 0, 1) := by decide +kernel
theorem dX7_fill_1 : decode cX7_fill 1 = .ok (.aload_n 0, 1) := by decide +kernel
theorem dX7_fill_2 : decode cX7_fill 2 = .ok (.iload_n 1, 1) := by decide +kernel
theorem dX7_fill_3 : decode cX7_fill 3 = .ok (.invokevirtual 154, 3) := by decide +kernel
theorem dX7_fill_6 : decode cX7_fill 6 = .ok (.ifCond .ne 7, 3) := by decide +kernel
theorem dX7_fill_9 : decode cX7_fill 9 = .ok (.iconst 1, 1) := by decide +kernel
theorem dX7_fill_10 : decode cX7_fill 10 = .ok (.goto 37, 3) := by decide +kernel
theorem dX7_fill_13 : decode cX7_fill 13 = .ok (.iload_n 2, 1) := by decide +kernel
theorem dX7_fill_14 : decode cX7_fill 14 = .ok (.iconst 1, 1) := by decide +kernel
theorem dX7_fill_15 : decode cX7_fill 15 = .ok (.sipush 1000, 3) := by decide +kernel
theorem dX7_fill_18 : decode cX7_fill 18 = .ok (.invokestatic 137, 3) := by decide +kernel
theorem dX7_fill_21 : decode cX7_fill 21 = .ok (.ifCond .ne 7, 3) := by decide +kernel
theorem dX7_fill_24 : decode cX7_fill 24 = .ok (.iconst 2, 1) := by decide +kernel
theorem dX7_fill_25 : decode cX7_fill 25 = .ok (.goto 22, 3) := by decide +kernel
theorem dX7_fill_28 : decode cX7_fill 28 = .ok (.aload_n 0, 1) := by decide +kernel
theorem dX7_fill_29 : decode cX7_fill 29 = .ok (.getfield 28, 3) := by decide +kernel
theorem dX7_fill_32 : decode cX7_fill 32 = .ok (.iload_n 1, 1) := by decide +kernel
theorem dX7_fill_33 : decode cX7_fill 33 = .ok (.iaload, 1) := by decide +kernel
theorem dX7_fill_34 : decode cX7_fill 34 = .ok (.iload_n 2, 1) := by decide +kernel
theorem dX7_fill_35 : decode cX7_fill 35 = .ok (.iadd, 1) := by decide +kernel
theorem dX7_fill_36 : decode cX7_fill 36 = .ok (.sipush 1000, 3) := by decide +kernel
theorem dX7_fill_39 : decode cX7_fill 39 = .ok (.if_icmp .le 7, 3) := by decide +kernel
theorem dX7_fill_42 : decode cX7_fill 42 = .ok (.iconst 3, 1) := by decide +kernel
theorem dX7_fill_43 : decode cX7_fill 43 = .ok (.goto 4, 3) := by decide +kernel
theorem dX7_fill_46 : decode cX7_fill 46 = .ok (.iconst 0, 1) := by decide +kernel
theorem dX7_fill_47 : decode cX7_fill 47 = .ok (.putfield 133, 3) := by decide +kernel
theorem dX7_fill_50 : decode cX7_fill 50 = .ok (.aload_n 0, 1) := by decide +kernel
theorem dX7_fill_51 : decode cX7_fill 51 = .ok (.getfield 133, 3) := by decide +kernel
theorem dX7_fill_54 : decode cX7_fill 54 = .ok (.ifCond .le 5, 3) := by decide +kernel
theorem dX7_fill_57 : decode cX7_fill 57 = .ok (.iconst 0, 1) := by decide +kernel
theorem dX7_fill_58 : decode cX7_fill 58 = .ok (.ireturn, 1) := by decide +kernel
theorem dX7_fill_59 : decode cX7_fill 59 = .ok (.aload_n 0, 1) := by decide +kernel
theorem dX7_fill_60 : decode cX7_fill 60 = .ok (.getfield 28, 3) := by decide +kernel
theorem dX7_fill_63 : decode cX7_fill 63 = .ok (.iload_n 1, 1) := by decide +kernel
theorem dX7_fill_64 : decode cX7_fill 64 = .ok (.dup2, 1) := by decide +kernel
theorem dX7_fill_65 : decode cX7_fill 65 = .ok (.iaload, 1) := by decide +kernel
theorem dX7_fill_66 : decode cX7_fill 66 = .ok (.iload_n 2, 1) := by decide +kernel
theorem dX7_fill_67 : decode cX7_fill 67 = .ok (.iadd, 1) := by decide +kernel
theorem dX7_fill_68 : decode cX7_fill 68 = .ok (.iastore, 1) := by decide +kernel
theorem dX7_fill_69 : decode cX7_fill 69 = .ok (.aload_n 0, 1) := by decide +kernel
theorem dX7_fill_70 : decode cX7_fill 70 = .ok (.dup, 1) := by decide +kernel
theorem dX7_fill_71 : decode cX7_fill 71 = .ok (.getfield 157, 3) := by decide +kernel
theorem dX7_fill_74 : decode cX7_fill 74 = .ok (.ldc2_w 161, 3) := by decide +kernel
theorem dX7_fill_77 : decode cX7_fill 77 = .ok (.iload_n 2, 1) := by decide +kernel
theorem dX7_fill_78 : decode cX7_fill 78 = .ok (.i2l, 1) := by decide +kernel
theorem dX7_fill_79 : decode cX7_fill 79 = .ok (.lmul, 1) := by decide +kernel
theorem dX7_fill_80 : decode cX7_fill 80 = .ok (.lsub, 1) := by decide +kernel
theorem dX7_fill_81 : decode cX7_fill 81 = .ok (.putfield 157, 3) := by decide +kernel
theorem dX7_fill_84 : decode cX7_fill 84 = .ok (.aload_n 0, 1) := by decide +kernel
theorem dX7_fill_85 : decode cX7_fill 85 = .ok (.getfield 28, 3) := by decide +kernel
theorem dX7_fill_88 : decode cX7_fill 88 = .ok (.iload_n 1, 1) := by decide +kernel
theorem dX7_fill_89 : decode cX7_fill 89 = .ok (.iaload, 1) := by decide +kernel
theorem dX7_fill_90 : decode cX7_fill 90 = .ok (.ireturn, 1) := by decide +kernel
theorem dX7_crew_0 : decode cX7_crew 0 = .ok (.aload_n 0, 1) := by decide +kernel
theorem dX7_crew_1 : decode cX7_crew 1 = .ok (.aload_n 0, 1) := by decide +kernel
theorem dX7_crew_2 : decode cX7_crew 2 = .ok (.iload_n 1, 1) := by decide +kernel
theorem dX7_crew_3 : decode cX7_crew 3 = .ok (.invokevirtual 154, 3) := by decide +kernel
theorem dX7_crew_6 : decode cX7_crew 6 = .ok (.ifCond .ne 7, 3) := by decide +kernel
theorem dX7_crew_9 : decode cX7_crew 9 = .ok (.iconst 1, 1) := by decide +kernel
theorem dX7_crew_10 : decode cX7_crew 10 = .ok (.goto 43, 3) := by decide +kernel
theorem dX7_crew_13 : decode cX7_crew 13 = .ok (.iload_n 2, 1) := by decide +kernel
theorem dX7_crew_14 : decode cX7_crew 14 = .ok (.iconst 0, 1) := by decide +kernel
theorem dX7_crew_15 : decode cX7_crew 15 = .ok (.sipush 500, 3) := by decide +kernel
theorem dX7_crew_18 : decode cX7_crew 18 = .ok (.invokestatic 137, 3) := by decide +kernel
theorem dX7_crew_21 : decode cX7_crew 21 = .ok (.ifCond .eq 14, 3) := by decide +kernel
theorem dX7_crew_24 : decode cX7_crew 24 = .ok (.iload_n 3, 1) := by decide +kernel
theorem dX7_crew_25 : decode cX7_crew 25 = .ok (.iload_n 2, 1) := by decide +kernel
theorem dX7_crew_26 : decode cX7_crew 26 = .ok (.sipush 500, 3) := by decide +kernel
theorem dX7_crew_29 : decode cX7_crew 29 = .ok (.invokestatic 137, 3) := by decide +kernel
theorem dX7_crew_32 : decode cX7_crew 32 = .ok (.ifCond .ne 7, 3) := by decide +kernel
theorem dX7_crew_35 : decode cX7_crew 35 = .ok (.iconst 2, 1) := by decide +kernel
theorem dX7_crew_36 : decode cX7_crew 36 = .ok (.goto 17, 3) := by decide +kernel
theorem dX7_crew_39 : decode cX7_crew 39 = .ok (.aload_n 0, 1) := by decide +kernel
theorem dX7_crew_40 : decode cX7_crew 40 = .ok (.getfield 163, 3) := by decide +kernel
theorem dX7_crew_43 : decode cX7_crew 43 = .ok (.bipush 6, 2) := by decide +kernel
theorem dX7_crew_45 : decode cX7_crew 45 = .ok (.if_icmp .ne 7, 3) := by decide +kernel
theorem dX7_crew_48 : decode cX7_crew 48 = .ok (.iconst 3, 1) := by decide +kernel
theorem dX7_crew_49 : decode cX7_crew 49 = .ok (.goto 4, 3) := by decide +kernel
theorem dX7_crew_52 : decode cX7_crew 52 = .ok (.iconst 0, 1) := by decide +kernel
theorem dX7_crew_53 : decode cX7_crew 53 = .ok (.putfield 133, 3) := by decide +kernel
theorem dX7_crew_56 : decode cX7_crew 56 = .ok (.aload_n 0, 1) := by decide +kernel
theorem dX7_crew_57 : decode cX7_crew 57 = .ok (.getfield 133, 3) := by decide +kernel
theorem dX7_crew_60 : decode cX7_crew 60 = .ok (.ifCond .le 5, 3) := by decide +kernel
theorem dX7_crew_63 : decode cX7_crew 63 = .ok (.iconst 0, 1) := by decide +kernel
theorem dX7_crew_64 : decode cX7_crew 64 = .ok (.ireturn, 1) := by decide +kernel
theorem dX7_crew_65 : decode cX7_crew 65 = .ok (.aload_n 0, 1) := by decide +kernel
theorem dX7_crew_66 : decode cX7_crew 66 = .ok (.getfield 31, 3) := by decide +kernel
theorem dX7_crew_69 : decode cX7_crew 69 = .ok (.aload_n 0, 1) := by decide +kernel
theorem dX7_crew_70 : decode cX7_crew 70 = .ok (.getfield 163, 3) := by decide +kernel
theorem dX7_crew_73 : decode cX7_crew 73 = .ok (.iload_n 1, 1) := by decide +kernel
theorem dX7_crew_74 : decode cX7_crew 74 = .ok (.iastore, 1) := by decide +kernel
theorem dX7_crew_75 : decode cX7_crew 75 = .ok (.aload_n 0, 1) := by decide +kernel
theorem dX7_crew_76 : decode cX7_crew 76 = .ok (.getfield 34, 3) := by decide +kernel
theorem dX7_crew_79 : decode cX7_crew 79 = .ok (.aload_n 0, 1) := by decide +kernel
theorem dX7_crew_80 : decode cX7_crew 80 = .ok (.getfield 163, 3) := by decide +kernel
theorem dX7_crew_83 : decode cX7_crew 83 = .ok (.iload_n 2, 1) := by decide +kernel
theorem dX7_crew_84 : decode cX7_crew 84 = .ok (.iastore, 1) := by decide +kernel
theorem dX7_crew_85 : decode cX7_crew 85 = .ok (.aload_n 0, 1) := by decide +kernel
theorem dX7_crew_86 : decode cX7_crew 86 = .ok (.getfield 37, 3) := by decide +kernel
theorem dX7_crew_89 : decode cX7_crew 89 = .ok (.aload_n 0, 1) := by decide +kernel
theorem dX7_crew_90 : decode cX7_crew 90 = .ok (.getfield 163, 3) := by decide +kernel
theorem dX7_crew_93 : decode cX7_crew 93 = .ok (.iload_n 3, 1) := by decide +kernel
theorem dX7_crew_94 : decode cX7_crew 94 = .ok (.iastore, 1) := by decide +kernel
theorem dX7_crew_95 : decode cX7_crew 95 = .ok (.aload_n 0, 1) := by decide +kernel
theorem dX7_crew_96 : decode cX7_crew 96 = .ok (.dup, 1) := by decide +kernel
theorem dX7_crew_97 : decode cX7_crew 97 = .ok (.getfield 163, 3) := by decide +kernel
theorem dX7_crew_100 : decode cX7_crew 100 = .ok (.iconst 1, 1) := by decide +kernel
theorem dX7_crew_101 : decode cX7_crew 101 = .ok (.iadd, 1) := by decide +kernel
theorem dX7_crew_102 : decode cX7_crew 102 = .ok (.putfield 163, 3) := by decide +kernel
theorem dX7_crew_105 : decode cX7_crew 105 = .ok (.aload_n 0, 1) := by decide +kernel
theorem dX7_crew_106 : decode cX7_crew 106 = .ok (.getfield 163, 3) := by decide +kernel
theorem dX7_crew_109 : decode cX7_crew 109 = .ok (.iconst 1, 1) := by decide +kernel
theorem dX7_crew_110 : decode cX7_crew 110 = .ok (.isub, 1) := by decide +kernel
theorem dX7_crew_111 : decode cX7_crew 111 = .ok (.ireturn, 1) := by decide +kernel
theorem dX7_hours_0 : decode cX7_hours 0 = .ok (.aload_n 0, 1) := by decide +kernel
theorem dX7_hours_1 : decode cX7_hours 1 = .ok (.iload_n 1, 1) := by decide +kernel
theorem dX7_hours_2 : decode cX7_hours 2 = .ok (.iconst 0, 1) := by decide +kernel
theorem dX7_hours_3 : decode cX7_hours 3 = .ok (.aload_n 0, 1) := by decide +kernel
theorem dX7_hours_4 : decode cX7_hours 4 = .ok (.getfield 163, 3) := by decide +kernel
theorem dX7_hours_7 : decode cX7_hours 7 = .ok (.iconst 1, 1) := by decide +kernel
theorem dX7_hours_8 : decode cX7_hours 8 = .ok (.isub, 1) := by decide +kernel
theorem dX7_hours_9 : decode cX7_hours 9 = .ok (.invokestatic 137, 3) := by decide +kernel
theorem dX7_hours_12 : decode cX7_hours 12 = .ok (.ifCond .ne 7, 3) := by decide +kernel
theorem dX7_hours_15 : decode cX7_hours 15 = .ok (.iconst 1, 1) := by decide +kernel
theorem dX7_hours_16 : decode cX7_hours 16 = .ok (.goto 19, 3) := by decide +kernel
theorem dX7_hours_19 : decode cX7_hours 19 = .ok (.iload_n 2, 1) := by decide +kernel
theorem dX7_hours_20 : decode cX7_hours 20 = .ok (.iconst 0, 1) := by decide +kernel
theorem dX7_hours_21 : decode cX7_hours 21 = .ok (.sipush 500, 3) := by decide +kernel
theorem dX7_hours_24 : decode cX7_hours 24 = .ok (.invokestatic 137, 3) := by decide +kernel
theorem dX7_hours_27 : decode cX7_hours 27 = .ok (.ifCond .ne 7, 3) := by decide +kernel
theorem dX7_hours_30 : decode cX7_hours 30 = .ok (.iconst 2, 1) := by decide +kernel
theorem dX7_hours_31 : decode cX7_hours 31 = .ok (.goto 4, 3) := by decide +kernel
theorem dX7_hours_34 : decode cX7_hours 34 = .ok (.iconst 0, 1) := by decide +kernel
theorem dX7_hours_35 : decode cX7_hours 35 = .ok (.putfield 133, 3) := by decide +kernel
theorem dX7_hours_38 : decode cX7_hours 38 = .ok (.aload_n 0, 1) := by decide +kernel
theorem dX7_hours_39 : decode cX7_hours 39 = .ok (.getfield 133, 3) := by decide +kernel
theorem dX7_hours_42 : decode cX7_hours 42 = .ok (.ifCond .ne 18, 3) := by decide +kernel
theorem dX7_hours_45 : decode cX7_hours 45 = .ok (.aload_n 0, 1) := by decide +kernel
theorem dX7_hours_46 : decode cX7_hours 46 = .ok (.getfield 40, 3) := by decide +kernel
theorem dX7_hours_49 : decode cX7_hours 49 = .ok (.sipush 501, 3) := by decide +kernel
theorem dX7_hours_52 : decode cX7_hours 52 = .ok (.iload_n 1, 1) := by decide +kernel
theorem dX7_hours_53 : decode cX7_hours 53 = .ok (.imul, 1) := by decide +kernel
theorem dX7_hours_54 : decode cX7_hours 54 = .ok (.iload_n 2, 1) := by decide +kernel
theorem dX7_hours_55 : decode cX7_hours 55 = .ok (.iadd, 1) := by decide +kernel
theorem dX7_hours_56 : decode cX7_hours 56 = .ok (.iaload, 1) := by decide +kernel
theorem dX7_hours_57 : decode cX7_hours 57 = .ok (.goto 4, 3) := by decide +kernel
theorem dX7_hours_60 : decode cX7_hours 60 = .ok (.iconst 0, 1) := by decide +kernel
theorem dX7_hours_61 : decode cX7_hours 61 = .ok (.ireturn, 1) := by decide +kernel
theorem dX7_depthOf_0 : decode cX7_depthOf 0 = .ok (.iload_n 1, 1) := by decide +kernel
theorem dX7_depthOf_1 : decode cX7_depthOf 1 = .ok (.iconst 2, 1) := by decide +kernel
theorem dX7_depthOf_2 : decode cX7_depthOf 2 = .ok (.iload_n 0, 1) := by decide +kernel
theorem dX7_depthOf_3 : decode cX7_depthOf 3 = .ok (.imul, 1) := by decide +kernel
theorem dX7_depthOf_4 : decode cX7_depthOf 4 = .ok (.iadd, 1) := by decide +kernel
theorem dX7_depthOf_5 : decode cX7_depthOf 5 = .ok (.bipush 12, 2) := by decide +kernel
theorem dX7_depthOf_7 : decode cX7_depthOf 7 = .ok (.irem, 1) := by decide +kernel
theorem dX7_depthOf_8 : decode cX7_depthOf 8 = .ok (.bipush 6, 2) := by decide +kernel
theorem dX7_depthOf_10 : decode cX7_depthOf 10 = .ok (.isub, 1) := by decide +kernel
theorem dX7_depthOf_11 : decode cX7_depthOf 11 = .ok (.istore_n 2, 1) := by decide +kernel
theorem dX7_depthOf_12 : decode cX7_depthOf 12 = .ok (.iconst 3, 1) := by decide +kernel
theorem dX7_depthOf_13 : decode cX7_depthOf 13 = .ok (.iload_n 2, 1) := by decide +kernel
theorem dX7_depthOf_14 : decode cX7_depthOf 14 = .ok (.ifCond .ge 8, 3) := by decide +kernel
theorem dX7_depthOf_17 : decode cX7_depthOf 17 = .ok (.iload_n 2, 1) := by decide +kernel
theorem dX7_depthOf_18 : decode cX7_depthOf 18 = .ok (.ineg, 1) := by decide +kernel
theorem dX7_depthOf_19 : decode cX7_depthOf 19 = .ok (.goto 4, 3) := by decide +kernel
theorem dX7_depthOf_22 : decode cX7_depthOf 22 = .ok (.iload_n 2, 1) := by decide +kernel
theorem dX7_depthOf_23 : decode cX7_depthOf 23 = .ok (.iadd, 1) := by decide +kernel
theorem dX7_depthOf_24 : decode cX7_depthOf 24 = .ok (.ireturn, 1) := by decide +kernel
theorem dX7_depth_0 : decode cX7_depth 0 = .ok (.aload_n 0, 1) := by decide +kernel
theorem dX7_depth_1 : decode cX7_depth 1 = .ok (.iload_n 1, 1) := by decide +kernel
theorem dX7_depth_2 : decode cX7_depth 2 = .ok (.invokestatic 150, 3) := by decide +kernel
theorem dX7_depth_5 : decode cX7_depth 5 = .ok (.ifCond .ne 7, 3) := by decide +kernel
theorem dX7_depth_8 : decode cX7_depth 8 = .ok (.iconst 1, 1) := by decide +kernel
theorem dX7_depth_9 : decode cX7_depth 9 = .ok (.goto 19, 3) := by decide +kernel
theorem dX7_depth_12 : decode cX7_depth 12 = .ok (.iload_n 2, 1) := by decide +kernel
theorem dX7_depth_13 : decode cX7_depth 13 = .ok (.iconst 0, 1) := by decide +kernel
theorem dX7_depth_14 : decode cX7_depth 14 = .ok (.sipush 10000, 3) := by decide +kernel
theorem dX7_depth_17 : decode cX7_depth 17 = .ok (.invokestatic 137, 3) := by decide +kernel
theorem dX7_depth_20 : decode cX7_depth 20 = .ok (.ifCond .ne 7, 3) := by decide +kernel
theorem dX7_depth_23 : decode cX7_depth 23 = .ok (.iconst 2, 1) := by decide +kernel
theorem dX7_depth_24 : decode cX7_depth 24 = .ok (.goto 4, 3) := by decide +kernel
theorem dX7_depth_27 : decode cX7_depth 27 = .ok (.iconst 0, 1) := by decide +kernel
theorem dX7_depth_28 : decode cX7_depth 28 = .ok (.putfield 133, 3) := by decide +kernel
theorem dX7_depth_31 : decode cX7_depth 31 = .ok (.aload_n 0, 1) := by decide +kernel
theorem dX7_depth_32 : decode cX7_depth 32 = .ok (.getfield 133, 3) := by decide +kernel
theorem dX7_depth_35 : decode cX7_depth 35 = .ok (.ifCond .ne 11, 3) := by decide +kernel
theorem dX7_depth_38 : decode cX7_depth 38 = .ok (.iload_n 1, 1) := by decide +kernel
theorem dX7_depth_39 : decode cX7_depth 39 = .ok (.iload_n 2, 1) := by decide +kernel
theorem dX7_depth_40 : decode cX7_depth 40 = .ok (.invokestatic 166, 3) := by decide +kernel
theorem dX7_depth_43 : decode cX7_depth 43 = .ok (.goto 4, 3) := by decide +kernel
theorem dX7_depth_46 : decode cX7_depth 46 = .ok (.iconst 0, 1) := by decide +kernel
theorem dX7_depth_47 : decode cX7_depth 47 = .ok (.ireturn, 1) := by decide +kernel
theorem dX7_hinder_0 : decode cX7_hinder 0 = .ok (.aload_n 0, 1) := by decide +kernel
theorem dX7_hinder_1 : decode cX7_hinder 1 = .ok (.iload_n 1, 1) := by decide +kernel
theorem dX7_hinder_2 : decode cX7_hinder 2 = .ok (.iconst 2, 1) := by decide +kernel
theorem dX7_hinder_3 : decode cX7_hinder 3 = .ok (.if_icmp .ne 15, 3) := by decide +kernel
theorem dX7_hinder_6 : decode cX7_hinder 6 = .ok (.aload_n 0, 1) := by decide +kernel
theorem dX7_hinder_7 : decode cX7_hinder 7 = .ok (.iload_n 2, 1) := by decide +kernel
theorem dX7_hinder_8 : decode cX7_hinder 8 = .ok (.invokevirtual 154, 3) := by decide +kernel
theorem dX7_hinder_11 : decode cX7_hinder 11 = .ok (.ifCond .ne 7, 3) := by decide +kernel
theorem dX7_hinder_14 : decode cX7_hinder 14 = .ok (.iconst 1, 1) := by decide +kernel
theorem dX7_hinder_15 : decode cX7_hinder 15 = .ok (.goto 40, 3) := by decide +kernel
theorem dX7_hinder_18 : decode cX7_hinder 18 = .ok (.iload_n 1, 1) := by decide +kernel
theorem dX7_hinder_19 : decode cX7_hinder 19 = .ok (.iconst 0, 1) := by decide +kernel
theorem dX7_hinder_20 : decode cX7_hinder 20 = .ok (.iconst 2, 1) := by decide +kernel
theorem dX7_hinder_21 : decode cX7_hinder 21 = .ok (.invokestatic 137, 3) := by decide +kernel
theorem dX7_hinder_24 : decode cX7_hinder 24 = .ok (.ifCond .eq 26, 3) := by decide +kernel
theorem dX7_hinder_27 : decode cX7_hinder 27 = .ok (.iload_n 3, 1) := by decide +kernel
theorem dX7_hinder_28 : decode cX7_hinder 28 = .ok (.iconst 0, 1) := by decide +kernel
theorem dX7_hinder_29 : decode cX7_hinder 29 = .ok (.sipush 10000, 3) := by decide +kernel
theorem dX7_hinder_32 : decode cX7_hinder 32 = .ok (.invokestatic 137, 3) := by decide +kernel
theorem dX7_hinder_35 : decode cX7_hinder 35 = .ok (.ifCond .eq 15, 3) := by decide +kernel
theorem dX7_hinder_38 : decode cX7_hinder 38 = .ok (.iload 4, 2) := by decide +kernel
theorem dX7_hinder_40 : decode cX7_hinder 40 = .ok (.iload_n 3, 1) := by decide +kernel
theorem dX7_hinder_41 : decode cX7_hinder 41 = .ok (.sipush 10000, 3) := by decide +kernel
theorem dX7_hinder_44 : decode cX7_hinder 44 = .ok (.invokestatic 137, 3) := by decide +kernel
theorem dX7_hinder_47 : decode cX7_hinder 47 = .ok (.ifCond .ne 7, 3) := by decide +kernel
theorem dX7_hinder_50 : decode cX7_hinder 50 = .ok (.iconst 2, 1) := by decide +kernel
theorem dX7_hinder_51 : decode cX7_hinder 51 = .ok (.goto 4, 3) := by decide +kernel
theorem dX7_hinder_54 : decode cX7_hinder 54 = .ok (.iconst 0, 1) := by decide +kernel
theorem dX7_hinder_55 : decode cX7_hinder 55 = .ok (.putfield 133, 3) := by decide +kernel
theorem dX7_hinder_58 : decode cX7_hinder 58 = .ok (.aload_n 0, 1) := by decide +kernel
theorem dX7_hinder_59 : decode cX7_hinder 59 = .ok (.getfield 133, 3) := by decide +kernel
theorem dX7_hinder_62 : decode cX7_hinder 62 = .ok (.ifCond .ne 36, 3) := by decide +kernel
theorem dX7_hinder_65 : decode cX7_hinder 65 = .ok (.iload_n 1, 1) := by decide +kernel
theorem dX7_hinder_66 : decode cX7_hinder 66 = .ok (.iconst 2, 1) := by decide +kernel
theorem dX7_hinder_67 : decode cX7_hinder 67 = .ok (.if_icmp .ne 9, 3) := by decide +kernel
theorem dX7_hinder_70 : decode cX7_hinder 70 = .ok (.iconst 2, 1) := by decide +kernel
theorem dX7_hinder_71 : decode cX7_hinder 71 = .ok (.iload_n 2, 1) := by decide +kernel
theorem dX7_hinder_72 : decode cX7_hinder 72 = .ok (.iadd, 1) := by decide +kernel
theorem dX7_hinder_73 : decode cX7_hinder 73 = .ok (.goto 4, 3) := by decide +kernel
theorem dX7_hinder_76 : decode cX7_hinder 76 = .ok (.iload_n 1, 1) := by decide +kernel
theorem dX7_hinder_77 : decode cX7_hinder 77 = .ok (.istore 5, 2) := by decide +kernel
theorem dX7_hinder_79 : decode cX7_hinder 79 = .ok (.aload_n 0, 1) := by decide +kernel
theorem dX7_hinder_80 : decode cX7_hinder 80 = .ok (.getfield 43, 3) := by decide +kernel
theorem dX7_hinder_83 : decode cX7_hinder 83 = .ok (.iload 5, 2) := by decide +kernel
theorem dX7_hinder_85 : decode cX7_hinder 85 = .ok (.iload_n 3, 1) := by decide +kernel
theorem dX7_hinder_86 : decode cX7_hinder 86 = .ok (.iconst 1, 1) := by decide +kernel
theorem dX7_hinder_87 : decode cX7_hinder 87 = .ok (.iadd, 1) := by decide +kernel
theorem dX7_hinder_88 : decode cX7_hinder 88 = .ok (.iastore, 1) := by decide +kernel
theorem dX7_hinder_89 : decode cX7_hinder 89 = .ok (.aload_n 0, 1) := by decide +kernel
theorem dX7_hinder_90 : decode cX7_hinder 90 = .ok (.getfield 46, 3) := by decide +kernel
theorem dX7_hinder_93 : decode cX7_hinder 93 = .ok (.iload 5, 2) := by decide +kernel
theorem dX7_hinder_95 : decode cX7_hinder 95 = .ok (.iload 4, 2) := by decide +kernel
theorem dX7_hinder_97 : decode cX7_hinder 97 = .ok (.iastore, 1) := by decide +kernel
theorem dX7_hinder_98 : decode cX7_hinder 98 = .ok (.return_, 1) := by decide +kernel
theorem dX7_hinders_0 : decode cX7_hinders 0 = .ok (.aload_n 0, 1) := by decide +kernel
theorem dX7_hinders_1 : decode cX7_hinders 1 = .ok (.getfield 43, 3) := by decide +kernel
theorem dX7_hinders_4 : decode cX7_hinders 4 = .ok (.iload_n 1, 1) := by decide +kernel
theorem dX7_hinders_5 : decode cX7_hinders 5 = .ok (.iaload, 1) := by decide +kernel
theorem dX7_hinders_6 : decode cX7_hinders 6 = .ok (.ifCond .le 28, 3) := by decide +kernel
theorem dX7_hinders_9 : decode cX7_hinders 9 = .ok (.iload_n 2, 1) := by decide +kernel
theorem dX7_hinders_10 : decode cX7_hinders 10 = .ok (.aload_n 0, 1) := by decide +kernel
theorem dX7_hinders_11 : decode cX7_hinders 11 = .ok (.getfield 43, 3) := by decide +kernel
theorem dX7_hinders_14 : decode cX7_hinders 14 = .ok (.iload_n 1, 1) := by decide +kernel
theorem dX7_hinders_15 : decode cX7_hinders 15 = .ok (.iaload, 1) := by decide +kernel
theorem dX7_hinders_16 : decode cX7_hinders 16 = .ok (.iconst 1, 1) := by decide +kernel
theorem dX7_hinders_17 : decode cX7_hinders 17 = .ok (.isub, 1) := by decide +kernel
theorem dX7_hinders_18 : decode cX7_hinders 18 = .ok (.aload_n 0, 1) := by decide +kernel
theorem dX7_hinders_19 : decode cX7_hinders 19 = .ok (.getfield 46, 3) := by decide +kernel
theorem dX7_hinders_22 : decode cX7_hinders 22 = .ok (.iload_n 1, 1) := by decide +kernel
theorem dX7_hinders_23 : decode cX7_hinders 23 = .ok (.iaload, 1) := by decide +kernel
theorem dX7_hinders_24 : decode cX7_hinders 24 = .ok (.invokestatic 137, 3) := by decide +kernel
theorem dX7_hinders_27 : decode cX7_hinders 27 = .ok (.ifCond .eq 7, 3) := by decide +kernel
theorem dX7_hinders_30 : decode cX7_hinders 30 = .ok (.iconst 1, 1) := by decide +kernel
theorem dX7_hinders_31 : decode cX7_hinders 31 = .ok (.goto 4, 3) := by decide +kernel
theorem dX7_hinders_34 : decode cX7_hinders 34 = .ok (.iconst 0, 1) := by decide +kernel
theorem dX7_hinders_35 : decode cX7_hinders 35 = .ok (.ireturn, 1) := by decide +kernel
theorem dX7_bus_0 : decode cX7_bus 0 = .ok (.aload_n 0, 1) := by decide +kernel
theorem dX7_bus_1 : decode cX7_bus 1 = .ok (.iload_n 1, 1) := by decide +kernel
theorem dX7_bus_2 : decode cX7_bus 2 = .ok (.invokestatic 150, 3) := by decide +kernel
theorem dX7_bus_5 : decode cX7_bus 5 = .ok (.ifCond .ne 7, 3) := by decide +kernel
theorem dX7_bus_8 : decode cX7_bus 8 = .ok (.iconst 1, 1) := by decide +kernel
theorem dX7_bus_9 : decode cX7_bus 9 = .ok (.goto 29, 3) := by decide +kernel
theorem dX7_bus_12 : decode cX7_bus 12 = .ok (.iload_n 2, 1) := by decide +kernel
theorem dX7_bus_13 : decode cX7_bus 13 = .ok (.iconst 1, 1) := by decide +kernel
theorem dX7_bus_14 : decode cX7_bus 14 = .ok (.bipush 12, 2) := by decide +kernel
theorem dX7_bus_16 : decode cX7_bus 16 = .ok (.invokestatic 137, 3) := by decide +kernel
theorem dX7_bus_19 : decode cX7_bus 19 = .ok (.ifCond .eq 14, 3) := by decide +kernel
theorem dX7_bus_22 : decode cX7_bus 22 = .ok (.iload_n 3, 1) := by decide +kernel
theorem dX7_bus_23 : decode cX7_bus 23 = .ok (.iconst 0, 1) := by decide +kernel
theorem dX7_bus_24 : decode cX7_bus 24 = .ok (.iload_n 2, 1) := by decide +kernel
theorem dX7_bus_25 : decode cX7_bus 25 = .ok (.iconst 1, 1) := by decide +kernel
theorem dX7_bus_26 : decode cX7_bus 26 = .ok (.isub, 1) := by decide +kernel
theorem dX7_bus_27 : decode cX7_bus 27 = .ok (.invokestatic 137, 3) := by decide +kernel
theorem dX7_bus_30 : decode cX7_bus 30 = .ok (.ifCond .ne 7, 3) := by decide +kernel
theorem dX7_bus_33 : decode cX7_bus 33 = .ok (.iconst 2, 1) := by decide +kernel
theorem dX7_bus_34 : decode cX7_bus 34 = .ok (.goto 4, 3) := by decide +kernel
theorem dX7_bus_37 : decode cX7_bus 37 = .ok (.iconst 0, 1) := by decide +kernel
theorem dX7_bus_38 : decode cX7_bus 38 = .ok (.putfield 133, 3) := by decide +kernel
theorem dX7_bus_41 : decode cX7_bus 41 = .ok (.aload_n 0, 1) := by decide +kernel
theorem dX7_bus_42 : decode cX7_bus 42 = .ok (.getfield 133, 3) := by decide +kernel
theorem dX7_bus_45 : decode cX7_bus 45 = .ok (.ifCond .ne 17, 3) := by decide +kernel
theorem dX7_bus_48 : decode cX7_bus 48 = .ok (.aload_n 0, 1) := by decide +kernel
theorem dX7_bus_49 : decode cX7_bus 49 = .ok (.getfield 49, 3) := by decide +kernel
theorem dX7_bus_52 : decode cX7_bus 52 = .ok (.iload_n 1, 1) := by decide +kernel
theorem dX7_bus_53 : decode cX7_bus 53 = .ok (.iload_n 2, 1) := by decide +kernel
theorem dX7_bus_54 : decode cX7_bus 54 = .ok (.iastore, 1) := by decide +kernel
theorem dX7_bus_55 : decode cX7_bus 55 = .ok (.aload_n 0, 1) := by decide +kernel
theorem dX7_bus_56 : decode cX7_bus 56 = .ok (.getfield 52, 3) := by decide +kernel
theorem dX7_bus_59 : decode cX7_bus 59 = .ok (.iload_n 1, 1) := by decide +kernel
theorem dX7_bus_60 : decode cX7_bus 60 = .ok (.iload_n 3, 1) := by decide +kernel
theorem dX7_bus_61 : decode cX7_bus 61 = .ok (.iastore, 1) := by decide +kernel
theorem dX7_bus_62 : decode cX7_bus 62 = .ok (.return_, 1) := by decide +kernel
theorem dX7_reside_0 : decode cX7_reside 0 = .ok (.aload_n 0, 1) := by decide +kernel
theorem dX7_reside_1 : decode cX7_reside 1 = .ok (.iload_n 1, 1) := by decide +kernel
theorem dX7_reside_2 : decode cX7_reside 2 = .ok (.iconst 0, 1) := by decide +kernel
theorem dX7_reside_3 : decode cX7_reside 3 = .ok (.bipush 9, 2) := by decide +kernel
theorem dX7_reside_5 : decode cX7_reside 5 = .ok (.invokestatic 137, 3) := by decide +kernel
theorem dX7_reside_8 : decode cX7_reside 8 = .ok (.ifCond .eq 12, 3) := by decide +kernel
theorem dX7_reside_11 : decode cX7_reside 11 = .ok (.iload_n 2, 1) := by decide +kernel
theorem dX7_reside_12 : decode cX7_reside 12 = .ok (.iconst (-1), 1) := by decide +kernel
theorem dX7_reside_13 : decode cX7_reside 13 = .ok (.iconst 5, 1) := by decide +kernel
theorem dX7_reside_14 : decode cX7_reside 14 = .ok (.invokestatic 137, 3) := by decide +kernel
theorem dX7_reside_17 : decode cX7_reside 17 = .ok (.ifCond .ne 7, 3) := by decide +kernel
theorem dX7_reside_20 : decode cX7_reside 20 = .ok (.iconst 1, 1) := by decide +kernel
theorem dX7_reside_21 : decode cX7_reside 21 = .ok (.goto 4, 3) := by decide +kernel
theorem dX7_reside_24 : decode cX7_reside 24 = .ok (.iconst 0, 1) := by decide +kernel
theorem dX7_reside_25 : decode cX7_reside 25 = .ok (.putfield 133, 3) := by decide +kernel
theorem dX7_reside_28 : decode cX7_reside 28 = .ok (.aload_n 0, 1) := by decide +kernel
theorem dX7_reside_29 : decode cX7_reside 29 = .ok (.getfield 133, 3) := by decide +kernel
theorem dX7_reside_32 : decode cX7_reside 32 = .ok (.ifCond .le 5, 3) := by decide +kernel
theorem dX7_reside_35 : decode cX7_reside 35 = .ok (.iconst 0, 1) := by decide +kernel
theorem dX7_reside_36 : decode cX7_reside 36 = .ok (.ireturn, 1) := by decide +kernel
theorem dX7_reside_37 : decode cX7_reside 37 = .ok (.aload_n 0, 1) := by decide +kernel
theorem dX7_reside_38 : decode cX7_reside 38 = .ok (.getfield 55, 3) := by decide +kernel
theorem dX7_reside_41 : decode cX7_reside 41 = .ok (.iload_n 1, 1) := by decide +kernel
theorem dX7_reside_42 : decode cX7_reside 42 = .ok (.iaload, 1) := by decide +kernel
theorem dX7_reside_43 : decode cX7_reside 43 = .ok (.iconst 1, 1) := by decide +kernel
theorem dX7_reside_44 : decode cX7_reside 44 = .ok (.isub, 1) := by decide +kernel
theorem dX7_reside_45 : decode cX7_reside 45 = .ok (.istore_n 3, 1) := by decide +kernel
theorem dX7_reside_46 : decode cX7_reside 46 = .ok (.aload_n 0, 1) := by decide +kernel
theorem dX7_reside_47 : decode cX7_reside 47 = .ok (.getfield 55, 3) := by decide +kernel
theorem dX7_reside_50 : decode cX7_reside 50 = .ok (.iload_n 1, 1) := by decide +kernel
theorem dX7_reside_51 : decode cX7_reside 51 = .ok (.iload_n 2, 1) := by decide +kernel
theorem dX7_reside_52 : decode cX7_reside 52 = .ok (.iconst 1, 1) := by decide +kernel
theorem dX7_reside_53 : decode cX7_reside 53 = .ok (.iadd, 1) := by decide +kernel
theorem dX7_reside_54 : decode cX7_reside 54 = .ok (.iastore, 1) := by decide +kernel
theorem dX7_reside_55 : decode cX7_reside 55 = .ok (.iload_n 3, 1) := by decide +kernel
theorem dX7_reside_56 : decode cX7_reside 56 = .ok (.ireturn, 1) := by decide +kernel
theorem dX7_hoursOf_0 : decode cX7_hoursOf 0 = .ok (.aload_n 0, 1) := by decide +kernel
theorem dX7_hoursOf_1 : decode cX7_hoursOf 1 = .ok (.getfield 25, 3) := by decide +kernel
theorem dX7_hoursOf_4 : decode cX7_hoursOf 4 = .ok (.aload_n 0, 1) := by decide +kernel
theorem dX7_hoursOf_5 : decode cX7_hoursOf 5 = .ok (.getfield 58, 3) := by decide +kernel
theorem dX7_hoursOf_8 : decode cX7_hoursOf 8 = .ok (.iload_n 1, 1) := by decide +kernel
theorem dX7_hoursOf_9 : decode cX7_hoursOf 9 = .ok (.iaload, 1) := by decide +kernel
theorem dX7_hoursOf_10 : decode cX7_hoursOf 10 = .ok (.iaload, 1) := by decide +kernel
theorem dX7_hoursOf_11 : decode cX7_hoursOf 11 = .ok (.istore_n 2, 1) := by decide +kernel
theorem dX7_hoursOf_12 : decode cX7_hoursOf 12 = .ok (.aload_n 0, 1) := by decide +kernel
theorem dX7_hoursOf_13 : decode cX7_hoursOf 13 = .ok (.getfield 70, 3) := by decide +kernel
theorem dX7_hoursOf_16 : decode cX7_hoursOf 16 = .ok (.iload_n 1, 1) := by decide +kernel
theorem dX7_hoursOf_17 : decode cX7_hoursOf 17 = .ok (.iaload, 1) := by decide +kernel
theorem dX7_hoursOf_18 : decode cX7_hoursOf 18 = .ok (.iload_n 2, 1) := by decide +kernel
theorem dX7_hoursOf_19 : decode cX7_hoursOf 19 = .ok (.iadd, 1) := by decide +kernel
theorem dX7_hoursOf_20 : decode cX7_hoursOf 20 = .ok (.iconst 1, 1) := by decide +kernel
theorem dX7_hoursOf_21 : decode cX7_hoursOf 21 = .ok (.isub, 1) := by decide +kernel
theorem dX7_hoursOf_22 : decode cX7_hoursOf 22 = .ok (.iload_n 2, 1) := by decide +kernel
theorem dX7_hoursOf_23 : decode cX7_hoursOf 23 = .ok (.idiv, 1) := by decide +kernel
theorem dX7_hoursOf_24 : decode cX7_hoursOf 24 = .ok (.ireturn, 1) := by decide +kernel
theorem dX7_endOf_0 : decode cX7_endOf 0 = .ok (.aload_n 0, 1) := by decide +kernel
theorem dX7_endOf_1 : decode cX7_endOf 1 = .ok (.getfield 67, 3) := by decide +kernel
theorem dX7_endOf_4 : decode cX7_endOf 4 = .ok (.iload_n 1, 1) := by decide +kernel
theorem dX7_endOf_5 : decode cX7_endOf 5 = .ok (.iaload, 1) := by decide +kernel
theorem dX7_endOf_6 : decode cX7_endOf 6 = .ok (.aload_n 0, 1) := by decide +kernel
theorem dX7_endOf_7 : decode cX7_endOf 7 = .ok (.iload_n 1, 1) := by decide +kernel
theorem dX7_endOf_8 : decode cX7_endOf 8 = .ok (.invokevirtual 170, 3) := by decide +kernel
theorem dX7_endOf_11 : decode cX7_endOf 11 = .ok (.iadd, 1) := by decide +kernel
theorem dX7_endOf_12 : decode cX7_endOf 12 = .ok (.ireturn, 1) := by decide +kernel
theorem dX7_placeIn_0 : decode cX7_placeIn 0 = .ok (.aload_n 0, 1) := by decide +kernel
theorem dX7_placeIn_1 : decode cX7_placeIn 1 = .ok (.getfield 7, 3) := by decide +kernel
theorem dX7_placeIn_4 : decode cX7_placeIn 4 = .ok (.iload_n 1, 1) := by decide +kernel
theorem dX7_placeIn_5 : decode cX7_placeIn 5 = .ok (.iaload, 1) := by decide +kernel
theorem dX7_placeIn_6 : decode cX7_placeIn 6 = .ok (.istore_n 3, 1) := by decide +kernel
theorem dX7_placeIn_7 : decode cX7_placeIn 7 = .ok (.iconst (-1), 1) := by decide +kernel
theorem dX7_placeIn_8 : decode cX7_placeIn 8 = .ok (.istore 4, 2) := by decide +kernel
theorem dX7_placeIn_10 : decode cX7_placeIn 10 = .ok (.iconst 0, 1) := by decide +kernel
theorem dX7_placeIn_11 : decode cX7_placeIn 11 = .ok (.istore 5, 2) := by decide +kernel
theorem dX7_placeIn_13 : decode cX7_placeIn 13 = .ok (.iload 5, 2) := by decide +kernel
theorem dX7_placeIn_15 : decode cX7_placeIn 15 = .ok (.aload_n 0, 1) := by decide +kernel
theorem dX7_placeIn_16 : decode cX7_placeIn 16 = .ok (.getfield 144, 3) := by decide +kernel
theorem dX7_placeIn_19 : decode cX7_placeIn 19 = .ok (.if_icmp .ge 85, 3) := by decide +kernel
theorem dX7_placeIn_22 : decode cX7_placeIn 22 = .ok (.aload_n 0, 1) := by decide +kernel
theorem dX7_placeIn_23 : decode cX7_placeIn 23 = .ok (.getfield 58, 3) := by decide +kernel
theorem dX7_placeIn_26 : decode cX7_placeIn 26 = .ok (.iload 5, 2) := by decide +kernel
theorem dX7_placeIn_28 : decode cX7_placeIn 28 = .ok (.iaload, 1) := by decide +kernel
theorem dX7_placeIn_29 : decode cX7_placeIn 29 = .ok (.iload_n 1, 1) := by decide +kernel
theorem dX7_placeIn_30 : decode cX7_placeIn 30 = .ok (.if_icmp .ne 68, 3) := by decide +kernel
theorem dX7_placeIn_33 : decode cX7_placeIn 33 = .ok (.aload_n 0, 1) := by decide +kernel
theorem dX7_placeIn_34 : decode cX7_placeIn 34 = .ok (.getfield 73, 3) := by decide +kernel
theorem dX7_placeIn_37 : decode cX7_placeIn 37 = .ok (.iload 5, 2) := by decide +kernel
theorem dX7_placeIn_39 : decode cX7_placeIn 39 = .ok (.iaload, 1) := by decide +kernel
theorem dX7_placeIn_40 : decode cX7_placeIn 40 = .ok (.iconst 2, 1) := by decide +kernel
theorem dX7_placeIn_41 : decode cX7_placeIn 41 = .ok (.if_icmp .ne 57, 3) := by decide +kernel
theorem dX7_placeIn_44 : decode cX7_placeIn 44 = .ok (.aload_n 0, 1) := by decide +kernel
theorem dX7_placeIn_45 : decode cX7_placeIn 45 = .ok (.getfield 67, 3) := by decide +kernel
theorem dX7_placeIn_48 : decode cX7_placeIn 48 = .ok (.iload 5, 2) := by decide +kernel
theorem dX7_placeIn_50 : decode cX7_placeIn 50 = .ok (.iaload, 1) := by decide +kernel
theorem dX7_placeIn_51 : decode cX7_placeIn 51 = .ok (.iload_n 2, 1) := by decide +kernel
theorem dX7_placeIn_52 : decode cX7_placeIn 52 = .ok (.if_icmp .gt 46, 3) := by decide +kernel
theorem dX7_placeIn_55 : decode cX7_placeIn 55 = .ok (.aload_n 0, 1) := by decide +kernel
theorem dX7_placeIn_56 : decode cX7_placeIn 56 = .ok (.getfield 67, 3) := by decide +kernel
theorem dX7_placeIn_59 : decode cX7_placeIn 59 = .ok (.iload 5, 2) := by decide +kernel
theorem dX7_placeIn_61 : decode cX7_placeIn 61 = .ok (.iaload, 1) := by decide +kernel
theorem dX7_placeIn_62 : decode cX7_placeIn 62 = .ok (.iload 4, 2) := by decide +kernel
theorem dX7_placeIn_64 : decode cX7_placeIn 64 = .ok (.if_icmp .le 34, 3) := by decide +kernel
theorem dX7_placeIn_67 : decode cX7_placeIn 67 = .ok (.aload_n 0, 1) := by decide +kernel
theorem dX7_placeIn_68 : decode cX7_placeIn 68 = .ok (.getfield 67, 3) := by decide +kernel
theorem dX7_placeIn_71 : decode cX7_placeIn 71 = .ok (.iload 5, 2) := by decide +kernel
theorem dX7_placeIn_73 : decode cX7_placeIn 73 = .ok (.iaload, 1) := by decide +kernel
theorem dX7_placeIn_74 : decode cX7_placeIn 74 = .ok (.istore 4, 2) := by decide +kernel
theorem dX7_placeIn_76 : decode cX7_placeIn 76 = .ok (.iload_n 2, 1) := by decide +kernel
theorem dX7_placeIn_77 : decode cX7_placeIn 77 = .ok (.aload_n 0, 1) := by decide +kernel
theorem dX7_placeIn_78 : decode cX7_placeIn 78 = .ok (.iload 5, 2) := by decide +kernel
theorem dX7_placeIn_80 : decode cX7_placeIn 80 = .ok (.invokevirtual 174, 3) := by decide +kernel
theorem dX7_placeIn_83 : decode cX7_placeIn 83 = .ok (.if_icmp .ge 7, 3) := by decide +kernel
theorem dX7_placeIn_86 : decode cX7_placeIn 86 = .ok (.iconst (-1), 1) := by decide +kernel
theorem dX7_placeIn_87 : decode cX7_placeIn 87 = .ok (.goto 10, 3) := by decide +kernel
theorem dX7_placeIn_90 : decode cX7_placeIn 90 = .ok (.aload_n 0, 1) := by decide +kernel
theorem dX7_placeIn_91 : decode cX7_placeIn 91 = .ok (.getfield 64, 3) := by decide +kernel
theorem dX7_placeIn_94 : decode cX7_placeIn 94 = .ok (.iload 5, 2) := by decide +kernel
theorem dX7_placeIn_96 : decode cX7_placeIn 96 = .ok (.iaload, 1) := by decide +kernel
theorem dX7_placeIn_97 : decode cX7_placeIn 97 = .ok (.istore_n 3, 1) := by decide +kernel
theorem dX7_placeIn_98 : decode cX7_placeIn 98 = .ok (.iinc 5 1, 3) := by decide +kernel
theorem dX7_placeIn_101 : decode cX7_placeIn 101 = .ok (.goto (-88), 3) := by decide +kernel
theorem dX7_placeIn_104 : decode cX7_placeIn 104 = .ok (.iload_n 3, 1) := by decide +kernel
theorem dX7_placeIn_105 : decode cX7_placeIn 105 = .ok (.ireturn, 1) := by decide +kernel
theorem dX7_lastOf_0 : decode cX7_lastOf 0 = .ok (.iconst (-1), 1) := by decide +kernel
theorem dX7_lastOf_1 : decode cX7_lastOf 1 = .ok (.istore_n 2, 1) := by decide +kernel
theorem dX7_lastOf_2 : decode cX7_lastOf 2 = .ok (.iconst 0, 1) := by decide +kernel
theorem dX7_lastOf_3 : decode cX7_lastOf 3 = .ok (.istore_n 3, 1) := by decide +kernel
theorem dX7_lastOf_4 : decode cX7_lastOf 4 = .ok (.iload_n 3, 1) := by decide +kernel
theorem dX7_lastOf_5 : decode cX7_lastOf 5 = .ok (.aload_n 0, 1) := by decide +kernel
theorem dX7_lastOf_6 : decode cX7_lastOf 6 = .ok (.getfield 144, 3) := by decide +kernel
theorem dX7_lastOf_9 : decode cX7_lastOf 9 = .ok (.if_icmp .ge 67, 3) := by decide +kernel
theorem dX7_lastOf_12 : decode cX7_lastOf 12 = .ok (.aload_n 0, 1) := by decide +kernel
theorem dX7_lastOf_13 : decode cX7_lastOf 13 = .ok (.getfield 58, 3) := by decide +kernel
theorem dX7_lastOf_16 : decode cX7_lastOf 16 = .ok (.iload_n 3, 1) := by decide +kernel
theorem dX7_lastOf_17 : decode cX7_lastOf 17 = .ok (.iaload, 1) := by decide +kernel
theorem dX7_lastOf_18 : decode cX7_lastOf 18 = .ok (.iload_n 1, 1) := by decide +kernel
theorem dX7_lastOf_19 : decode cX7_lastOf 19 = .ok (.if_icmp .ne 17, 3) := by decide +kernel
theorem dX7_lastOf_22 : decode cX7_lastOf 22 = .ok (.aload_n 0, 1) := by decide +kernel
theorem dX7_lastOf_23 : decode cX7_lastOf 23 = .ok (.getfield 73, 3) := by decide +kernel
theorem dX7_lastOf_26 : decode cX7_lastOf 26 = .ok (.iload_n 3, 1) := by decide +kernel
theorem dX7_lastOf_27 : decode cX7_lastOf 27 = .ok (.iaload, 1) := by decide +kernel
theorem dX7_lastOf_28 : decode cX7_lastOf 28 = .ok (.iconst 1, 1) := by decide +kernel
theorem dX7_lastOf_29 : decode cX7_lastOf 29 = .ok (.if_icmp .eq 7, 3) := by decide +kernel
theorem dX7_lastOf_32 : decode cX7_lastOf 32 = .ok (.iconst 1, 1) := by decide +kernel
theorem dX7_lastOf_33 : decode cX7_lastOf 33 = .ok (.goto 4, 3) := by decide +kernel
theorem dX7_lastOf_36 : decode cX7_lastOf 36 = .ok (.iconst 0, 1) := by decide +kernel
theorem dX7_lastOf_37 : decode cX7_lastOf 37 = .ok (.istore 4, 2) := by decide +kernel
theorem dX7_lastOf_39 : decode cX7_lastOf 39 = .ok (.iload 4, 2) := by decide +kernel
theorem dX7_lastOf_41 : decode cX7_lastOf 41 = .ok (.ifCond .eq 27, 3) := by decide +kernel
theorem dX7_lastOf_44 : decode cX7_lastOf 44 = .ok (.iload_n 2, 1) := by decide +kernel
theorem dX7_lastOf_45 : decode cX7_lastOf 45 = .ok (.iconst (-1), 1) := by decide +kernel
theorem dX7_lastOf_46 : decode cX7_lastOf 46 = .ok (.if_icmp .eq 18, 3) := by decide +kernel
theorem dX7_lastOf_49 : decode cX7_lastOf 49 = .ok (.aload_n 0, 1) := by decide +kernel
theorem dX7_lastOf_50 : decode cX7_lastOf 50 = .ok (.getfield 67, 3) := by decide +kernel
theorem dX7_lastOf_53 : decode cX7_lastOf 53 = .ok (.iload_n 3, 1) := by decide +kernel
theorem dX7_lastOf_54 : decode cX7_lastOf 54 = .ok (.iaload, 1) := by decide +kernel
theorem dX7_lastOf_55 : decode cX7_lastOf 55 = .ok (.aload_n 0, 1) := by decide +kernel
theorem dX7_lastOf_56 : decode cX7_lastOf 56 = .ok (.getfield 67, 3) := by decide +kernel
theorem dX7_lastOf_59 : decode cX7_lastOf 59 = .ok (.iload_n 2, 1) := by decide +kernel
theorem dX7_lastOf_60 : decode cX7_lastOf 60 = .ok (.iaload, 1) := by decide +kernel
theorem dX7_lastOf_61 : decode cX7_lastOf 61 = .ok (.if_icmp .lt 7, 3) := by decide +kernel
theorem dX7_lastOf_64 : decode cX7_lastOf 64 = .ok (.iload_n 3, 1) := by decide +kernel
theorem dX7_lastOf_65 : decode cX7_lastOf 65 = .ok (.goto 4, 3) := by decide +kernel
theorem dX7_lastOf_68 : decode cX7_lastOf 68 = .ok (.iload_n 2, 1) := by decide +kernel
theorem dX7_lastOf_69 : decode cX7_lastOf 69 = .ok (.istore_n 2, 1) := by decide +kernel
theorem dX7_lastOf_70 : decode cX7_lastOf 70 = .ok (.iinc 3 1, 3) := by decide +kernel
theorem dX7_lastOf_73 : decode cX7_lastOf 73 = .ok (.goto (-69), 3) := by decide +kernel
theorem dX7_lastOf_76 : decode cX7_lastOf 76 = .ok (.iload_n 2, 1) := by decide +kernel
theorem dX7_lastOf_77 : decode cX7_lastOf 77 = .ok (.ireturn, 1) := by decide +kernel
theorem dX7_makes_0 : decode cX7_makes 0 = .ok (.aload_n 0, 1) := by decide +kernel
theorem dX7_makes_1 : decode cX7_makes 1 = .ok (.getfield 58, 3) := by decide +kernel
theorem dX7_makes_4 : decode cX7_makes 4 = .ok (.aload_n 0, 1) := by decide +kernel
theorem dX7_makes_5 : decode cX7_makes 5 = .ok (.getfield 144, 3) := by decide +kernel
theorem dX7_makes_8 : decode cX7_makes 8 = .ok (.iload_n 1, 1) := by decide +kernel
theorem dX7_makes_9 : decode cX7_makes 9 = .ok (.iastore, 1) := by decide +kernel
theorem dX7_makes_10 : decode cX7_makes 10 = .ok (.aload_n 0, 1) := by decide +kernel
theorem dX7_makes_11 : decode cX7_makes 11 = .ok (.getfield 61, 3) := by decide +kernel
theorem dX7_makes_14 : decode cX7_makes 14 = .ok (.aload_n 0, 1) := by decide +kernel
theorem dX7_makes_15 : decode cX7_makes 15 = .ok (.getfield 144, 3) := by decide +kernel
theorem dX7_makes_18 : decode cX7_makes 18 = .ok (.iload_n 2, 1) := by decide +kernel
theorem dX7_makes_19 : decode cX7_makes 19 = .ok (.iastore, 1) := by decide +kernel
theorem dX7_makes_20 : decode cX7_makes 20 = .ok (.aload_n 0, 1) := by decide +kernel
theorem dX7_makes_21 : decode cX7_makes 21 = .ok (.getfield 64, 3) := by decide +kernel
theorem dX7_makes_24 : decode cX7_makes 24 = .ok (.aload_n 0, 1) := by decide +kernel
theorem dX7_makes_25 : decode cX7_makes 25 = .ok (.getfield 144, 3) := by decide +kernel
theorem dX7_makes_28 : decode cX7_makes 28 = .ok (.iload_n 3, 1) := by decide +kernel
theorem dX7_makes_29 : decode cX7_makes 29 = .ok (.iastore, 1) := by decide +kernel
theorem dX7_makes_30 : decode cX7_makes 30 = .ok (.aload_n 0, 1) := by decide +kernel
theorem dX7_makes_31 : decode cX7_makes 31 = .ok (.getfield 67, 3) := by decide +kernel
theorem dX7_makes_34 : decode cX7_makes 34 = .ok (.aload_n 0, 1) := by decide +kernel
theorem dX7_makes_35 : decode cX7_makes 35 = .ok (.getfield 144, 3) := by decide +kernel
theorem dX7_makes_38 : decode cX7_makes 38 = .ok (.iload 4, 2) := by decide +kernel
theorem dX7_makes_40 : decode cX7_makes 40 = .ok (.iastore, 1) := by decide +kernel
theorem dX7_makes_41 : decode cX7_makes 41 = .ok (.aload_n 0, 1) := by decide +kernel
theorem dX7_makes_42 : decode cX7_makes 42 = .ok (.getfield 70, 3) := by decide +kernel
theorem dX7_makes_45 : decode cX7_makes 45 = .ok (.aload_n 0, 1) := by decide +kernel
theorem dX7_makes_46 : decode cX7_makes 46 = .ok (.getfield 144, 3) := by decide +kernel
theorem dX7_makes_49 : decode cX7_makes 49 = .ok (.iload 5, 2) := by decide +kernel
theorem dX7_makes_51 : decode cX7_makes 51 = .ok (.iastore, 1) := by decide +kernel
theorem dX7_makes_52 : decode cX7_makes 52 = .ok (.aload_n 0, 1) := by decide +kernel
theorem dX7_makes_53 : decode cX7_makes 53 = .ok (.getfield 73, 3) := by decide +kernel
theorem dX7_makes_56 : decode cX7_makes 56 = .ok (.aload_n 0, 1) := by decide +kernel
theorem dX7_makes_57 : decode cX7_makes 57 = .ok (.getfield 144, 3) := by decide +kernel
theorem dX7_makes_60 : decode cX7_makes 60 = .ok (.iconst 0, 1) := by decide +kernel
theorem dX7_makes_61 : decode cX7_makes 61 = .ok (.iastore, 1) := by decide +kernel
theorem dX7_makes_62 : decode cX7_makes 62 = .ok (.aload_n 0, 1) := by decide +kernel
theorem dX7_makes_63 : decode cX7_makes 63 = .ok (.dup, 1) := by decide +kernel
theorem dX7_makes_64 : decode cX7_makes 64 = .ok (.getfield 144, 3) := by decide +kernel
theorem dX7_makes_67 : decode cX7_makes 67 = .ok (.iconst 1, 1) := by decide +kernel
theorem dX7_makes_68 : decode cX7_makes 68 = .ok (.iadd, 1) := by decide +kernel
theorem dX7_makes_69 : decode cX7_makes 69 = .ok (.putfield 144, 3) := by decide +kernel
theorem dX7_makes_72 : decode cX7_makes 72 = .ok (.aload_n 0, 1) := by decide +kernel
theorem dX7_makes_73 : decode cX7_makes 73 = .ok (.getfield 144, 3) := by decide +kernel
theorem dX7_makes_76 : decode cX7_makes 76 = .ok (.iconst 1, 1) := by decide +kernel
theorem dX7_makes_77 : decode cX7_makes 77 = .ok (.isub, 1) := by decide +kernel
theorem dX7_makes_78 : decode cX7_makes 78 = .ok (.ireturn, 1) := by decide +kernel
theorem dX7_plan_0 : decode cX7_plan 0 = .ok (.aload_n 0, 1) := by decide +kernel
theorem dX7_plan_1 : decode cX7_plan 1 = .ok (.aload_n 0, 1) := by decide +kernel
theorem dX7_plan_2 : decode cX7_plan 2 = .ok (.iload_n 1, 1) := by decide +kernel
theorem dX7_plan_3 : decode cX7_plan 3 = .ok (.invokevirtual 154, 3) := by decide +kernel
theorem dX7_plan_6 : decode cX7_plan 6 = .ok (.ifCond .eq 10, 3) := by decide +kernel
theorem dX7_plan_9 : decode cX7_plan 9 = .ok (.iload_n 2, 1) := by decide +kernel
theorem dX7_plan_10 : decode cX7_plan 10 = .ok (.invokestatic 150, 3) := by decide +kernel
theorem dX7_plan_13 : decode cX7_plan 13 = .ok (.ifCond .ne 7, 3) := by decide +kernel
theorem dX7_plan_16 : decode cX7_plan 16 = .ok (.iconst 1, 1) := by decide +kernel
theorem dX7_plan_17 : decode cX7_plan 17 = .ok (.goto 4, 3) := by decide +kernel
theorem dX7_plan_20 : decode cX7_plan 20 = .ok (.iconst 0, 1) := by decide +kernel
theorem dX7_plan_21 : decode cX7_plan 21 = .ok (.putfield 133, 3) := by decide +kernel
theorem dX7_plan_24 : decode cX7_plan 24 = .ok (.aload_n 0, 1) := by decide +kernel
theorem dX7_plan_25 : decode cX7_plan 25 = .ok (.getfield 133, 3) := by decide +kernel
theorem dX7_plan_28 : decode cX7_plan 28 = .ok (.ifCond .le 5, 3) := by decide +kernel
theorem dX7_plan_31 : decode cX7_plan 31 = .ok (.iconst 0, 1) := by decide +kernel
theorem dX7_plan_32 : decode cX7_plan 32 = .ok (.ireturn, 1) := by decide +kernel
theorem dX7_plan_33 : decode cX7_plan 33 = .ok (.aload_n 0, 1) := by decide +kernel
theorem dX7_plan_34 : decode cX7_plan 34 = .ok (.iload_n 1, 1) := by decide +kernel
theorem dX7_plan_35 : decode cX7_plan 35 = .ok (.invokevirtual 177, 3) := by decide +kernel
theorem dX7_plan_38 : decode cX7_plan 38 = .ok (.istore 5, 2) := by decide +kernel
theorem dX7_plan_40 : decode cX7_plan 40 = .ok (.iload 5, 2) := by decide +kernel
theorem dX7_plan_42 : decode cX7_plan 42 = .ok (.iconst (-1), 1) := by decide +kernel
theorem dX7_plan_43 : decode cX7_plan 43 = .ok (.if_icmp .ne 15, 3) := by decide +kernel
theorem dX7_plan_46 : decode cX7_plan 46 = .ok (.aload_n 0, 1) := by decide +kernel
theorem dX7_plan_47 : decode cX7_plan 47 = .ok (.iload_n 1, 1) := by decide +kernel
theorem dX7_plan_48 : decode cX7_plan 48 = .ok (.aload_n 0, 1) := by decide +kernel
theorem dX7_plan_49 : decode cX7_plan 49 = .ok (.getfield 180, 3) := by decide +kernel
theorem dX7_plan_52 : decode cX7_plan 52 = .ok (.invokevirtual 183, 3) := by decide +kernel
theorem dX7_plan_55 : decode cX7_plan 55 = .ok (.goto 10, 3) := by decide +kernel
theorem dX7_plan_58 : decode cX7_plan 58 = .ok (.aload_n 0, 1) := by decide +kernel
theorem dX7_plan_59 : decode cX7_plan 59 = .ok (.getfield 64, 3) := by decide +kernel
theorem dX7_plan_62 : decode cX7_plan 62 = .ok (.iload 5, 2) := by decide +kernel
theorem dX7_plan_64 : decode cX7_plan 64 = .ok (.iaload, 1) := by decide +kernel
theorem dX7_plan_65 : decode cX7_plan 65 = .ok (.istore 6, 2) := by decide +kernel
theorem dX7_plan_67 : decode cX7_plan 67 = .ok (.aload_n 0, 1) := by decide +kernel
theorem dX7_plan_68 : decode cX7_plan 68 = .ok (.iload_n 3, 1) := by decide +kernel
theorem dX7_plan_69 : decode cX7_plan 69 = .ok (.aload_n 0, 1) := by decide +kernel
theorem dX7_plan_70 : decode cX7_plan 70 = .ok (.getfield 180, 3) := by decide +kernel
theorem dX7_plan_73 : decode cX7_plan 73 = .ok (.sipush 10000, 3) := by decide +kernel
theorem dX7_plan_76 : decode cX7_plan 76 = .ok (.invokestatic 137, 3) := by decide +kernel
theorem dX7_plan_79 : decode cX7_plan 79 = .ok (.ifCond .eq 21, 3) := by decide +kernel
theorem dX7_plan_82 : decode cX7_plan 82 = .ok (.iload 4, 2) := by decide +kernel
theorem dX7_plan_84 : decode cX7_plan 84 = .ok (.iconst 1, 1) := by decide +kernel
theorem dX7_plan_85 : decode cX7_plan 85 = .ok (.sipush 400, 3) := by decide +kernel
theorem dX7_plan_88 : decode cX7_plan 88 = .ok (.invokestatic 137, 3) := by decide +kernel
theorem dX7_plan_91 : decode cX7_plan 91 = .ok (.ifCond .eq 9, 3) := by decide +kernel
theorem dX7_plan_94 : decode cX7_plan 94 = .ok (.iload_n 2, 1) := by decide +kernel
theorem dX7_plan_95 : decode cX7_plan 95 = .ok (.iload 6, 2) := by decide +kernel
theorem dX7_plan_97 : decode cX7_plan 97 = .ok (.if_icmp .ne 7, 3) := by decide +kernel
theorem dX7_plan_100 : decode cX7_plan 100 = .ok (.iconst 2, 1) := by decide +kernel
theorem dX7_plan_101 : decode cX7_plan 101 = .ok (.goto 33, 3) := by decide +kernel
theorem dX7_plan_104 : decode cX7_plan 104 = .ok (.iload 5, 2) := by decide +kernel
theorem dX7_plan_106 : decode cX7_plan 106 = .ok (.iconst (-1), 1) := by decide +kernel
theorem dX7_plan_107 : decode cX7_plan 107 = .ok (.if_icmp .eq 13, 3) := by decide +kernel
theorem dX7_plan_110 : decode cX7_plan 110 = .ok (.aload_n 0, 1) := by decide +kernel
theorem dX7_plan_111 : decode cX7_plan 111 = .ok (.iload 5, 2) := by decide +kernel
theorem dX7_plan_113 : decode cX7_plan 113 = .ok (.invokevirtual 174, 3) := by decide +kernel
theorem dX7_plan_116 : decode cX7_plan 116 = .ok (.iload_n 3, 1) := by decide +kernel
theorem dX7_plan_117 : decode cX7_plan 117 = .ok (.if_icmp .gt 12, 3) := by decide +kernel
theorem dX7_plan_120 : decode cX7_plan 120 = .ok (.aload_n 0, 1) := by decide +kernel
theorem dX7_plan_121 : decode cX7_plan 121 = .ok (.getfield 144, 3) := by decide +kernel
theorem dX7_plan_124 : decode cX7_plan 124 = .ok (.bipush 24, 2) := by decide +kernel
theorem dX7_plan_126 : decode cX7_plan 126 = .ok (.if_icmp .ne 7, 3) := by decide +kernel
theorem dX7_plan_129 : decode cX7_plan 129 = .ok (.iconst 3, 1) := by decide +kernel
theorem dX7_plan_130 : decode cX7_plan 130 = .ok (.goto 4, 3) := by decide +kernel
theorem dX7_plan_133 : decode cX7_plan 133 = .ok (.iconst 0, 1) := by decide +kernel
theorem dX7_plan_134 : decode cX7_plan 134 = .ok (.putfield 133, 3) := by decide +kernel
theorem dX7_plan_137 : decode cX7_plan 137 = .ok (.aload_n 0, 1) := by decide +kernel
theorem dX7_plan_138 : decode cX7_plan 138 = .ok (.getfield 133, 3) := by decide +kernel
theorem dX7_plan_141 : decode cX7_plan 141 = .ok (.ifCond .le 7, 3) := by decide +kernel
theorem dX7_plan_144 : decode cX7_plan 144 = .ok (.iconst 0, 1) := by decide +kernel
theorem dX7_plan_145 : decode cX7_plan 145 = .ok (.goto 14, 3) := by decide +kernel
theorem dX7_plan_148 : decode cX7_plan 148 = .ok (.aload_n 0, 1) := by decide +kernel
theorem dX7_plan_149 : decode cX7_plan 149 = .ok (.iload_n 1, 1) := by decide +kernel
theorem dX7_plan_150 : decode cX7_plan 150 = .ok (.iload 6, 2) := by decide +kernel
theorem dX7_plan_152 : decode cX7_plan 152 = .ok (.iload_n 2, 1) := by decide +kernel
theorem dX7_plan_153 : decode cX7_plan 153 = .ok (.iload_n 3, 1) := by decide +kernel
theorem dX7_plan_154 : decode cX7_plan 154 = .ok (.iload 4, 2) := by decide +kernel
theorem dX7_plan_156 : decode cX7_plan 156 = .ok (.invokevirtual 186, 3) := by decide +kernel
theorem dX7_plan_159 : decode cX7_plan 159 = .ok (.ireturn, 1) := by decide +kernel
theorem dX7_goesOver_0 : decode cX7_goesOver 0 = .ok (.aload_n 0, 1) := by decide +kernel
theorem dX7_goesOver_1 : decode cX7_goesOver 1 = .ok (.getfield 91, 3) := by decide +kernel
theorem dX7_goesOver_4 : decode cX7_goesOver 4 = .ok (.iload_n 1, 1) := by decide +kernel
theorem dX7_goesOver_5 : decode cX7_goesOver 5 = .ok (.iaload, 1) := by decide +kernel
theorem dX7_goesOver_6 : decode cX7_goesOver 6 = .ok (.iconst 1, 1) := by decide +kernel
theorem dX7_goesOver_7 : decode cX7_goesOver 7 = .ok (.isub, 1) := by decide +kernel
theorem dX7_goesOver_8 : decode cX7_goesOver 8 = .ok (.istore_n 2, 1) := by decide +kernel
theorem dX7_goesOver_9 : decode cX7_goesOver 9 = .ok (.iconst (-1), 1) := by decide +kernel
theorem dX7_goesOver_10 : decode cX7_goesOver 10 = .ok (.istore_n 3, 1) := by decide +kernel
theorem dX7_goesOver_11 : decode cX7_goesOver 11 = .ok (.iconst 0, 1) := by decide +kernel
theorem dX7_goesOver_12 : decode cX7_goesOver 12 = .ok (.istore 4, 2) := by decide +kernel
theorem dX7_goesOver_14 : decode cX7_goesOver 14 = .ok (.iload 4, 2) := by decide +kernel
theorem dX7_goesOver_16 : decode cX7_goesOver 16 = .ok (.aload_n 0, 1) := by decide +kernel
theorem dX7_goesOver_17 : decode cX7_goesOver 17 = .ok (.getfield 144, 3) := by decide +kernel
theorem dX7_goesOver_20 : decode cX7_goesOver 20 = .ok (.if_icmp .ge 91, 3) := by decide +kernel
theorem dX7_goesOver_23 : decode cX7_goesOver 23 = .ok (.aload_n 0, 1) := by decide +kernel
theorem dX7_goesOver_24 : decode cX7_goesOver 24 = .ok (.getfield 73, 3) := by decide +kernel
theorem dX7_goesOver_27 : decode cX7_goesOver 27 = .ok (.iload 4, 2) := by decide +kernel
theorem dX7_goesOver_29 : decode cX7_goesOver 29 = .ok (.iaload, 1) := by decide +kernel
theorem dX7_goesOver_30 : decode cX7_goesOver 30 = .ok (.ifCond .ne 39, 3) := by decide +kernel
theorem dX7_goesOver_33 : decode cX7_goesOver 33 = .ok (.aload_n 0, 1) := by decide +kernel
theorem dX7_goesOver_34 : decode cX7_goesOver 34 = .ok (.getfield 61, 3) := by decide +kernel
theorem dX7_goesOver_37 : decode cX7_goesOver 37 = .ok (.iload 4, 2) := by decide +kernel
theorem dX7_goesOver_39 : decode cX7_goesOver 39 = .ok (.iaload, 1) := by decide +kernel
theorem dX7_goesOver_40 : decode cX7_goesOver 40 = .ok (.aload_n 0, 1) := by decide +kernel
theorem dX7_goesOver_41 : decode cX7_goesOver 41 = .ok (.getfield 61, 3) := by decide +kernel
theorem dX7_goesOver_44 : decode cX7_goesOver 44 = .ok (.iload_n 2, 1) := by decide +kernel
theorem dX7_goesOver_45 : decode cX7_goesOver 45 = .ok (.iaload, 1) := by decide +kernel
theorem dX7_goesOver_46 : decode cX7_goesOver 46 = .ok (.if_icmp .ne 23, 3) := by decide +kernel
theorem dX7_goesOver_49 : decode cX7_goesOver 49 = .ok (.aload_n 0, 1) := by decide +kernel
theorem dX7_goesOver_50 : decode cX7_goesOver 50 = .ok (.getfield 64, 3) := by decide +kernel
theorem dX7_goesOver_53 : decode cX7_goesOver 53 = .ok (.iload 4, 2) := by decide +kernel
theorem dX7_goesOver_55 : decode cX7_goesOver 55 = .ok (.iaload, 1) := by decide +kernel
theorem dX7_goesOver_56 : decode cX7_goesOver 56 = .ok (.aload_n 0, 1) := by decide +kernel
theorem dX7_goesOver_57 : decode cX7_goesOver 57 = .ok (.getfield 64, 3) := by decide +kernel
theorem dX7_goesOver_60 : decode cX7_goesOver 60 = .ok (.iload_n 2, 1) := by decide +kernel
theorem dX7_goesOver_61 : decode cX7_goesOver 61 = .ok (.iaload, 1) := by decide +kernel
theorem dX7_goesOver_62 : decode cX7_goesOver 62 = .ok (.if_icmp .ne 7, 3) := by decide +kernel
theorem dX7_goesOver_65 : decode cX7_goesOver 65 = .ok (.iconst 1, 1) := by decide +kernel
theorem dX7_goesOver_66 : decode cX7_goesOver 66 = .ok (.goto 4, 3) := by decide +kernel
theorem dX7_goesOver_69 : decode cX7_goesOver 69 = .ok (.iconst 0, 1) := by decide +kernel
theorem dX7_goesOver_70 : decode cX7_goesOver 70 = .ok (.istore 5, 2) := by decide +kernel
theorem dX7_goesOver_72 : decode cX7_goesOver 72 = .ok (.iload 5, 2) := by decide +kernel
theorem dX7_goesOver_74 : decode cX7_goesOver 74 = .ok (.ifCond .eq 29, 3) := by decide +kernel
theorem dX7_goesOver_77 : decode cX7_goesOver 77 = .ok (.iload_n 3, 1) := by decide +kernel
theorem dX7_goesOver_78 : decode cX7_goesOver 78 = .ok (.iconst (-1), 1) := by decide +kernel
theorem dX7_goesOver_79 : decode cX7_goesOver 79 = .ok (.if_icmp .eq 19, 3) := by decide +kernel
theorem dX7_goesOver_82 : decode cX7_goesOver 82 = .ok (.aload_n 0, 1) := by decide +kernel
theorem dX7_goesOver_83 : decode cX7_goesOver 83 = .ok (.getfield 67, 3) := by decide +kernel
theorem dX7_goesOver_86 : decode cX7_goesOver 86 = .ok (.iload 4, 2) := by decide +kernel
theorem dX7_goesOver_88 : decode cX7_goesOver 88 = .ok (.iaload, 1) := by decide +kernel
theorem dX7_goesOver_89 : decode cX7_goesOver 89 = .ok (.aload_n 0, 1) := by decide +kernel
theorem dX7_goesOver_90 : decode cX7_goesOver 90 = .ok (.getfield 67, 3) := by decide +kernel
theorem dX7_goesOver_93 : decode cX7_goesOver 93 = .ok (.iload_n 3, 1) := by decide +kernel
theorem dX7_goesOver_94 : decode cX7_goesOver 94 = .ok (.iaload, 1) := by decide +kernel
theorem dX7_goesOver_95 : decode cX7_goesOver 95 = .ok (.if_icmp .ge 8, 3) := by decide +kernel
theorem dX7_goesOver_98 : decode cX7_goesOver 98 = .ok (.iload 4, 2) := by decide +kernel
theorem dX7_goesOver_100 : decode cX7_goesOver 100 = .ok (.goto 4, 3) := by decide +kernel
theorem dX7_goesOver_103 : decode cX7_goesOver 103 = .ok (.iload_n 3, 1) := by decide +kernel
theorem dX7_goesOver_104 : decode cX7_goesOver 104 = .ok (.istore_n 3, 1) := by decide +kernel
theorem dX7_goesOver_105 : decode cX7_goesOver 105 = .ok (.iinc 4 1, 3) := by decide +kernel
theorem dX7_goesOver_108 : decode cX7_goesOver 108 = .ok (.goto (-94), 3) := by decide +kernel
theorem dX7_goesOver_111 : decode cX7_goesOver 111 = .ok (.aload_n 0, 1) := by decide +kernel
theorem dX7_goesOver_112 : decode cX7_goesOver 112 = .ok (.getfield 115, 3) := by decide +kernel
theorem dX7_goesOver_115 : decode cX7_goesOver 115 = .ok (.iload_n 1, 1) := by decide +kernel
theorem dX7_goesOver_116 : decode cX7_goesOver 116 = .ok (.dup2, 1) := by decide +kernel
theorem dX7_goesOver_117 : decode cX7_goesOver 117 = .ok (.iaload, 1) := by decide +kernel
theorem dX7_goesOver_118 : decode cX7_goesOver 118 = .ok (.iconst 1, 1) := by decide +kernel
theorem dX7_goesOver_119 : decode cX7_goesOver 119 = .ok (.iadd, 1) := by decide +kernel
theorem dX7_goesOver_120 : decode cX7_goesOver 120 = .ok (.iastore, 1) := by decide +kernel
theorem dX7_goesOver_121 : decode cX7_goesOver 121 = .ok (.iload_n 3, 1) := by decide +kernel
theorem dX7_goesOver_122 : decode cX7_goesOver 122 = .ok (.iconst (-1), 1) := by decide +kernel
theorem dX7_goesOver_123 : decode cX7_goesOver 123 = .ok (.if_icmp .eq 13, 3) := by decide +kernel
theorem dX7_goesOver_126 : decode cX7_goesOver 126 = .ok (.aload_n 0, 1) := by decide +kernel
theorem dX7_goesOver_127 : decode cX7_goesOver 127 = .ok (.getfield 115, 3) := by decide +kernel
theorem dX7_goesOver_130 : decode cX7_goesOver 130 = .ok (.iload_n 1, 1) := by decide +kernel
theorem dX7_goesOver_131 : decode cX7_goesOver 131 = .ok (.iaload, 1) := by decide +kernel
theorem dX7_goesOver_132 : decode cX7_goesOver 132 = .ok (.iconst 3, 1) := by decide +kernel
theorem dX7_goesOver_133 : decode cX7_goesOver 133 = .ok (.if_icmp .ne 59, 3) := by decide +kernel
theorem dX7_goesOver_136 : decode cX7_goesOver 136 = .ok (.aload_n 0, 1) := by decide +kernel
theorem dX7_goesOver_137 : decode cX7_goesOver 137 = .ok (.dup, 1) := by decide +kernel
theorem dX7_goesOver_138 : decode cX7_goesOver 138 = .ok (.getfield 190, 3) := by decide +kernel
theorem dX7_goesOver_141 : decode cX7_goesOver 141 = .ok (.aload_n 0, 1) := by decide +kernel
theorem dX7_goesOver_142 : decode cX7_goesOver 142 = .ok (.getfield 109, 3) := by decide +kernel
theorem dX7_goesOver_145 : decode cX7_goesOver 145 = .ok (.iload_n 1, 1) := by decide +kernel
theorem dX7_goesOver_146 : decode cX7_goesOver 146 = .ok (.iaload, 1) := by decide +kernel
theorem dX7_goesOver_147 : decode cX7_goesOver 147 = .ok (.i2l, 1) := by decide +kernel
theorem dX7_goesOver_148 : decode cX7_goesOver 148 = .ok (.lsub, 1) := by decide +kernel
theorem dX7_goesOver_149 : decode cX7_goesOver 149 = .ok (.putfield 190, 3) := by decide +kernel
theorem dX7_goesOver_152 : decode cX7_goesOver 152 = .ok (.aload_n 0, 1) := by decide +kernel
theorem dX7_goesOver_153 : decode cX7_goesOver 153 = .ok (.dup, 1) := by decide +kernel
theorem dX7_goesOver_154 : decode cX7_goesOver 154 = .ok (.getfield 193, 3) := by decide +kernel
theorem dX7_goesOver_157 : decode cX7_goesOver 157 = .ok (.aload_n 0, 1) := by decide +kernel
theorem dX7_goesOver_158 : decode cX7_goesOver 158 = .ok (.getfield 112, 3) := by decide +kernel
theorem dX7_goesOver_161 : decode cX7_goesOver 161 = .ok (.iload_n 1, 1) := by decide +kernel
theorem dX7_goesOver_162 : decode cX7_goesOver 162 = .ok (.iaload, 1) := by decide +kernel
theorem dX7_goesOver_163 : decode cX7_goesOver 163 = .ok (.i2l, 1) := by decide +kernel
theorem dX7_goesOver_164 : decode cX7_goesOver 164 = .ok (.lsub, 1) := by decide +kernel
theorem dX7_goesOver_165 : decode cX7_goesOver 165 = .ok (.putfield 193, 3) := by decide +kernel
theorem dX7_goesOver_168 : decode cX7_goesOver 168 = .ok (.aload_n 0, 1) := by decide +kernel
theorem dX7_goesOver_169 : decode cX7_goesOver 169 = .ok (.getfield 109, 3) := by decide +kernel
theorem dX7_goesOver_172 : decode cX7_goesOver 172 = .ok (.iload_n 1, 1) := by decide +kernel
theorem dX7_goesOver_173 : decode cX7_goesOver 173 = .ok (.iconst 0, 1) := by decide +kernel
theorem dX7_goesOver_174 : decode cX7_goesOver 174 = .ok (.iastore, 1) := by decide +kernel
theorem dX7_goesOver_175 : decode cX7_goesOver 175 = .ok (.aload_n 0, 1) := by decide +kernel
theorem dX7_goesOver_176 : decode cX7_goesOver 176 = .ok (.getfield 112, 3) := by decide +kernel
theorem dX7_goesOver_179 : decode cX7_goesOver 179 = .ok (.iload_n 1, 1) := by decide +kernel
theorem dX7_goesOver_180 : decode cX7_goesOver 180 = .ok (.iconst 0, 1) := by decide +kernel
theorem dX7_goesOver_181 : decode cX7_goesOver 181 = .ok (.iastore, 1) := by decide +kernel
theorem dX7_goesOver_182 : decode cX7_goesOver 182 = .ok (.aload_n 0, 1) := by decide +kernel
theorem dX7_goesOver_183 : decode cX7_goesOver 183 = .ok (.getfield 91, 3) := by decide +kernel
theorem dX7_goesOver_186 : decode cX7_goesOver 186 = .ok (.iload_n 1, 1) := by decide +kernel
theorem dX7_goesOver_187 : decode cX7_goesOver 187 = .ok (.iconst 0, 1) := by decide +kernel
theorem dX7_goesOver_188 : decode cX7_goesOver 188 = .ok (.iastore, 1) := by decide +kernel
theorem dX7_goesOver_189 : decode cX7_goesOver 189 = .ok (.goto 12, 3) := by decide +kernel
theorem dX7_goesOver_192 : decode cX7_goesOver 192 = .ok (.aload_n 0, 1) := by decide +kernel
theorem dX7_goesOver_193 : decode cX7_goesOver 193 = .ok (.getfield 91, 3) := by decide +kernel
theorem dX7_goesOver_196 : decode cX7_goesOver 196 = .ok (.iload_n 1, 1) := by decide +kernel
theorem dX7_goesOver_197 : decode cX7_goesOver 197 = .ok (.iload_n 3, 1) := by decide +kernel
theorem dX7_goesOver_198 : decode cX7_goesOver 198 = .ok (.iconst 1, 1) := by decide +kernel
theorem dX7_goesOver_199 : decode cX7_goesOver 199 = .ok (.iadd, 1) := by decide +kernel
theorem dX7_goesOver_200 : decode cX7_goesOver 200 = .ok (.iastore, 1) := by decide +kernel
theorem dX7_goesOver_201 : decode cX7_goesOver 201 = .ok (.return_, 1) := by decide +kernel
theorem dX7_empties_0 : decode cX7_empties 0 = .ok (.iconst 0, 1) := by decide +kernel
theorem dX7_empties_1 : decode cX7_empties 1 = .ok (.istore_n 2, 1) := by decide +kernel
theorem dX7_empties_2 : decode cX7_empties 2 = .ok (.iconst 0, 1) := by decide +kernel
theorem dX7_empties_3 : decode cX7_empties 3 = .ok (.istore_n 3, 1) := by decide +kernel
theorem dX7_empties_4 : decode cX7_empties 4 = .ok (.iload_n 3, 1) := by decide +kernel
theorem dX7_empties_5 : decode cX7_empties 5 = .ok (.aload_n 0, 1) := by decide +kernel
theorem dX7_empties_6 : decode cX7_empties 6 = .ok (.getfield 147, 3) := by decide +kernel
theorem dX7_empties_9 : decode cX7_empties 9 = .ok (.if_icmp .ge 38, 3) := by decide +kernel
theorem dX7_empties_12 : decode cX7_empties 12 = .ok (.aload_n 0, 1) := by decide +kernel
theorem dX7_empties_13 : decode cX7_empties 13 = .ok (.getfield 91, 3) := by decide +kernel
theorem dX7_empties_16 : decode cX7_empties 16 = .ok (.iload_n 3, 1) := by decide +kernel
theorem dX7_empties_17 : decode cX7_empties 17 = .ok (.iaload, 1) := by decide +kernel
theorem dX7_empties_18 : decode cX7_empties 18 = .ok (.iload_n 1, 1) := by decide +kernel
theorem dX7_empties_19 : decode cX7_empties 19 = .ok (.iconst 1, 1) := by decide +kernel
theorem dX7_empties_20 : decode cX7_empties 20 = .ok (.iadd, 1) := by decide +kernel
theorem dX7_empties_21 : decode cX7_empties 21 = .ok (.if_icmp .ne 20, 3) := by decide +kernel
theorem dX7_empties_24 : decode cX7_empties 24 = .ok (.aload_n 0, 1) := by decide +kernel
theorem dX7_empties_25 : decode cX7_empties 25 = .ok (.getfield 118, 3) := by decide +kernel
theorem dX7_empties_28 : decode cX7_empties 28 = .ok (.iload_n 3, 1) := by decide +kernel
theorem dX7_empties_29 : decode cX7_empties 29 = .ok (.iaload, 1) := by decide +kernel
theorem dX7_empties_30 : decode cX7_empties 30 = .ok (.ifCond .ne 11, 3) := by decide +kernel
theorem dX7_empties_33 : decode cX7_empties 33 = .ok (.aload_n 0, 1) := by decide +kernel
theorem dX7_empties_34 : decode cX7_empties 34 = .ok (.iload_n 3, 1) := by decide +kernel
theorem dX7_empties_35 : decode cX7_empties 35 = .ok (.invokevirtual 196, 3) := by decide +kernel
theorem dX7_empties_38 : decode cX7_empties 38 = .ok (.iinc 2 1, 3) := by decide +kernel
theorem dX7_empties_41 : decode cX7_empties 41 = .ok (.iinc 3 1, 3) := by decide +kernel
theorem dX7_empties_44 : decode cX7_empties 44 = .ok (.goto (-40), 3) := by decide +kernel
theorem dX7_empties_47 : decode cX7_empties 47 = .ok (.iload_n 2, 1) := by decide +kernel
theorem dX7_empties_48 : decode cX7_empties 48 = .ok (.ireturn, 1) := by decide +kernel
theorem dX7_cancel_0 : decode cX7_cancel 0 = .ok (.aload_n 0, 1) := by decide +kernel
theorem dX7_cancel_1 : decode cX7_cancel 1 = .ok (.iload_n 1, 1) := by decide +kernel
theorem dX7_cancel_2 : decode cX7_cancel 2 = .ok (.invokevirtual 200, 3) := by decide +kernel
theorem dX7_cancel_5 : decode cX7_cancel 5 = .ok (.ifCond .ne 5, 3) := by decide +kernel
theorem dX7_cancel_8 : decode cX7_cancel 8 = .ok (.iconst 0, 1) := by decide +kernel
theorem dX7_cancel_9 : decode cX7_cancel 9 = .ok (.ireturn, 1) := by decide +kernel
theorem dX7_cancel_10 : decode cX7_cancel 10 = .ok (.aload_n 0, 1) := by decide +kernel
theorem dX7_cancel_11 : decode cX7_cancel 11 = .ok (.aload_n 0, 1) := by decide +kernel
theorem dX7_cancel_12 : decode cX7_cancel 12 = .ok (.getfield 73, 3) := by decide +kernel
theorem dX7_cancel_15 : decode cX7_cancel 15 = .ok (.iload_n 1, 1) := by decide +kernel
theorem dX7_cancel_16 : decode cX7_cancel 16 = .ok (.iaload, 1) := by decide +kernel
theorem dX7_cancel_17 : decode cX7_cancel 17 = .ok (.ifCond .ne 7, 3) := by decide +kernel
theorem dX7_cancel_20 : decode cX7_cancel 20 = .ok (.iconst 0, 1) := by decide +kernel
theorem dX7_cancel_21 : decode cX7_cancel 21 = .ok (.goto 4, 3) := by decide +kernel
theorem dX7_cancel_24 : decode cX7_cancel 24 = .ok (.iconst 2, 1) := by decide +kernel
theorem dX7_cancel_25 : decode cX7_cancel 25 = .ok (.putfield 133, 3) := by decide +kernel
theorem dX7_cancel_28 : decode cX7_cancel 28 = .ok (.aload_n 0, 1) := by decide +kernel
theorem dX7_cancel_29 : decode cX7_cancel 29 = .ok (.getfield 133, 3) := by decide +kernel
theorem dX7_cancel_32 : decode cX7_cancel 32 = .ok (.ifCond .le 5, 3) := by decide +kernel
theorem dX7_cancel_35 : decode cX7_cancel 35 = .ok (.iconst 0, 1) := by decide +kernel
theorem dX7_cancel_36 : decode cX7_cancel 36 = .ok (.ireturn, 1) := by decide +kernel
theorem dX7_cancel_37 : decode cX7_cancel 37 = .ok (.aload_n 0, 1) := by decide +kernel
theorem dX7_cancel_38 : decode cX7_cancel 38 = .ok (.getfield 73, 3) := by decide +kernel
theorem dX7_cancel_41 : decode cX7_cancel 41 = .ok (.iload_n 1, 1) := by decide +kernel
theorem dX7_cancel_42 : decode cX7_cancel 42 = .ok (.iconst 1, 1) := by decide +kernel
theorem dX7_cancel_43 : decode cX7_cancel 43 = .ok (.iastore, 1) := by decide +kernel
theorem dX7_cancel_44 : decode cX7_cancel 44 = .ok (.aload_n 0, 1) := by decide +kernel
theorem dX7_cancel_45 : decode cX7_cancel 45 = .ok (.getfield 76, 3) := by decide +kernel
theorem dX7_cancel_48 : decode cX7_cancel 48 = .ok (.iload_n 1, 1) := by decide +kernel
theorem dX7_cancel_49 : decode cX7_cancel 49 = .ok (.bipush 7, 2) := by decide +kernel
theorem dX7_cancel_51 : decode cX7_cancel 51 = .ok (.iastore, 1) := by decide +kernel
theorem dX7_cancel_52 : decode cX7_cancel 52 = .ok (.aload_n 0, 1) := by decide +kernel
theorem dX7_cancel_53 : decode cX7_cancel 53 = .ok (.iload_n 1, 1) := by decide +kernel
theorem dX7_cancel_54 : decode cX7_cancel 54 = .ok (.invokevirtual 203, 3) := by decide +kernel
theorem dX7_cancel_57 : decode cX7_cancel 57 = .ok (.ireturn, 1) := by decide +kernel
theorem dX7_replace_0 : decode cX7_replace 0 = .ok (.aload_n 0, 1) := by decide +kernel
theorem dX7_replace_1 : decode cX7_replace 1 = .ok (.iload_n 1, 1) := by decide +kernel
theorem dX7_replace_2 : decode cX7_replace 2 = .ok (.iconst 0, 1) := by decide +kernel
theorem dX7_replace_3 : decode cX7_replace 3 = .ok (.aload_n 0, 1) := by decide +kernel
theorem dX7_replace_4 : decode cX7_replace 4 = .ok (.getfield 144, 3) := by decide +kernel
theorem dX7_replace_7 : decode cX7_replace 7 = .ok (.iconst 1, 1) := by decide +kernel
theorem dX7_replace_8 : decode cX7_replace 8 = .ok (.isub, 1) := by decide +kernel
theorem dX7_replace_9 : decode cX7_replace 9 = .ok (.invokestatic 137, 3) := by decide +kernel
theorem dX7_replace_12 : decode cX7_replace 12 = .ok (.ifCond .eq 11, 3) := by decide +kernel
theorem dX7_replace_15 : decode cX7_replace 15 = .ok (.aload_n 0, 1) := by decide +kernel
theorem dX7_replace_16 : decode cX7_replace 16 = .ok (.iload_n 2, 1) := by decide +kernel
theorem dX7_replace_17 : decode cX7_replace 17 = .ok (.invokevirtual 154, 3) := by decide +kernel
theorem dX7_replace_20 : decode cX7_replace 20 = .ok (.ifCond .ne 7, 3) := by decide +kernel
theorem dX7_replace_23 : decode cX7_replace 23 = .ok (.iconst 1, 1) := by decide +kernel
theorem dX7_replace_24 : decode cX7_replace 24 = .ok (.goto 4, 3) := by decide +kernel
theorem dX7_replace_27 : decode cX7_replace 27 = .ok (.iconst 0, 1) := by decide +kernel
theorem dX7_replace_28 : decode cX7_replace 28 = .ok (.putfield 133, 3) := by decide +kernel
theorem dX7_replace_31 : decode cX7_replace 31 = .ok (.aload_n 0, 1) := by decide +kernel
theorem dX7_replace_32 : decode cX7_replace 32 = .ok (.getfield 133, 3) := by decide +kernel
theorem dX7_replace_35 : decode cX7_replace 35 = .ok (.ifCond .le 5, 3) := by decide +kernel
theorem dX7_replace_38 : decode cX7_replace 38 = .ok (.iconst 0, 1) := by decide +kernel
theorem dX7_replace_39 : decode cX7_replace 39 = .ok (.ireturn, 1) := by decide +kernel
theorem dX7_replace_40 : decode cX7_replace 40 = .ok (.aload_n 0, 1) := by decide +kernel
theorem dX7_replace_41 : decode cX7_replace 41 = .ok (.getfield 73, 3) := by decide +kernel
theorem dX7_replace_44 : decode cX7_replace 44 = .ok (.iload_n 1, 1) := by decide +kernel
theorem dX7_replace_45 : decode cX7_replace 45 = .ok (.iaload, 1) := by decide +kernel
theorem dX7_replace_46 : decode cX7_replace 46 = .ok (.iconst 1, 1) := by decide +kernel
theorem dX7_replace_47 : decode cX7_replace 47 = .ok (.if_icmp .ne 48, 3) := by decide +kernel
theorem dX7_replace_50 : decode cX7_replace 50 = .ok (.aload_n 0, 1) := by decide +kernel
theorem dX7_replace_51 : decode cX7_replace 51 = .ok (.getfield 79, 3) := by decide +kernel
theorem dX7_replace_54 : decode cX7_replace 54 = .ok (.iload_n 1, 1) := by decide +kernel
theorem dX7_replace_55 : decode cX7_replace 55 = .ok (.iaload, 1) := by decide +kernel
theorem dX7_replace_56 : decode cX7_replace 56 = .ok (.ifCond .ne 39, 3) := by decide +kernel
theorem dX7_replace_59 : decode cX7_replace 59 = .ok (.aload_n 0, 1) := by decide +kernel
theorem dX7_replace_60 : decode cX7_replace 60 = .ok (.iconst 2, 1) := by decide +kernel
theorem dX7_replace_61 : decode cX7_replace 61 = .ok (.iload_n 2, 1) := by decide +kernel
theorem dX7_replace_62 : decode cX7_replace 62 = .ok (.iadd, 1) := by decide +kernel
theorem dX7_replace_63 : decode cX7_replace 63 = .ok (.aload_n 0, 1) := by decide +kernel
theorem dX7_replace_64 : decode cX7_replace 64 = .ok (.getfield 180, 3) := by decide +kernel
theorem dX7_replace_67 : decode cX7_replace 67 = .ok (.invokevirtual 206, 3) := by decide +kernel
theorem dX7_replace_70 : decode cX7_replace 70 = .ok (.ifCond .ne 25, 3) := by decide +kernel
theorem dX7_replace_73 : decode cX7_replace 73 = .ok (.aload_n 0, 1) := by decide +kernel
theorem dX7_replace_74 : decode cX7_replace 74 = .ok (.iload_n 2, 1) := by decide +kernel
theorem dX7_replace_75 : decode cX7_replace 75 = .ok (.aload_n 0, 1) := by decide +kernel
theorem dX7_replace_76 : decode cX7_replace 76 = .ok (.getfield 180, 3) := by decide +kernel
theorem dX7_replace_79 : decode cX7_replace 79 = .ok (.invokevirtual 183, 3) := by decide +kernel
theorem dX7_replace_82 : decode cX7_replace 82 = .ok (.aload_n 0, 1) := by decide +kernel
theorem dX7_replace_83 : decode cX7_replace 83 = .ok (.getfield 61, 3) := by decide +kernel
theorem dX7_replace_86 : decode cX7_replace 86 = .ok (.iload_n 1, 1) := by decide +kernel
theorem dX7_replace_87 : decode cX7_replace 87 = .ok (.iaload, 1) := by decide +kernel
theorem dX7_replace_88 : decode cX7_replace 88 = .ok (.if_icmp .ne 7, 3) := by decide +kernel
theorem dX7_replace_91 : decode cX7_replace 91 = .ok (.iconst 1, 1) := by decide +kernel
theorem dX7_replace_92 : decode cX7_replace 92 = .ok (.goto 4, 3) := by decide +kernel
theorem dX7_replace_95 : decode cX7_replace 95 = .ok (.iconst 0, 1) := by decide +kernel
theorem dX7_replace_96 : decode cX7_replace 96 = .ok (.istore_n 3, 1) := by decide +kernel
theorem dX7_replace_97 : decode cX7_replace 97 = .ok (.iconst 0, 1) := by decide +kernel
theorem dX7_replace_98 : decode cX7_replace 98 = .ok (.istore 4, 2) := by decide +kernel
theorem dX7_replace_100 : decode cX7_replace 100 = .ok (.iload 4, 2) := by decide +kernel
theorem dX7_replace_102 : decode cX7_replace 102 = .ok (.aload_n 0, 1) := by decide +kernel
theorem dX7_replace_103 : decode cX7_replace 103 = .ok (.getfield 144, 3) := by decide +kernel
theorem dX7_replace_106 : decode cX7_replace 106 = .ok (.if_icmp .ge 65, 3) := by decide +kernel
theorem dX7_replace_109 : decode cX7_replace 109 = .ok (.iload_n 3, 1) := by decide +kernel
theorem dX7_replace_110 : decode cX7_replace 110 = .ok (.ifCond .eq 53, 3) := by decide +kernel
theorem dX7_replace_113 : decode cX7_replace 113 = .ok (.aload_n 0, 1) := by decide +kernel
theorem dX7_replace_114 : decode cX7_replace 114 = .ok (.getfield 58, 3) := by decide +kernel
theorem dX7_replace_117 : decode cX7_replace 117 = .ok (.iload 4, 2) := by decide +kernel
theorem dX7_replace_119 : decode cX7_replace 119 = .ok (.iaload, 1) := by decide +kernel
theorem dX7_replace_120 : decode cX7_replace 120 = .ok (.iload_n 2, 1) := by decide +kernel
theorem dX7_replace_121 : decode cX7_replace 121 = .ok (.if_icmp .ne 38, 3) := by decide +kernel
theorem dX7_replace_124 : decode cX7_replace 124 = .ok (.aload_n 0, 1) := by decide +kernel
theorem dX7_replace_125 : decode cX7_replace 125 = .ok (.getfield 73, 3) := by decide +kernel
theorem dX7_replace_128 : decode cX7_replace 128 = .ok (.iload 4, 2) := by decide +kernel
theorem dX7_replace_130 : decode cX7_replace 130 = .ok (.iaload, 1) := by decide +kernel
theorem dX7_replace_131 : decode cX7_replace 131 = .ok (.iconst 1, 1) := by decide +kernel
theorem dX7_replace_132 : decode cX7_replace 132 = .ok (.if_icmp .eq 27, 3) := by decide +kernel
theorem dX7_replace_135 : decode cX7_replace 135 = .ok (.aload_n 0, 1) := by decide +kernel
theorem dX7_replace_136 : decode cX7_replace 136 = .ok (.getfield 73, 3) := by decide +kernel
theorem dX7_replace_139 : decode cX7_replace 139 = .ok (.iload 4, 2) := by decide +kernel
theorem dX7_replace_141 : decode cX7_replace 141 = .ok (.iaload, 1) := by decide +kernel
theorem dX7_replace_142 : decode cX7_replace 142 = .ok (.iconst 2, 1) := by decide +kernel
theorem dX7_replace_143 : decode cX7_replace 143 = .ok (.if_icmp .ne 20, 3) := by decide +kernel
theorem dX7_replace_146 : decode cX7_replace 146 = .ok (.aload_n 0, 1) := by decide +kernel
theorem dX7_replace_147 : decode cX7_replace 147 = .ok (.iload 4, 2) := by decide +kernel
theorem dX7_replace_149 : decode cX7_replace 149 = .ok (.invokevirtual 174, 3) := by decide +kernel
theorem dX7_replace_152 : decode cX7_replace 152 = .ok (.aload_n 0, 1) := by decide +kernel
theorem dX7_replace_153 : decode cX7_replace 153 = .ok (.getfield 180, 3) := by decide +kernel
theorem dX7_replace_156 : decode cX7_replace 156 = .ok (.if_icmp .gt 7, 3) := by decide +kernel
theorem dX7_replace_159 : decode cX7_replace 159 = .ok (.iconst 1, 1) := by decide +kernel
theorem dX7_replace_160 : decode cX7_replace 160 = .ok (.goto 4, 3) := by decide +kernel
theorem dX7_replace_163 : decode cX7_replace 163 = .ok (.iconst 0, 1) := by decide +kernel
theorem dX7_replace_164 : decode cX7_replace 164 = .ok (.istore_n 3, 1) := by decide +kernel
theorem dX7_replace_165 : decode cX7_replace 165 = .ok (.iinc 4 1, 3) := by decide +kernel
theorem dX7_replace_168 : decode cX7_replace 168 = .ok (.goto (-68), 3) := by decide +kernel
theorem dX7_replace_171 : decode cX7_replace 171 = .ok (.aload_n 0, 1) := by decide +kernel
theorem dX7_replace_172 : decode cX7_replace 172 = .ok (.iload_n 3, 1) := by decide +kernel
theorem dX7_replace_173 : decode cX7_replace 173 = .ok (.ifCond .eq 16, 3) := by decide +kernel
theorem dX7_replace_176 : decode cX7_replace 176 = .ok (.aload_n 0, 1) := by decide +kernel
theorem dX7_replace_177 : decode cX7_replace 177 = .ok (.getfield 144, 3) := by decide +kernel
theorem dX7_replace_180 : decode cX7_replace 180 = .ok (.bipush 24, 2) := by decide +kernel
theorem dX7_replace_182 : decode cX7_replace 182 = .ok (.if_icmp .ge 7, 3) := by decide +kernel
theorem dX7_replace_185 : decode cX7_replace 185 = .ok (.iconst 0, 1) := by decide +kernel
theorem dX7_replace_186 : decode cX7_replace 186 = .ok (.goto 4, 3) := by decide +kernel
theorem dX7_replace_189 : decode cX7_replace 189 = .ok (.iconst 2, 1) := by decide +kernel
theorem dX7_replace_190 : decode cX7_replace 190 = .ok (.putfield 133, 3) := by decide +kernel
theorem dX7_replace_193 : decode cX7_replace 193 = .ok (.aload_n 0, 1) := by decide +kernel
theorem dX7_replace_194 : decode cX7_replace 194 = .ok (.getfield 133, 3) := by decide +kernel
theorem dX7_replace_197 : decode cX7_replace 197 = .ok (.ifCond .le 5, 3) := by decide +kernel
theorem dX7_replace_200 : decode cX7_replace 200 = .ok (.iconst 0, 1) := by decide +kernel
theorem dX7_replace_201 : decode cX7_replace 201 = .ok (.ireturn, 1) := by decide +kernel
theorem dX7_replace_202 : decode cX7_replace 202 = .ok (.aload_n 0, 1) := by decide +kernel
theorem dX7_replace_203 : decode cX7_replace 203 = .ok (.getfield 79, 3) := by decide +kernel
theorem dX7_replace_206 : decode cX7_replace 206 = .ok (.iload_n 1, 1) := by decide +kernel
theorem dX7_replace_207 : decode cX7_replace 207 = .ok (.iconst 1, 1) := by decide +kernel
theorem dX7_replace_208 : decode cX7_replace 208 = .ok (.iastore, 1) := by decide +kernel
theorem dX7_replace_209 : decode cX7_replace 209 = .ok (.aload_n 0, 1) := by decide +kernel
theorem dX7_replace_210 : decode cX7_replace 210 = .ok (.iload_n 2, 1) := by decide +kernel
theorem dX7_replace_211 : decode cX7_replace 211 = .ok (.aload_n 0, 1) := by decide +kernel
theorem dX7_replace_212 : decode cX7_replace 212 = .ok (.getfield 61, 3) := by decide +kernel
theorem dX7_replace_215 : decode cX7_replace 215 = .ok (.iload_n 1, 1) := by decide +kernel
theorem dX7_replace_216 : decode cX7_replace 216 = .ok (.iaload, 1) := by decide +kernel
theorem dX7_replace_217 : decode cX7_replace 217 = .ok (.aload_n 0, 1) := by decide +kernel
theorem dX7_replace_218 : decode cX7_replace 218 = .ok (.getfield 64, 3) := by decide +kernel
theorem dX7_replace_221 : decode cX7_replace 221 = .ok (.iload_n 1, 1) := by decide +kernel
theorem dX7_replace_222 : decode cX7_replace 222 = .ok (.iaload, 1) := by decide +kernel
theorem dX7_replace_223 : decode cX7_replace 223 = .ok (.aload_n 0, 1) := by decide +kernel
theorem dX7_replace_224 : decode cX7_replace 224 = .ok (.getfield 180, 3) := by decide +kernel
theorem dX7_replace_227 : decode cX7_replace 227 = .ok (.aload_n 0, 1) := by decide +kernel
theorem dX7_replace_228 : decode cX7_replace 228 = .ok (.getfield 70, 3) := by decide +kernel
theorem dX7_replace_231 : decode cX7_replace 231 = .ok (.iload_n 1, 1) := by decide +kernel
theorem dX7_replace_232 : decode cX7_replace 232 = .ok (.iaload, 1) := by decide +kernel
theorem dX7_replace_233 : decode cX7_replace 233 = .ok (.invokevirtual 186, 3) := by decide +kernel
theorem dX7_replace_236 : decode cX7_replace 236 = .ok (.ireturn, 1) := by decide +kernel
theorem dX7_crewFor_0 : decode cX7_crewFor 0 = .ok (.aload_n 0, 1) := by decide +kernel
theorem dX7_crewFor_1 : decode cX7_crewFor 1 = .ok (.getfield 67, 3) := by decide +kernel
theorem dX7_crewFor_4 : decode cX7_crewFor 4 = .ok (.iload_n 1, 1) := by decide +kernel
theorem dX7_crewFor_5 : decode cX7_crewFor 5 = .ok (.iaload, 1) := by decide +kernel
theorem dX7_crewFor_6 : decode cX7_crewFor 6 = .ok (.bipush 24, 2) := by decide +kernel
theorem dX7_crewFor_8 : decode cX7_crewFor 8 = .ok (.idiv, 1) := by decide +kernel
theorem dX7_crewFor_9 : decode cX7_crewFor 9 = .ok (.istore_n 2, 1) := by decide +kernel
theorem dX7_crewFor_10 : decode cX7_crewFor 10 = .ok (.iconst 0, 1) := by decide +kernel
theorem dX7_crewFor_11 : decode cX7_crewFor 11 = .ok (.istore_n 3, 1) := by decide +kernel
theorem dX7_crewFor_12 : decode cX7_crewFor 12 = .ok (.iload_n 3, 1) := by decide +kernel
theorem dX7_crewFor_13 : decode cX7_crewFor 13 = .ok (.aload_n 0, 1) := by decide +kernel
theorem dX7_crewFor_14 : decode cX7_crewFor 14 = .ok (.getfield 163, 3) := by decide +kernel
theorem dX7_crewFor_17 : decode cX7_crewFor 17 = .ok (.if_icmp .ge 80, 3) := by decide +kernel
theorem dX7_crewFor_20 : decode cX7_crewFor 20 = .ok (.aload_n 0, 1) := by decide +kernel
theorem dX7_crewFor_21 : decode cX7_crewFor 21 = .ok (.getfield 31, 3) := by decide +kernel
theorem dX7_crewFor_24 : decode cX7_crewFor 24 = .ok (.iload_n 3, 1) := by decide +kernel
theorem dX7_crewFor_25 : decode cX7_crewFor 25 = .ok (.iaload, 1) := by decide +kernel
theorem dX7_crewFor_26 : decode cX7_crewFor 26 = .ok (.aload_n 0, 1) := by decide +kernel
theorem dX7_crewFor_27 : decode cX7_crewFor 27 = .ok (.getfield 58, 3) := by decide +kernel
theorem dX7_crewFor_30 : decode cX7_crewFor 30 = .ok (.iload_n 1, 1) := by decide +kernel
theorem dX7_crewFor_31 : decode cX7_crewFor 31 = .ok (.iaload, 1) := by decide +kernel
theorem dX7_crewFor_32 : decode cX7_crewFor 32 = .ok (.if_icmp .ne 26, 3) := by decide +kernel
theorem dX7_crewFor_35 : decode cX7_crewFor 35 = .ok (.iload_n 2, 1) := by decide +kernel
theorem dX7_crewFor_36 : decode cX7_crewFor 36 = .ok (.aload_n 0, 1) := by decide +kernel
theorem dX7_crewFor_37 : decode cX7_crewFor 37 = .ok (.getfield 34, 3) := by decide +kernel
theorem dX7_crewFor_40 : decode cX7_crewFor 40 = .ok (.iload_n 3, 1) := by decide +kernel
theorem dX7_crewFor_41 : decode cX7_crewFor 41 = .ok (.iaload, 1) := by decide +kernel
theorem dX7_crewFor_42 : decode cX7_crewFor 42 = .ok (.aload_n 0, 1) := by decide +kernel
theorem dX7_crewFor_43 : decode cX7_crewFor 43 = .ok (.getfield 37, 3) := by decide +kernel
theorem dX7_crewFor_46 : decode cX7_crewFor 46 = .ok (.iload_n 3, 1) := by decide +kernel
theorem dX7_crewFor_47 : decode cX7_crewFor 47 = .ok (.iaload, 1) := by decide +kernel
theorem dX7_crewFor_48 : decode cX7_crewFor 48 = .ok (.invokestatic 137, 3) := by decide +kernel
theorem dX7_crewFor_51 : decode cX7_crewFor 51 = .ok (.ifCond .eq 7, 3) := by decide +kernel
theorem dX7_crewFor_54 : decode cX7_crewFor 54 = .ok (.iconst 1, 1) := by decide +kernel
theorem dX7_crewFor_55 : decode cX7_crewFor 55 = .ok (.goto 4, 3) := by decide +kernel
theorem dX7_crewFor_58 : decode cX7_crewFor 58 = .ok (.iconst 0, 1) := by decide +kernel
theorem dX7_crewFor_59 : decode cX7_crewFor 59 = .ok (.istore 4, 2) := by decide +kernel
theorem dX7_crewFor_61 : decode cX7_crewFor 61 = .ok (.iload 4, 2) := by decide +kernel
theorem dX7_crewFor_63 : decode cX7_crewFor 63 = .ok (.ifCond .eq 28, 3) := by decide +kernel
theorem dX7_crewFor_66 : decode cX7_crewFor 66 = .ok (.aload_n 0, 1) := by decide +kernel
theorem dX7_crewFor_67 : decode cX7_crewFor 67 = .ok (.getfield 40, 3) := by decide +kernel
theorem dX7_crewFor_70 : decode cX7_crewFor 70 = .ok (.sipush 501, 3) := by decide +kernel
theorem dX7_crewFor_73 : decode cX7_crewFor 73 = .ok (.iload_n 3, 1) := by decide +kernel
theorem dX7_crewFor_74 : decode cX7_crewFor 74 = .ok (.imul, 1) := by decide +kernel
theorem dX7_crewFor_75 : decode cX7_crewFor 75 = .ok (.iload_n 2, 1) := by decide +kernel
theorem dX7_crewFor_76 : decode cX7_crewFor 76 = .ok (.iadd, 1) := by decide +kernel
theorem dX7_crewFor_77 : decode cX7_crewFor 77 = .ok (.iaload, 1) := by decide +kernel
theorem dX7_crewFor_78 : decode cX7_crewFor 78 = .ok (.aload_n 0, 1) := by decide +kernel
theorem dX7_crewFor_79 : decode cX7_crewFor 79 = .ok (.iload_n 1, 1) := by decide +kernel
theorem dX7_crewFor_80 : decode cX7_crewFor 80 = .ok (.invokevirtual 170, 3) := by decide +kernel
theorem dX7_crewFor_83 : decode cX7_crewFor 83 = .ok (.iadd, 1) := by decide +kernel
theorem dX7_crewFor_84 : decode cX7_crewFor 84 = .ok (.bipush 12, 2) := by decide +kernel
theorem dX7_crewFor_86 : decode cX7_crewFor 86 = .ok (.if_icmp .gt 5, 3) := by decide +kernel
theorem dX7_crewFor_89 : decode cX7_crewFor 89 = .ok (.iload_n 3, 1) := by decide +kernel
theorem dX7_crewFor_90 : decode cX7_crewFor 90 = .ok (.ireturn, 1) := by decide +kernel
theorem dX7_crewFor_91 : decode cX7_crewFor 91 = .ok (.iinc 3 1, 3) := by decide +kernel
theorem dX7_crewFor_94 : decode cX7_crewFor 94 = .ok (.goto (-82), 3) := by decide +kernel
theorem dX7_crewFor_97 : decode cX7_crewFor 97 = .ok (.iconst (-1), 1) := by decide +kernel
theorem dX7_crewFor_98 : decode cX7_crewFor 98 = .ok (.ireturn, 1) := by decide +kernel
theorem dX7_burns_0 : decode cX7_burns 0 = .ok (.aload_n 0, 1) := by decide +kernel
theorem dX7_burns_1 : decode cX7_burns 1 = .ok (.getfield 25, 3) := by decide +kernel
theorem dX7_burns_4 : decode cX7_burns 4 = .ok (.aload_n 0, 1) := by decide +kernel
theorem dX7_burns_5 : decode cX7_burns 5 = .ok (.getfield 58, 3) := by decide +kernel
theorem dX7_burns_8 : decode cX7_burns 8 = .ok (.iload_n 1, 1) := by decide +kernel
theorem dX7_burns_9 : decode cX7_burns 9 = .ok (.iaload, 1) := by decide +kernel
theorem dX7_burns_10 : decode cX7_burns 10 = .ok (.iaload, 1) := by decide +kernel
theorem dX7_burns_11 : decode cX7_burns 11 = .ok (.istore_n 2, 1) := by decide +kernel
theorem dX7_burns_12 : decode cX7_burns 12 = .ok (.aload_n 0, 1) := by decide +kernel
theorem dX7_burns_13 : decode cX7_burns 13 = .ok (.iload_n 1, 1) := by decide +kernel
theorem dX7_burns_14 : decode cX7_burns 14 = .ok (.invokevirtual 170, 3) := by decide +kernel
theorem dX7_burns_17 : decode cX7_burns 17 = .ok (.iload_n 2, 1) := by decide +kernel
theorem dX7_burns_18 : decode cX7_burns 18 = .ok (.imul, 1) := by decide +kernel
theorem dX7_burns_19 : decode cX7_burns 19 = .ok (.iload_n 2, 1) := by decide +kernel
theorem dX7_burns_20 : decode cX7_burns 20 = .ok (.imul, 1) := by decide +kernel
theorem dX7_burns_21 : decode cX7_burns 21 = .ok (.bipush 100, 2) := by decide +kernel
theorem dX7_burns_23 : decode cX7_burns 23 = .ok (.idiv, 1) := by decide +kernel
theorem dX7_burns_24 : decode cX7_burns 24 = .ok (.ireturn, 1) := by decide +kernel
theorem dX7_reasonFor_0 : decode cX7_reasonFor 0 = .ok (.aload_n 0, 1) := by decide +kernel
theorem dX7_reasonFor_1 : decode cX7_reasonFor 1 = .ok (.getfield 58, 3) := by decide +kernel
theorem dX7_reasonFor_4 : decode cX7_reasonFor 4 = .ok (.iload_n 1, 1) := by decide +kernel
theorem dX7_reasonFor_5 : decode cX7_reasonFor 5 = .ok (.iaload, 1) := by decide +kernel
theorem dX7_reasonFor_6 : decode cX7_reasonFor 6 = .ok (.istore_n 2, 1) := by decide +kernel
theorem dX7_reasonFor_7 : decode cX7_reasonFor 7 = .ok (.aload_n 0, 1) := by decide +kernel
theorem dX7_reasonFor_8 : decode cX7_reasonFor 8 = .ok (.getfield 67, 3) := by decide +kernel
theorem dX7_reasonFor_11 : decode cX7_reasonFor 11 = .ok (.iload_n 1, 1) := by decide +kernel
theorem dX7_reasonFor_12 : decode cX7_reasonFor 12 = .ok (.iaload, 1) := by decide +kernel
theorem dX7_reasonFor_13 : decode cX7_reasonFor 13 = .ok (.istore_n 3, 1) := by decide +kernel
theorem dX7_reasonFor_14 : decode cX7_reasonFor 14 = .ok (.aload_n 0, 1) := by decide +kernel
theorem dX7_reasonFor_15 : decode cX7_reasonFor 15 = .ok (.iload_n 2, 1) := by decide +kernel
theorem dX7_reasonFor_16 : decode cX7_reasonFor 16 = .ok (.iload_n 3, 1) := by decide +kernel
theorem dX7_reasonFor_17 : decode cX7_reasonFor 17 = .ok (.invokevirtual 183, 3) := by decide +kernel
theorem dX7_reasonFor_20 : decode cX7_reasonFor 20 = .ok (.aload_n 0, 1) := by decide +kernel
theorem dX7_reasonFor_21 : decode cX7_reasonFor 21 = .ok (.getfield 61, 3) := by decide +kernel
theorem dX7_reasonFor_24 : decode cX7_reasonFor 24 = .ok (.iload_n 1, 1) := by decide +kernel
theorem dX7_reasonFor_25 : decode cX7_reasonFor 25 = .ok (.iaload, 1) := by decide +kernel
theorem dX7_reasonFor_26 : decode cX7_reasonFor 26 = .ok (.if_icmp .ne 14, 3) := by decide +kernel
theorem dX7_reasonFor_29 : decode cX7_reasonFor 29 = .ok (.aload_n 0, 1) := by decide +kernel
theorem dX7_reasonFor_30 : decode cX7_reasonFor 30 = .ok (.iconst 2, 1) := by decide +kernel
theorem dX7_reasonFor_31 : decode cX7_reasonFor 31 = .ok (.iload_n 2, 1) := by decide +kernel
theorem dX7_reasonFor_32 : decode cX7_reasonFor 32 = .ok (.iadd, 1) := by decide +kernel
theorem dX7_reasonFor_33 : decode cX7_reasonFor 33 = .ok (.iload_n 3, 1) := by decide +kernel
theorem dX7_reasonFor_34 : decode cX7_reasonFor 34 = .ok (.invokevirtual 206, 3) := by decide +kernel
theorem dX7_reasonFor_37 : decode cX7_reasonFor 37 = .ok (.ifCond .eq 5, 3) := by decide +kernel
theorem dX7_reasonFor_40 : decode cX7_reasonFor 40 = .ok (.iconst 1, 1) := by decide +kernel
theorem dX7_reasonFor_41 : decode cX7_reasonFor 41 = .ok (.ireturn, 1) := by decide +kernel
theorem dX7_reasonFor_42 : decode cX7_reasonFor 42 = .ok (.aload_n 0, 1) := by decide +kernel
theorem dX7_reasonFor_43 : decode cX7_reasonFor 43 = .ok (.getfield 61, 3) := by decide +kernel
theorem dX7_reasonFor_46 : decode cX7_reasonFor 46 = .ok (.iload_n 1, 1) := by decide +kernel
theorem dX7_reasonFor_47 : decode cX7_reasonFor 47 = .ok (.iaload, 1) := by decide +kernel
theorem dX7_reasonFor_48 : decode cX7_reasonFor 48 = .ok (.iload_n 3, 1) := by decide +kernel
theorem dX7_reasonFor_49 : decode cX7_reasonFor 49 = .ok (.invokestatic 166, 3) := by decide +kernel
theorem dX7_reasonFor_52 : decode cX7_reasonFor 52 = .ok (.aload_n 0, 1) := by decide +kernel
theorem dX7_reasonFor_53 : decode cX7_reasonFor 53 = .ok (.getfield 22, 3) := by decide +kernel
theorem dX7_reasonFor_56 : decode cX7_reasonFor 56 = .ok (.iload_n 2, 1) := by decide +kernel
theorem dX7_reasonFor_57 : decode cX7_reasonFor 57 = .ok (.iaload, 1) := by decide +kernel
theorem dX7_reasonFor_58 : decode cX7_reasonFor 58 = .ok (.if_icmp .lt 26, 3) := by decide +kernel
theorem dX7_reasonFor_61 : decode cX7_reasonFor 61 = .ok (.aload_n 0, 1) := by decide +kernel
theorem dX7_reasonFor_62 : decode cX7_reasonFor 62 = .ok (.getfield 64, 3) := by decide +kernel
theorem dX7_reasonFor_65 : decode cX7_reasonFor 65 = .ok (.iload_n 1, 1) := by decide +kernel
theorem dX7_reasonFor_66 : decode cX7_reasonFor 66 = .ok (.iaload, 1) := by decide +kernel
theorem dX7_reasonFor_67 : decode cX7_reasonFor 67 = .ok (.aload_n 0, 1) := by decide +kernel
theorem dX7_reasonFor_68 : decode cX7_reasonFor 68 = .ok (.iload_n 1, 1) := by decide +kernel
theorem dX7_reasonFor_69 : decode cX7_reasonFor 69 = .ok (.invokevirtual 174, 3) := by decide +kernel
theorem dX7_reasonFor_72 : decode cX7_reasonFor 72 = .ok (.invokestatic 166, 3) := by decide +kernel
theorem dX7_reasonFor_75 : decode cX7_reasonFor 75 = .ok (.aload_n 0, 1) := by decide +kernel
theorem dX7_reasonFor_76 : decode cX7_reasonFor 76 = .ok (.getfield 22, 3) := by decide +kernel
theorem dX7_reasonFor_79 : decode cX7_reasonFor 79 = .ok (.iload_n 2, 1) := by decide +kernel
theorem dX7_reasonFor_80 : decode cX7_reasonFor 80 = .ok (.iaload, 1) := by decide +kernel
theorem dX7_reasonFor_81 : decode cX7_reasonFor 81 = .ok (.if_icmp .ge 5, 3) := by decide +kernel
theorem dX7_reasonFor_84 : decode cX7_reasonFor 84 = .ok (.iconst 2, 1) := by decide +kernel
theorem dX7_reasonFor_85 : decode cX7_reasonFor 85 = .ok (.ireturn, 1) := by decide +kernel
theorem dX7_reasonFor_86 : decode cX7_reasonFor 86 = .ok (.aload_n 0, 1) := by decide +kernel
theorem dX7_reasonFor_87 : decode cX7_reasonFor 87 = .ok (.iconst 0, 1) := by decide +kernel
theorem dX7_reasonFor_88 : decode cX7_reasonFor 88 = .ok (.iload_n 3, 1) := by decide +kernel
theorem dX7_reasonFor_89 : decode cX7_reasonFor 89 = .ok (.invokevirtual 206, 3) := by decide +kernel
theorem dX7_reasonFor_92 : decode cX7_reasonFor 92 = .ok (.ifCond .eq 5, 3) := by decide +kernel
theorem dX7_reasonFor_95 : decode cX7_reasonFor 95 = .ok (.iconst 3, 1) := by decide +kernel
theorem dX7_reasonFor_96 : decode cX7_reasonFor 96 = .ok (.ireturn, 1) := by decide +kernel
theorem dX7_reasonFor_97 : decode cX7_reasonFor 97 = .ok (.aload_n 0, 1) := by decide +kernel
theorem dX7_reasonFor_98 : decode cX7_reasonFor 98 = .ok (.iconst 1, 1) := by decide +kernel
theorem dX7_reasonFor_99 : decode cX7_reasonFor 99 = .ok (.iload_n 3, 1) := by decide +kernel
theorem dX7_reasonFor_100 : decode cX7_reasonFor 100 = .ok (.invokevirtual 206, 3) := by decide +kernel
theorem dX7_reasonFor_103 : decode cX7_reasonFor 103 = .ok (.ifCond .eq 12, 3) := by decide +kernel
theorem dX7_reasonFor_106 : decode cX7_reasonFor 106 = .ok (.iload_n 1, 1) := by decide +kernel
theorem dX7_reasonFor_107 : decode cX7_reasonFor 107 = .ok (.iconst 2, 1) := by decide +kernel
theorem dX7_reasonFor_108 : decode cX7_reasonFor 108 = .ok (.irem, 1) := by decide +kernel
theorem dX7_reasonFor_109 : decode cX7_reasonFor 109 = .ok (.iconst 1, 1) := by decide +kernel
theorem dX7_reasonFor_110 : decode cX7_reasonFor 110 = .ok (.if_icmp .ne 5, 3) := by decide +kernel
theorem dX7_reasonFor_113 : decode cX7_reasonFor 113 = .ok (.iconst 4, 1) := by decide +kernel
theorem dX7_reasonFor_114 : decode cX7_reasonFor 114 = .ok (.ireturn, 1) := by decide +kernel
theorem dX7_reasonFor_115 : decode cX7_reasonFor 115 = .ok (.aload_n 0, 1) := by decide +kernel
theorem dX7_reasonFor_116 : decode cX7_reasonFor 116 = .ok (.iload_n 1, 1) := by decide +kernel
theorem dX7_reasonFor_117 : decode cX7_reasonFor 117 = .ok (.invokevirtual 210, 3) := by decide +kernel
theorem dX7_reasonFor_120 : decode cX7_reasonFor 120 = .ok (.iconst (-1), 1) := by decide +kernel
theorem dX7_reasonFor_121 : decode cX7_reasonFor 121 = .ok (.if_icmp .ne 7, 3) := by decide +kernel
theorem dX7_reasonFor_124 : decode cX7_reasonFor 124 = .ok (.iconst 5, 1) := by decide +kernel
theorem dX7_reasonFor_125 : decode cX7_reasonFor 125 = .ok (.goto 23, 3) := by decide +kernel
theorem dX7_reasonFor_128 : decode cX7_reasonFor 128 = .ok (.aload_n 0, 1) := by decide +kernel
theorem dX7_reasonFor_129 : decode cX7_reasonFor 129 = .ok (.getfield 28, 3) := by decide +kernel
theorem dX7_reasonFor_132 : decode cX7_reasonFor 132 = .ok (.iload_n 2, 1) := by decide +kernel
theorem dX7_reasonFor_133 : decode cX7_reasonFor 133 = .ok (.iaload, 1) := by decide +kernel
theorem dX7_reasonFor_134 : decode cX7_reasonFor 134 = .ok (.aload_n 0, 1) := by decide +kernel
theorem dX7_reasonFor_135 : decode cX7_reasonFor 135 = .ok (.iload_n 1, 1) := by decide +kernel
theorem dX7_reasonFor_136 : decode cX7_reasonFor 136 = .ok (.invokevirtual 213, 3) := by decide +kernel
theorem dX7_reasonFor_139 : decode cX7_reasonFor 139 = .ok (.if_icmp .ge 8, 3) := by decide +kernel
theorem dX7_reasonFor_142 : decode cX7_reasonFor 142 = .ok (.bipush 6, 2) := by decide +kernel
theorem dX7_reasonFor_144 : decode cX7_reasonFor 144 = .ok (.goto 4, 3) := by decide +kernel
theorem dX7_reasonFor_147 : decode cX7_reasonFor 147 = .ok (.iconst 0, 1) := by decide +kernel
theorem dX7_reasonFor_148 : decode cX7_reasonFor 148 = .ok (.ireturn, 1) := by decide +kernel
theorem dX7_sideOf_0 : decode cX7_sideOf 0 = .ok (.aload_n 0, 1) := by decide +kernel
theorem dX7_sideOf_1 : decode cX7_sideOf 1 = .ok (.getfield 13, 3) := by decide +kernel
theorem dX7_sideOf_4 : decode cX7_sideOf 4 = .ok (.aload_n 0, 1) := by decide +kernel
theorem dX7_sideOf_5 : decode cX7_sideOf 5 = .ok (.getfield 58, 3) := by decide +kernel
theorem dX7_sideOf_8 : decode cX7_sideOf 8 = .ok (.iload_n 1, 1) := by decide +kernel
theorem dX7_sideOf_9 : decode cX7_sideOf 9 = .ok (.iaload, 1) := by decide +kernel
theorem dX7_sideOf_10 : decode cX7_sideOf 10 = .ok (.iaload, 1) := by decide +kernel
theorem dX7_sideOf_11 : decode cX7_sideOf 11 = .ok (.istore_n 3, 1) := by decide +kernel
theorem dX7_sideOf_12 : decode cX7_sideOf 12 = .ok (.iconst 2, 1) := by decide +kernel
theorem dX7_sideOf_13 : decode cX7_sideOf 13 = .ok (.iload_n 2, 1) := by decide +kernel
theorem dX7_sideOf_14 : decode cX7_sideOf 14 = .ok (.imul, 1) := by decide +kernel
theorem dX7_sideOf_15 : decode cX7_sideOf 15 = .ok (.iload_n 3, 1) := by decide +kernel
theorem dX7_sideOf_16 : decode cX7_sideOf 16 = .ok (.iconst 1, 1) := by decide +kernel
theorem dX7_sideOf_17 : decode cX7_sideOf 17 = .ok (.isub, 1) := by decide +kernel
theorem dX7_sideOf_18 : decode cX7_sideOf 18 = .ok (.if_icmp .ge 7, 3) := by decide +kernel
theorem dX7_sideOf_21 : decode cX7_sideOf 21 = .ok (.iconst 1, 1) := by decide +kernel
theorem dX7_sideOf_22 : decode cX7_sideOf 22 = .ok (.goto 17, 3) := by decide +kernel
theorem dX7_sideOf_25 : decode cX7_sideOf 25 = .ok (.iconst 2, 1) := by decide +kernel
theorem dX7_sideOf_26 : decode cX7_sideOf 26 = .ok (.iload_n 2, 1) := by decide +kernel
theorem dX7_sideOf_27 : decode cX7_sideOf 27 = .ok (.imul, 1) := by decide +kernel
theorem dX7_sideOf_28 : decode cX7_sideOf 28 = .ok (.iload_n 3, 1) := by decide +kernel
theorem dX7_sideOf_29 : decode cX7_sideOf 29 = .ok (.iconst 1, 1) := by decide +kernel
theorem dX7_sideOf_30 : decode cX7_sideOf 30 = .ok (.isub, 1) := by decide +kernel
theorem dX7_sideOf_31 : decode cX7_sideOf 31 = .ok (.if_icmp .le 7, 3) := by decide +kernel
theorem dX7_sideOf_34 : decode cX7_sideOf 34 = .ok (.iconst 2, 1) := by decide +kernel
theorem dX7_sideOf_35 : decode cX7_sideOf 35 = .ok (.goto 4, 3) := by decide +kernel
theorem dX7_sideOf_38 : decode cX7_sideOf 38 = .ok (.iconst 0, 1) := by decide +kernel
theorem dX7_sideOf_39 : decode cX7_sideOf 39 = .ok (.ireturn, 1) := by decide +kernel
theorem dX7_difference_0 : decode cX7_difference 0 = .ok (.aload_n 0, 1) := by decide +kernel
theorem dX7_difference_1 : decode cX7_difference 1 = .ok (.iload_n 1, 1) := by decide +kernel
theorem dX7_difference_2 : decode cX7_difference 2 = .ok (.iload_n 2, 1) := by decide +kernel
theorem dX7_difference_3 : decode cX7_difference 3 = .ok (.invokevirtual 216, 3) := by decide +kernel
theorem dX7_difference_6 : decode cX7_difference 6 = .ok (.istore 4, 2) := by decide +kernel
theorem dX7_difference_8 : decode cX7_difference 8 = .ok (.aload_n 0, 1) := by decide +kernel
theorem dX7_difference_9 : decode cX7_difference 9 = .ok (.getfield 82, 3) := by decide +kernel
theorem dX7_difference_12 : decode cX7_difference 12 = .ok (.iload_n 1, 1) := by decide +kernel
theorem dX7_difference_13 : decode cX7_difference 13 = .ok (.iaload, 1) := by decide +kernel
theorem dX7_difference_14 : decode cX7_difference 14 = .ok (.aload_n 0, 1) := by decide +kernel
theorem dX7_difference_15 : decode cX7_difference 15 = .ok (.getfield 85, 3) := by decide +kernel
theorem dX7_difference_18 : decode cX7_difference 18 = .ok (.iload_n 1, 1) := by decide +kernel
theorem dX7_difference_19 : decode cX7_difference 19 = .ok (.iaload, 1) := by decide +kernel
theorem dX7_difference_20 : decode cX7_difference 20 = .ok (.isub, 1) := by decide +kernel
theorem dX7_difference_21 : decode cX7_difference 21 = .ok (.iload 4, 2) := by decide +kernel
theorem dX7_difference_23 : decode cX7_difference 23 = .ok (.iconst 1, 1) := by decide +kernel
theorem dX7_difference_24 : decode cX7_difference 24 = .ok (.if_icmp .ne 7, 3) := by decide +kernel
theorem dX7_difference_27 : decode cX7_difference 27 = .ok (.iload_n 3, 1) := by decide +kernel
theorem dX7_difference_28 : decode cX7_difference 28 = .ok (.goto 15, 3) := by decide +kernel
theorem dX7_difference_31 : decode cX7_difference 31 = .ok (.iload 4, 2) := by decide +kernel
theorem dX7_difference_33 : decode cX7_difference 33 = .ok (.iconst 2, 1) := by decide +kernel
theorem dX7_difference_34 : decode cX7_difference 34 = .ok (.if_icmp .ne 8, 3) := by decide +kernel
theorem dX7_difference_37 : decode cX7_difference 37 = .ok (.iload_n 3, 1) := by decide +kernel
theorem dX7_difference_38 : decode cX7_difference 38 = .ok (.ineg, 1) := by decide +kernel
theorem dX7_difference_39 : decode cX7_difference 39 = .ok (.goto 4, 3) := by decide +kernel
theorem dX7_difference_42 : decode cX7_difference 42 = .ok (.iconst 0, 1) := by decide +kernel
theorem dX7_difference_43 : decode cX7_difference 43 = .ok (.iadd, 1) := by decide +kernel
theorem dX7_difference_44 : decode cX7_difference 44 = .ok (.istore 5, 2) := by decide +kernel
theorem dX7_difference_46 : decode cX7_difference 46 = .ok (.iload 5, 2) := by decide +kernel
theorem dX7_difference_48 : decode cX7_difference 48 = .ok (.ifCond .ge 9, 3) := by decide +kernel
theorem dX7_difference_51 : decode cX7_difference 51 = .ok (.iload 5, 2) := by decide +kernel
theorem dX7_difference_53 : decode cX7_difference 53 = .ok (.ineg, 1) := by decide +kernel
theorem dX7_difference_54 : decode cX7_difference 54 = .ok (.goto 5, 3) := by decide +kernel
theorem dX7_difference_57 : decode cX7_difference 57 = .ok (.iload 5, 2) := by decide +kernel
theorem dX7_difference_59 : decode cX7_difference 59 = .ok (.ireturn, 1) := by decide +kernel
theorem dX7_fits_0 : decode cX7_fits 0 = .ok (.aload_n 0, 1) := by decide +kernel
theorem dX7_fits_1 : decode cX7_fits 1 = .ok (.getfield 124, 3) := by decide +kernel
theorem dX7_fits_4 : decode cX7_fits 4 = .ok (.iload_n 3, 1) := by decide +kernel
theorem dX7_fits_5 : decode cX7_fits 5 = .ok (.iaload, 1) := by decide +kernel
theorem dX7_fits_6 : decode cX7_fits 6 = .ok (.aload_n 0, 1) := by decide +kernel
theorem dX7_fits_7 : decode cX7_fits 7 = .ok (.getfield 97, 3) := by decide +kernel
theorem dX7_fits_10 : decode cX7_fits 10 = .ok (.iload_n 2, 1) := by decide +kernel
theorem dX7_fits_11 : decode cX7_fits 11 = .ok (.iaload, 1) := by decide +kernel
theorem dX7_fits_12 : decode cX7_fits 12 = .ok (.iadd, 1) := by decide +kernel
theorem dX7_fits_13 : decode cX7_fits 13 = .ok (.aload_n 0, 1) := by decide +kernel
theorem dX7_fits_14 : decode cX7_fits 14 = .ok (.getfield 16, 3) := by decide +kernel
theorem dX7_fits_17 : decode cX7_fits 17 = .ok (.aload_n 0, 1) := by decide +kernel
theorem dX7_fits_18 : decode cX7_fits 18 = .ok (.getfield 58, 3) := by decide +kernel
theorem dX7_fits_21 : decode cX7_fits 21 = .ok (.iload_n 1, 1) := by decide +kernel
theorem dX7_fits_22 : decode cX7_fits 22 = .ok (.iaload, 1) := by decide +kernel
theorem dX7_fits_23 : decode cX7_fits 23 = .ok (.iaload, 1) := by decide +kernel
theorem dX7_fits_24 : decode cX7_fits 24 = .ok (.if_icmp .le 5, 3) := by decide +kernel
theorem dX7_fits_27 : decode cX7_fits 27 = .ok (.iconst 0, 1) := by decide +kernel
theorem dX7_fits_28 : decode cX7_fits 28 = .ok (.ireturn, 1) := by decide +kernel
theorem dX7_fits_29 : decode cX7_fits 29 = .ok (.aload_n 0, 1) := by decide +kernel
theorem dX7_fits_30 : decode cX7_fits 30 = .ok (.getfield 127, 3) := by decide +kernel
theorem dX7_fits_33 : decode cX7_fits 33 = .ok (.iload_n 3, 1) := by decide +kernel
theorem dX7_fits_34 : decode cX7_fits 34 = .ok (.iaload, 1) := by decide +kernel
theorem dX7_fits_35 : decode cX7_fits 35 = .ok (.ifCond .gt 34, 3) := by decide +kernel
theorem dX7_fits_38 : decode cX7_fits 38 = .ok (.iload_n 3, 1) := by decide +kernel
theorem dX7_fits_39 : decode cX7_fits 39 = .ok (.ifCond .le 14, 3) := by decide +kernel
theorem dX7_fits_42 : decode cX7_fits 42 = .ok (.aload_n 0, 1) := by decide +kernel
theorem dX7_fits_43 : decode cX7_fits 43 = .ok (.getfield 127, 3) := by decide +kernel
theorem dX7_fits_46 : decode cX7_fits 46 = .ok (.iload_n 3, 1) := by decide +kernel
theorem dX7_fits_47 : decode cX7_fits 47 = .ok (.iconst 1, 1) := by decide +kernel
theorem dX7_fits_48 : decode cX7_fits 48 = .ok (.isub, 1) := by decide +kernel
theorem dX7_fits_49 : decode cX7_fits 49 = .ok (.iaload, 1) := by decide +kernel
theorem dX7_fits_50 : decode cX7_fits 50 = .ok (.ifCond .gt 19, 3) := by decide +kernel
theorem dX7_fits_53 : decode cX7_fits 53 = .ok (.iload_n 3, 1) := by decide +kernel
theorem dX7_fits_54 : decode cX7_fits 54 = .ok (.iconst 3, 1) := by decide +kernel
theorem dX7_fits_55 : decode cX7_fits 55 = .ok (.if_icmp .ge 18, 3) := by decide +kernel
theorem dX7_fits_58 : decode cX7_fits 58 = .ok (.aload_n 0, 1) := by decide +kernel
theorem dX7_fits_59 : decode cX7_fits 59 = .ok (.getfield 127, 3) := by decide +kernel
theorem dX7_fits_62 : decode cX7_fits 62 = .ok (.iload_n 3, 1) := by decide +kernel
theorem dX7_fits_63 : decode cX7_fits 63 = .ok (.iconst 1, 1) := by decide +kernel
theorem dX7_fits_64 : decode cX7_fits 64 = .ok (.iadd, 1) := by decide +kernel
theorem dX7_fits_65 : decode cX7_fits 65 = .ok (.iaload, 1) := by decide +kernel
theorem dX7_fits_66 : decode cX7_fits 66 = .ok (.ifCond .le 7, 3) := by decide +kernel
theorem dX7_fits_69 : decode cX7_fits 69 = .ok (.iconst 1, 1) := by decide +kernel
theorem dX7_fits_70 : decode cX7_fits 70 = .ok (.goto 4, 3) := by decide +kernel
theorem dX7_fits_73 : decode cX7_fits 73 = .ok (.iconst 0, 1) := by decide +kernel
theorem dX7_fits_74 : decode cX7_fits 74 = .ok (.istore 4, 2) := by decide +kernel
theorem dX7_fits_76 : decode cX7_fits 76 = .ok (.aload_n 0, 1) := by decide +kernel
theorem dX7_fits_77 : decode cX7_fits 77 = .ok (.getfield 103, 3) := by decide +kernel
theorem dX7_fits_80 : decode cX7_fits 80 = .ok (.iload_n 2, 1) := by decide +kernel
theorem dX7_fits_81 : decode cX7_fits 81 = .ok (.iaload, 1) := by decide +kernel
theorem dX7_fits_82 : decode cX7_fits 82 = .ok (.ifCond .eq 16, 3) := by decide +kernel
theorem dX7_fits_85 : decode cX7_fits 85 = .ok (.aload_n 0, 1) := by decide +kernel
theorem dX7_fits_86 : decode cX7_fits 86 = .ok (.getfield 219, 3) := by decide +kernel
theorem dX7_fits_89 : decode cX7_fits 89 = .ok (.iconst 2, 1) := by decide +kernel
theorem dX7_fits_90 : decode cX7_fits 90 = .ok (.if_icmp .ge 12, 3) := by decide +kernel
theorem dX7_fits_93 : decode cX7_fits 93 = .ok (.iload 4, 2) := by decide +kernel
theorem dX7_fits_95 : decode cX7_fits 95 = .ok (.ifCond .ne 7, 3) := by decide +kernel
theorem dX7_fits_98 : decode cX7_fits 98 = .ok (.iconst 1, 1) := by decide +kernel
theorem dX7_fits_99 : decode cX7_fits 99 = .ok (.goto 4, 3) := by decide +kernel
theorem dX7_fits_102 : decode cX7_fits 102 = .ok (.iconst 0, 1) := by decide +kernel
theorem dX7_fits_103 : decode cX7_fits 103 = .ok (.ireturn, 1) := by decide +kernel
theorem dX7_puts_0 : decode cX7_puts 0 = .ok (.aload_n 0, 1) := by decide +kernel
theorem dX7_puts_1 : decode cX7_puts 1 = .ok (.iload_n 1, 1) := by decide +kernel
theorem dX7_puts_2 : decode cX7_puts 2 = .ok (.iload_n 3, 1) := by decide +kernel
theorem dX7_puts_3 : decode cX7_puts 3 = .ok (.invokevirtual 216, 3) := by decide +kernel
theorem dX7_puts_6 : decode cX7_puts 6 = .ok (.istore 5, 2) := by decide +kernel
theorem dX7_puts_8 : decode cX7_puts 8 = .ok (.aload_n 0, 1) := by decide +kernel
theorem dX7_puts_9 : decode cX7_puts 9 = .ok (.getfield 124, 3) := by decide +kernel
theorem dX7_puts_12 : decode cX7_puts 12 = .ok (.iload_n 3, 1) := by decide +kernel
theorem dX7_puts_13 : decode cX7_puts 13 = .ok (.dup2, 1) := by decide +kernel
theorem dX7_puts_14 : decode cX7_puts 14 = .ok (.iaload, 1) := by decide +kernel
theorem dX7_puts_15 : decode cX7_puts 15 = .ok (.iload 4, 2) := by decide +kernel
theorem dX7_puts_17 : decode cX7_puts 17 = .ok (.aload_n 0, 1) := by decide +kernel
theorem dX7_puts_18 : decode cX7_puts 18 = .ok (.getfield 97, 3) := by decide +kernel
theorem dX7_puts_21 : decode cX7_puts 21 = .ok (.iload_n 2, 1) := by decide +kernel
theorem dX7_puts_22 : decode cX7_puts 22 = .ok (.iaload, 1) := by decide +kernel
theorem dX7_puts_23 : decode cX7_puts 23 = .ok (.imul, 1) := by decide +kernel
theorem dX7_puts_24 : decode cX7_puts 24 = .ok (.iadd, 1) := by decide +kernel
theorem dX7_puts_25 : decode cX7_puts 25 = .ok (.iastore, 1) := by decide +kernel
theorem dX7_puts_26 : decode cX7_puts 26 = .ok (.aload_n 0, 1) := by decide +kernel
theorem dX7_puts_27 : decode cX7_puts 27 = .ok (.getfield 127, 3) := by decide +kernel
theorem dX7_puts_30 : decode cX7_puts 30 = .ok (.iload_n 3, 1) := by decide +kernel
theorem dX7_puts_31 : decode cX7_puts 31 = .ok (.dup2, 1) := by decide +kernel
theorem dX7_puts_32 : decode cX7_puts 32 = .ok (.iaload, 1) := by decide +kernel
theorem dX7_puts_33 : decode cX7_puts 33 = .ok (.iload 4, 2) := by decide +kernel
theorem dX7_puts_35 : decode cX7_puts 35 = .ok (.aload_n 0, 1) := by decide +kernel
theorem dX7_puts_36 : decode cX7_puts 36 = .ok (.getfield 103, 3) := by decide +kernel
theorem dX7_puts_39 : decode cX7_puts 39 = .ok (.iload_n 2, 1) := by decide +kernel
theorem dX7_puts_40 : decode cX7_puts 40 = .ok (.iaload, 1) := by decide +kernel
theorem dX7_puts_41 : decode cX7_puts 41 = .ok (.imul, 1) := by decide +kernel
theorem dX7_puts_42 : decode cX7_puts 42 = .ok (.iadd, 1) := by decide +kernel
theorem dX7_puts_43 : decode cX7_puts 43 = .ok (.iastore, 1) := by decide +kernel
theorem dX7_puts_44 : decode cX7_puts 44 = .ok (.aload_n 0, 1) := by decide +kernel
theorem dX7_puts_45 : decode cX7_puts 45 = .ok (.dup, 1) := by decide +kernel
theorem dX7_puts_46 : decode cX7_puts 46 = .ok (.getfield 219, 3) := by decide +kernel
theorem dX7_puts_49 : decode cX7_puts 49 = .ok (.iload 4, 2) := by decide +kernel
theorem dX7_puts_51 : decode cX7_puts 51 = .ok (.aload_n 0, 1) := by decide +kernel
theorem dX7_puts_52 : decode cX7_puts 52 = .ok (.getfield 103, 3) := by decide +kernel
theorem dX7_puts_55 : decode cX7_puts 55 = .ok (.iload_n 2, 1) := by decide +kernel
theorem dX7_puts_56 : decode cX7_puts 56 = .ok (.iaload, 1) := by decide +kernel
theorem dX7_puts_57 : decode cX7_puts 57 = .ok (.imul, 1) := by decide +kernel
theorem dX7_puts_58 : decode cX7_puts 58 = .ok (.iadd, 1) := by decide +kernel
theorem dX7_puts_59 : decode cX7_puts 59 = .ok (.putfield 219, 3) := by decide +kernel
theorem dX7_puts_62 : decode cX7_puts 62 = .ok (.aload_n 0, 1) := by decide +kernel
theorem dX7_puts_63 : decode cX7_puts 63 = .ok (.dup, 1) := by decide +kernel
theorem dX7_puts_64 : decode cX7_puts 64 = .ok (.getfield 222, 3) := by decide +kernel
theorem dX7_puts_67 : decode cX7_puts 67 = .ok (.iload 4, 2) := by decide +kernel
theorem dX7_puts_69 : decode cX7_puts 69 = .ok (.aload_n 0, 1) := by decide +kernel
theorem dX7_puts_70 : decode cX7_puts 70 = .ok (.getfield 100, 3) := by decide +kernel
theorem dX7_puts_73 : decode cX7_puts 73 = .ok (.iload_n 2, 1) := by decide +kernel
theorem dX7_puts_74 : decode cX7_puts 74 = .ok (.iaload, 1) := by decide +kernel
theorem dX7_puts_75 : decode cX7_puts 75 = .ok (.imul, 1) := by decide +kernel
theorem dX7_puts_76 : decode cX7_puts 76 = .ok (.iadd, 1) := by decide +kernel
theorem dX7_puts_77 : decode cX7_puts 77 = .ok (.putfield 222, 3) := by decide +kernel
theorem dX7_puts_80 : decode cX7_puts 80 = .ok (.aload_n 0, 1) := by decide +kernel
theorem dX7_puts_81 : decode cX7_puts 81 = .ok (.getfield 82, 3) := by decide +kernel
theorem dX7_puts_84 : decode cX7_puts 84 = .ok (.iload_n 1, 1) := by decide +kernel
theorem dX7_puts_85 : decode cX7_puts 85 = .ok (.dup2, 1) := by decide +kernel
theorem dX7_puts_86 : decode cX7_puts 86 = .ok (.iaload, 1) := by decide +kernel
theorem dX7_puts_87 : decode cX7_puts 87 = .ok (.iload 5, 2) := by decide +kernel
theorem dX7_puts_89 : decode cX7_puts 89 = .ok (.iconst 1, 1) := by decide +kernel
theorem dX7_puts_90 : decode cX7_puts 90 = .ok (.if_icmp .ne 15, 3) := by decide +kernel
theorem dX7_puts_93 : decode cX7_puts 93 = .ok (.iload 4, 2) := by decide +kernel
theorem dX7_puts_95 : decode cX7_puts 95 = .ok (.aload_n 0, 1) := by decide +kernel
theorem dX7_puts_96 : decode cX7_puts 96 = .ok (.getfield 100, 3) := by decide +kernel
theorem dX7_puts_99 : decode cX7_puts 99 = .ok (.iload_n 2, 1) := by decide +kernel
theorem dX7_puts_100 : decode cX7_puts 100 = .ok (.iaload, 1) := by decide +kernel
theorem dX7_puts_101 : decode cX7_puts 101 = .ok (.imul, 1) := by decide +kernel
theorem dX7_puts_102 : decode cX7_puts 102 = .ok (.goto 4, 3) := by decide +kernel
theorem dX7_puts_105 : decode cX7_puts 105 = .ok (.iconst 0, 1) := by decide +kernel
theorem dX7_puts_106 : decode cX7_puts 106 = .ok (.iadd, 1) := by decide +kernel
theorem dX7_puts_107 : decode cX7_puts 107 = .ok (.iastore, 1) := by decide +kernel
theorem dX7_puts_108 : decode cX7_puts 108 = .ok (.aload_n 0, 1) := by decide +kernel
theorem dX7_puts_109 : decode cX7_puts 109 = .ok (.getfield 85, 3) := by decide +kernel
theorem dX7_puts_112 : decode cX7_puts 112 = .ok (.iload_n 1, 1) := by decide +kernel
theorem dX7_puts_113 : decode cX7_puts 113 = .ok (.dup2, 1) := by decide +kernel
theorem dX7_puts_114 : decode cX7_puts 114 = .ok (.iaload, 1) := by decide +kernel
theorem dX7_puts_115 : decode cX7_puts 115 = .ok (.iload 5, 2) := by decide +kernel
theorem dX7_puts_117 : decode cX7_puts 117 = .ok (.iconst 2, 1) := by decide +kernel
theorem dX7_puts_118 : decode cX7_puts 118 = .ok (.if_icmp .ne 15, 3) := by decide +kernel
theorem dX7_puts_121 : decode cX7_puts 121 = .ok (.iload 4, 2) := by decide +kernel
theorem dX7_puts_123 : decode cX7_puts 123 = .ok (.aload_n 0, 1) := by decide +kernel
theorem dX7_puts_124 : decode cX7_puts 124 = .ok (.getfield 100, 3) := by decide +kernel
theorem dX7_puts_127 : decode cX7_puts 127 = .ok (.iload_n 2, 1) := by decide +kernel
theorem dX7_puts_128 : decode cX7_puts 128 = .ok (.iaload, 1) := by decide +kernel
theorem dX7_puts_129 : decode cX7_puts 129 = .ok (.imul, 1) := by decide +kernel
theorem dX7_puts_130 : decode cX7_puts 130 = .ok (.goto 4, 3) := by decide +kernel
theorem dX7_puts_133 : decode cX7_puts 133 = .ok (.iconst 0, 1) := by decide +kernel
theorem dX7_puts_134 : decode cX7_puts 134 = .ok (.iadd, 1) := by decide +kernel
theorem dX7_puts_135 : decode cX7_puts 135 = .ok (.iastore, 1) := by decide +kernel
theorem dX7_puts_136 : decode cX7_puts 136 = .ok (.aload_n 0, 1) := by decide +kernel
theorem dX7_puts_137 : decode cX7_puts 137 = .ok (.getfield 121, 3) := by decide +kernel
theorem dX7_puts_140 : decode cX7_puts 140 = .ok (.iload_n 2, 1) := by decide +kernel
theorem dX7_puts_141 : decode cX7_puts 141 = .ok (.iload 4, 2) := by decide +kernel
theorem dX7_puts_143 : decode cX7_puts 143 = .ok (.ifCond .le 9, 3) := by decide +kernel
theorem dX7_puts_146 : decode cX7_puts 146 = .ok (.iload_n 3, 1) := by decide +kernel
theorem dX7_puts_147 : decode cX7_puts 147 = .ok (.iconst 1, 1) := by decide +kernel
theorem dX7_puts_148 : decode cX7_puts 148 = .ok (.iadd, 1) := by decide +kernel
theorem dX7_puts_149 : decode cX7_puts 149 = .ok (.goto 4, 3) := by decide +kernel
theorem dX7_puts_152 : decode cX7_puts 152 = .ok (.iconst 0, 1) := by decide +kernel
theorem dX7_puts_153 : decode cX7_puts 153 = .ok (.iastore, 1) := by decide +kernel
theorem dX7_puts_154 : decode cX7_puts 154 = .ok (.aload_n 0, 1) := by decide +kernel
theorem dX7_puts_155 : decode cX7_puts 155 = .ok (.getfield 118, 3) := by decide +kernel
theorem dX7_puts_158 : decode cX7_puts 158 = .ok (.iload_n 2, 1) := by decide +kernel
theorem dX7_puts_159 : decode cX7_puts 159 = .ok (.iload 4, 2) := by decide +kernel
theorem dX7_puts_161 : decode cX7_puts 161 = .ok (.ifCond .le 7, 3) := by decide +kernel
theorem dX7_puts_164 : decode cX7_puts 164 = .ok (.iconst 1, 1) := by decide +kernel
theorem dX7_puts_165 : decode cX7_puts 165 = .ok (.goto 4, 3) := by decide +kernel
theorem dX7_puts_168 : decode cX7_puts 168 = .ok (.iconst 0, 1) := by decide +kernel
theorem dX7_puts_169 : decode cX7_puts 169 = .ok (.iastore, 1) := by decide +kernel
theorem dX7_puts_170 : decode cX7_puts 170 = .ok (.return_, 1) := by decide +kernel
theorem dX7_takes_0 : decode cX7_takes 0 = .ok (.aload_n 0, 1) := by decide +kernel
theorem dX7_takes_1 : decode cX7_takes 1 = .ok (.getfield 94, 3) := by decide +kernel
theorem dX7_takes_4 : decode cX7_takes 4 = .ok (.iload_n 2, 1) := by decide +kernel
theorem dX7_takes_5 : decode cX7_takes 5 = .ok (.iaload, 1) := by decide +kernel
theorem dX7_takes_6 : decode cX7_takes 6 = .ok (.ifCond .ne 11, 3) := by decide +kernel
theorem dX7_takes_9 : decode cX7_takes 9 = .ok (.aload_n 0, 1) := by decide +kernel
theorem dX7_takes_10 : decode cX7_takes 10 = .ok (.getfield 118, 3) := by decide +kernel
theorem dX7_takes_13 : decode cX7_takes 13 = .ok (.iload_n 2, 1) := by decide +kernel
theorem dX7_takes_14 : decode cX7_takes 14 = .ok (.iconst 1, 1) := by decide +kernel
theorem dX7_takes_15 : decode cX7_takes 15 = .ok (.iastore, 1) := by decide +kernel
theorem dX7_takes_16 : decode cX7_takes 16 = .ok (.return_, 1) := by decide +kernel
theorem dX7_takes_17 : decode cX7_takes 17 = .ok (.iconst (-1), 1) := by decide +kernel
theorem dX7_takes_18 : decode cX7_takes 18 = .ok (.istore_n 3, 1) := by decide +kernel
theorem dX7_takes_19 : decode cX7_takes 19 = .ok (.iconst 0, 1) := by decide +kernel
theorem dX7_takes_20 : decode cX7_takes 20 = .ok (.istore 4, 2) := by decide +kernel
theorem dX7_takes_22 : decode cX7_takes 22 = .ok (.iload 4, 2) := by decide +kernel
theorem dX7_takes_24 : decode cX7_takes 24 = .ok (.aload_n 0, 1) := by decide +kernel
theorem dX7_takes_25 : decode cX7_takes 25 = .ok (.getfield 13, 3) := by decide +kernel
theorem dX7_takes_28 : decode cX7_takes 28 = .ok (.aload_n 0, 1) := by decide +kernel
theorem dX7_takes_29 : decode cX7_takes 29 = .ok (.getfield 58, 3) := by decide +kernel
theorem dX7_takes_32 : decode cX7_takes 32 = .ok (.iload_n 1, 1) := by decide +kernel
theorem dX7_takes_33 : decode cX7_takes 33 = .ok (.iaload, 1) := by decide +kernel
theorem dX7_takes_34 : decode cX7_takes 34 = .ok (.iaload, 1) := by decide +kernel
theorem dX7_takes_35 : decode cX7_takes 35 = .ok (.if_icmp .ge 72, 3) := by decide +kernel
theorem dX7_takes_38 : decode cX7_takes 38 = .ok (.iload_n 3, 1) := by decide +kernel
theorem dX7_takes_39 : decode cX7_takes 39 = .ok (.iconst (-1), 1) := by decide +kernel
theorem dX7_takes_40 : decode cX7_takes 40 = .ok (.if_icmp .eq 31, 3) := by decide +kernel
theorem dX7_takes_43 : decode cX7_takes 43 = .ok (.aload_n 0, 1) := by decide +kernel
theorem dX7_takes_44 : decode cX7_takes 44 = .ok (.iload_n 1, 1) := by decide +kernel
theorem dX7_takes_45 : decode cX7_takes 45 = .ok (.iload 4, 2) := by decide +kernel
theorem dX7_takes_47 : decode cX7_takes 47 = .ok (.aload_n 0, 1) := by decide +kernel
theorem dX7_takes_48 : decode cX7_takes 48 = .ok (.getfield 100, 3) := by decide +kernel
theorem dX7_takes_51 : decode cX7_takes 51 = .ok (.iload_n 2, 1) := by decide +kernel
theorem dX7_takes_52 : decode cX7_takes 52 = .ok (.iaload, 1) := by decide +kernel
theorem dX7_takes_53 : decode cX7_takes 53 = .ok (.invokevirtual 225, 3) := by decide +kernel
theorem dX7_takes_56 : decode cX7_takes 56 = .ok (.aload_n 0, 1) := by decide +kernel
theorem dX7_takes_57 : decode cX7_takes 57 = .ok (.iload_n 1, 1) := by decide +kernel
theorem dX7_takes_58 : decode cX7_takes 58 = .ok (.iload_n 3, 1) := by decide +kernel
theorem dX7_takes_59 : decode cX7_takes 59 = .ok (.aload_n 0, 1) := by decide +kernel
theorem dX7_takes_60 : decode cX7_takes 60 = .ok (.getfield 100, 3) := by decide +kernel
theorem dX7_takes_63 : decode cX7_takes 63 = .ok (.iload_n 2, 1) := by decide +kernel
theorem dX7_takes_64 : decode cX7_takes 64 = .ok (.iaload, 1) := by decide +kernel
theorem dX7_takes_65 : decode cX7_takes 65 = .ok (.invokevirtual 225, 3) := by decide +kernel
theorem dX7_takes_68 : decode cX7_takes 68 = .ok (.if_icmp .ge 7, 3) := by decide +kernel
theorem dX7_takes_71 : decode cX7_takes 71 = .ok (.iconst 1, 1) := by decide +kernel
theorem dX7_takes_72 : decode cX7_takes 72 = .ok (.goto 4, 3) := by decide +kernel
theorem dX7_takes_75 : decode cX7_takes 75 = .ok (.iconst 0, 1) := by decide +kernel
theorem dX7_takes_76 : decode cX7_takes 76 = .ok (.istore 5, 2) := by decide +kernel
theorem dX7_takes_78 : decode cX7_takes 78 = .ok (.iload 5, 2) := by decide +kernel
theorem dX7_takes_80 : decode cX7_takes 80 = .ok (.ifCond .eq 19, 3) := by decide +kernel
theorem dX7_takes_83 : decode cX7_takes 83 = .ok (.aload_n 0, 1) := by decide +kernel
theorem dX7_takes_84 : decode cX7_takes 84 = .ok (.iload_n 1, 1) := by decide +kernel
theorem dX7_takes_85 : decode cX7_takes 85 = .ok (.iload_n 2, 1) := by decide +kernel
theorem dX7_takes_86 : decode cX7_takes 86 = .ok (.iload 4, 2) := by decide +kernel
theorem dX7_takes_88 : decode cX7_takes 88 = .ok (.invokevirtual 229, 3) := by decide +kernel
theorem dX7_takes_91 : decode cX7_takes 91 = .ok (.ifCond .eq 8, 3) := by decide +kernel
theorem dX7_takes_94 : decode cX7_takes 94 = .ok (.iload 4, 2) := by decide +kernel
theorem dX7_takes_96 : decode cX7_takes 96 = .ok (.goto 4, 3) := by decide +kernel
theorem dX7_takes_99 : decode cX7_takes 99 = .ok (.iload_n 3, 1) := by decide +kernel
theorem dX7_takes_100 : decode cX7_takes 100 = .ok (.istore_n 3, 1) := by decide +kernel
theorem dX7_takes_101 : decode cX7_takes 101 = .ok (.iinc 4 1, 3) := by decide +kernel
theorem dX7_takes_104 : decode cX7_takes 104 = .ok (.goto (-82), 3) := by decide +kernel
theorem dX7_takes_107 : decode cX7_takes 107 = .ok (.iload_n 3, 1) := by decide +kernel
theorem dX7_takes_108 : decode cX7_takes 108 = .ok (.iconst (-1), 1) := by decide +kernel
theorem dX7_takes_109 : decode cX7_takes 109 = .ok (.if_icmp .eq 56, 3) := by decide +kernel
theorem dX7_takes_112 : decode cX7_takes 112 = .ok (.aload_n 0, 1) := by decide +kernel
theorem dX7_takes_113 : decode cX7_takes 113 = .ok (.getfield 222, 3) := by decide +kernel
theorem dX7_takes_116 : decode cX7_takes 116 = .ok (.aload_n 0, 1) := by decide +kernel
theorem dX7_takes_117 : decode cX7_takes 117 = .ok (.getfield 100, 3) := by decide +kernel
theorem dX7_takes_120 : decode cX7_takes 120 = .ok (.iload_n 2, 1) := by decide +kernel
theorem dX7_takes_121 : decode cX7_takes 121 = .ok (.iaload, 1) := by decide +kernel
theorem dX7_takes_122 : decode cX7_takes 122 = .ok (.iadd, 1) := by decide +kernel
theorem dX7_takes_123 : decode cX7_takes 123 = .ok (.aload_n 0, 1) := by decide +kernel
theorem dX7_takes_124 : decode cX7_takes 124 = .ok (.getfield 19, 3) := by decide +kernel
theorem dX7_takes_127 : decode cX7_takes 127 = .ok (.aload_n 0, 1) := by decide +kernel
theorem dX7_takes_128 : decode cX7_takes 128 = .ok (.getfield 58, 3) := by decide +kernel
theorem dX7_takes_131 : decode cX7_takes 131 = .ok (.iload_n 1, 1) := by decide +kernel
theorem dX7_takes_132 : decode cX7_takes 132 = .ok (.iaload, 1) := by decide +kernel
theorem dX7_takes_133 : decode cX7_takes 133 = .ok (.iaload, 1) := by decide +kernel
theorem dX7_takes_134 : decode cX7_takes 134 = .ok (.if_icmp .gt 31, 3) := by decide +kernel
theorem dX7_takes_137 : decode cX7_takes 137 = .ok (.aload_n 0, 1) := by decide +kernel
theorem dX7_takes_138 : decode cX7_takes 138 = .ok (.iload_n 1, 1) := by decide +kernel
theorem dX7_takes_139 : decode cX7_takes 139 = .ok (.iload_n 2, 1) := by decide +kernel
theorem dX7_takes_140 : decode cX7_takes 140 = .ok (.iload_n 3, 1) := by decide +kernel
theorem dX7_takes_141 : decode cX7_takes 141 = .ok (.iconst 1, 1) := by decide +kernel
theorem dX7_takes_142 : decode cX7_takes 142 = .ok (.invokevirtual 232, 3) := by decide +kernel
theorem dX7_takes_145 : decode cX7_takes 145 = .ok (.aload_n 0, 1) := by decide +kernel
theorem dX7_takes_146 : decode cX7_takes 146 = .ok (.getfield 130, 3) := by decide +kernel
theorem dX7_takes_149 : decode cX7_takes 149 = .ok (.aload_n 0, 1) := by decide +kernel
theorem dX7_takes_150 : decode cX7_takes 150 = .ok (.getfield 236, 3) := by decide +kernel
theorem dX7_takes_153 : decode cX7_takes 153 = .ok (.iload_n 2, 1) := by decide +kernel
theorem dX7_takes_154 : decode cX7_takes 154 = .ok (.iastore, 1) := by decide +kernel
theorem dX7_takes_155 : decode cX7_takes 155 = .ok (.aload_n 0, 1) := by decide +kernel
theorem dX7_takes_156 : decode cX7_takes 156 = .ok (.dup, 1) := by decide +kernel
theorem dX7_takes_157 : decode cX7_takes 157 = .ok (.getfield 236, 3) := by decide +kernel
theorem dX7_takes_160 : decode cX7_takes 160 = .ok (.iconst 1, 1) := by decide +kernel
theorem dX7_takes_161 : decode cX7_takes 161 = .ok (.iadd, 1) := by decide +kernel
theorem dX7_takes_162 : decode cX7_takes 162 = .ok (.putfield 236, 3) := by decide +kernel
theorem dX7_takes_165 : decode cX7_takes 165 = .ok (.return_, 1) := by decide +kernel
theorem dX7_putsOff_0 : decode cX7_putsOff 0 = .ok (.aload_n 0, 1) := by decide +kernel
theorem dX7_putsOff_1 : decode cX7_putsOff 1 = .ok (.getfield 82, 3) := by decide +kernel
theorem dX7_putsOff_4 : decode cX7_putsOff 4 = .ok (.iload_n 1, 1) := by decide +kernel
theorem dX7_putsOff_5 : decode cX7_putsOff 5 = .ok (.iaload, 1) := by decide +kernel
theorem dX7_putsOff_6 : decode cX7_putsOff 6 = .ok (.aload_n 0, 1) := by decide +kernel
theorem dX7_putsOff_7 : decode cX7_putsOff 7 = .ok (.getfield 85, 3) := by decide +kernel
theorem dX7_putsOff_10 : decode cX7_putsOff 10 = .ok (.iload_n 1, 1) := by decide +kernel
theorem dX7_putsOff_11 : decode cX7_putsOff 11 = .ok (.iaload, 1) := by decide +kernel
theorem dX7_putsOff_12 : decode cX7_putsOff 12 = .ok (.if_icmp .le 7, 3) := by decide +kernel
theorem dX7_putsOff_15 : decode cX7_putsOff 15 = .ok (.iconst 1, 1) := by decide +kernel
theorem dX7_putsOff_16 : decode cX7_putsOff 16 = .ok (.goto 4, 3) := by decide +kernel
theorem dX7_putsOff_19 : decode cX7_putsOff 19 = .ok (.iconst 2, 1) := by decide +kernel
theorem dX7_putsOff_20 : decode cX7_putsOff 20 = .ok (.istore_n 2, 1) := by decide +kernel
theorem dX7_putsOff_21 : decode cX7_putsOff 21 = .ok (.aload_n 0, 1) := by decide +kernel
theorem dX7_putsOff_22 : decode cX7_putsOff 22 = .ok (.getfield 236, 3) := by decide +kernel
theorem dX7_putsOff_25 : decode cX7_putsOff 25 = .ok (.iconst 1, 1) := by decide +kernel
theorem dX7_putsOff_26 : decode cX7_putsOff 26 = .ok (.isub, 1) := by decide +kernel
theorem dX7_putsOff_27 : decode cX7_putsOff 27 = .ok (.istore_n 3, 1) := by decide +kernel
theorem dX7_putsOff_28 : decode cX7_putsOff 28 = .ok (.aload_n 0, 1) := by decide +kernel
theorem dX7_putsOff_29 : decode cX7_putsOff 29 = .ok (.iload_n 1, 1) := by decide +kernel
theorem dX7_putsOff_30 : decode cX7_putsOff 30 = .ok (.aload_n 0, 1) := by decide +kernel
theorem dX7_putsOff_31 : decode cX7_putsOff 31 = .ok (.getfield 121, 3) := by decide +kernel
theorem dX7_putsOff_34 : decode cX7_putsOff 34 = .ok (.aload_n 0, 1) := by decide +kernel
theorem dX7_putsOff_35 : decode cX7_putsOff 35 = .ok (.getfield 130, 3) := by decide +kernel
theorem dX7_putsOff_38 : decode cX7_putsOff 38 = .ok (.iload_n 3, 1) := by decide +kernel
theorem dX7_putsOff_39 : decode cX7_putsOff 39 = .ok (.iaload, 1) := by decide +kernel
theorem dX7_putsOff_40 : decode cX7_putsOff 40 = .ok (.iaload, 1) := by decide +kernel
theorem dX7_putsOff_41 : decode cX7_putsOff 41 = .ok (.iconst 1, 1) := by decide +kernel
theorem dX7_putsOff_42 : decode cX7_putsOff 42 = .ok (.isub, 1) := by decide +kernel
theorem dX7_putsOff_43 : decode cX7_putsOff 43 = .ok (.invokevirtual 216, 3) := by decide +kernel
theorem dX7_putsOff_46 : decode cX7_putsOff 46 = .ok (.iload_n 2, 1) := by decide +kernel
theorem dX7_putsOff_47 : decode cX7_putsOff 47 = .ok (.if_icmp .eq 9, 3) := by decide +kernel
theorem dX7_putsOff_50 : decode cX7_putsOff 50 = .ok (.iinc 3 (-1), 3) := by decide +kernel
theorem dX7_putsOff_53 : decode cX7_putsOff 53 = .ok (.goto (-25), 3) := by decide +kernel
theorem dX7_putsOff_56 : decode cX7_putsOff 56 = .ok (.aload_n 0, 1) := by decide +kernel
theorem dX7_putsOff_57 : decode cX7_putsOff 57 = .ok (.iload_n 1, 1) := by decide +kernel
theorem dX7_putsOff_58 : decode cX7_putsOff 58 = .ok (.aload_n 0, 1) := by decide +kernel
theorem dX7_putsOff_59 : decode cX7_putsOff 59 = .ok (.getfield 130, 3) := by decide +kernel
theorem dX7_putsOff_62 : decode cX7_putsOff 62 = .ok (.iload_n 3, 1) := by decide +kernel
theorem dX7_putsOff_63 : decode cX7_putsOff 63 = .ok (.iaload, 1) := by decide +kernel
theorem dX7_putsOff_64 : decode cX7_putsOff 64 = .ok (.aload_n 0, 1) := by decide +kernel
theorem dX7_putsOff_65 : decode cX7_putsOff 65 = .ok (.getfield 121, 3) := by decide +kernel
theorem dX7_putsOff_68 : decode cX7_putsOff 68 = .ok (.aload_n 0, 1) := by decide +kernel
theorem dX7_putsOff_69 : decode cX7_putsOff 69 = .ok (.getfield 130, 3) := by decide +kernel
theorem dX7_putsOff_72 : decode cX7_putsOff 72 = .ok (.iload_n 3, 1) := by decide +kernel
theorem dX7_putsOff_73 : decode cX7_putsOff 73 = .ok (.iaload, 1) := by decide +kernel
theorem dX7_putsOff_74 : decode cX7_putsOff 74 = .ok (.iaload, 1) := by decide +kernel
theorem dX7_putsOff_75 : decode cX7_putsOff 75 = .ok (.iconst 1, 1) := by decide +kernel
theorem dX7_putsOff_76 : decode cX7_putsOff 76 = .ok (.isub, 1) := by decide +kernel
theorem dX7_putsOff_77 : decode cX7_putsOff 77 = .ok (.iconst (-1), 1) := by decide +kernel
theorem dX7_putsOff_78 : decode cX7_putsOff 78 = .ok (.invokevirtual 232, 3) := by decide +kernel
theorem dX7_putsOff_81 : decode cX7_putsOff 81 = .ok (.aload_n 0, 1) := by decide +kernel
theorem dX7_putsOff_82 : decode cX7_putsOff 82 = .ok (.dup, 1) := by decide +kernel
theorem dX7_putsOff_83 : decode cX7_putsOff 83 = .ok (.getfield 236, 3) := by decide +kernel
theorem dX7_putsOff_86 : decode cX7_putsOff 86 = .ok (.iconst 1, 1) := by decide +kernel
theorem dX7_putsOff_87 : decode cX7_putsOff 87 = .ok (.isub, 1) := by decide +kernel
theorem dX7_putsOff_88 : decode cX7_putsOff 88 = .ok (.putfield 236, 3) := by decide +kernel
theorem dX7_putsOff_91 : decode cX7_putsOff 91 = .ok (.iload_n 3, 1) := by decide +kernel
theorem dX7_putsOff_92 : decode cX7_putsOff 92 = .ok (.istore 4, 2) := by decide +kernel
theorem dX7_putsOff_94 : decode cX7_putsOff 94 = .ok (.iload 4, 2) := by decide +kernel
theorem dX7_putsOff_96 : decode cX7_putsOff 96 = .ok (.aload_n 0, 1) := by decide +kernel
theorem dX7_putsOff_97 : decode cX7_putsOff 97 = .ok (.getfield 236, 3) := by decide +kernel
theorem dX7_putsOff_100 : decode cX7_putsOff 100 = .ok (.if_icmp .ge 25, 3) := by decide +kernel
theorem dX7_putsOff_103 : decode cX7_putsOff 103 = .ok (.aload_n 0, 1) := by decide +kernel
theorem dX7_putsOff_104 : decode cX7_putsOff 104 = .ok (.getfield 130, 3) := by decide +kernel
theorem dX7_putsOff_107 : decode cX7_putsOff 107 = .ok (.iload 4, 2) := by decide +kernel
theorem dX7_putsOff_109 : decode cX7_putsOff 109 = .ok (.aload_n 0, 1) := by decide +kernel
theorem dX7_putsOff_110 : decode cX7_putsOff 110 = .ok (.getfield 130, 3) := by decide +kernel
theorem dX7_putsOff_113 : decode cX7_putsOff 113 = .ok (.iload 4, 2) := by decide +kernel
theorem dX7_putsOff_115 : decode cX7_putsOff 115 = .ok (.iconst 1, 1) := by decide +kernel
theorem dX7_putsOff_116 : decode cX7_putsOff 116 = .ok (.iadd, 1) := by decide +kernel
theorem dX7_putsOff_117 : decode cX7_putsOff 117 = .ok (.iaload, 1) := by decide +kernel
theorem dX7_putsOff_118 : decode cX7_putsOff 118 = .ok (.iastore, 1) := by decide +kernel
theorem dX7_putsOff_119 : decode cX7_putsOff 119 = .ok (.iinc 4 1, 3) := by decide +kernel
theorem dX7_putsOff_122 : decode cX7_putsOff 122 = .ok (.goto (-28), 3) := by decide +kernel
theorem dX7_putsOff_125 : decode cX7_putsOff 125 = .ok (.return_, 1) := by decide +kernel
theorem dX7_sails_0 : decode cX7_sails 0 = .ok (.aload_n 0, 1) := by decide +kernel
theorem dX7_sails_1 : decode cX7_sails 1 = .ok (.getfield 73, 3) := by decide +kernel
theorem dX7_sails_4 : decode cX7_sails 4 = .ok (.iload_n 1, 1) := by decide +kernel
theorem dX7_sails_5 : decode cX7_sails 5 = .ok (.iconst 2, 1) := by decide +kernel
theorem dX7_sails_6 : decode cX7_sails 6 = .ok (.iastore, 1) := by decide +kernel
theorem dX7_sails_7 : decode cX7_sails 7 = .ok (.aload_n 0, 1) := by decide +kernel
theorem dX7_sails_8 : decode cX7_sails 8 = .ok (.getfield 28, 3) := by decide +kernel
theorem dX7_sails_11 : decode cX7_sails 11 = .ok (.aload_n 0, 1) := by decide +kernel
theorem dX7_sails_12 : decode cX7_sails 12 = .ok (.getfield 58, 3) := by decide +kernel
theorem dX7_sails_15 : decode cX7_sails 15 = .ok (.iload_n 1, 1) := by decide +kernel
theorem dX7_sails_16 : decode cX7_sails 16 = .ok (.iaload, 1) := by decide +kernel
theorem dX7_sails_17 : decode cX7_sails 17 = .ok (.dup2, 1) := by decide +kernel
theorem dX7_sails_18 : decode cX7_sails 18 = .ok (.iaload, 1) := by decide +kernel
theorem dX7_sails_19 : decode cX7_sails 19 = .ok (.aload_n 0, 1) := by decide +kernel
theorem dX7_sails_20 : decode cX7_sails 20 = .ok (.iload_n 1, 1) := by decide +kernel
theorem dX7_sails_21 : decode cX7_sails 21 = .ok (.invokevirtual 213, 3) := by decide +kernel
theorem dX7_sails_24 : decode cX7_sails 24 = .ok (.isub, 1) := by decide +kernel
theorem dX7_sails_25 : decode cX7_sails 25 = .ok (.iastore, 1) := by decide +kernel
theorem dX7_sails_26 : decode cX7_sails 26 = .ok (.aload_n 0, 1) := by decide +kernel
theorem dX7_sails_27 : decode cX7_sails 27 = .ok (.getfield 40, 3) := by decide +kernel
theorem dX7_sails_30 : decode cX7_sails 30 = .ok (.sipush 501, 3) := by decide +kernel
theorem dX7_sails_33 : decode cX7_sails 33 = .ok (.aload_n 0, 1) := by decide +kernel
theorem dX7_sails_34 : decode cX7_sails 34 = .ok (.iload_n 1, 1) := by decide +kernel
theorem dX7_sails_35 : decode cX7_sails 35 = .ok (.invokevirtual 210, 3) := by decide +kernel
theorem dX7_sails_38 : decode cX7_sails 38 = .ok (.imul, 1) := by decide +kernel
theorem dX7_sails_39 : decode cX7_sails 39 = .ok (.aload_n 0, 1) := by decide +kernel
theorem dX7_sails_40 : decode cX7_sails 40 = .ok (.getfield 67, 3) := by decide +kernel
theorem dX7_sails_43 : decode cX7_sails 43 = .ok (.iload_n 1, 1) := by decide +kernel
theorem dX7_sails_44 : decode cX7_sails 44 = .ok (.iaload, 1) := by decide +kernel
theorem dX7_sails_45 : decode cX7_sails 45 = .ok (.bipush 24, 2) := by decide +kernel
theorem dX7_sails_47 : decode cX7_sails 47 = .ok (.idiv, 1) := by decide +kernel
theorem dX7_sails_48 : decode cX7_sails 48 = .ok (.iadd, 1) := by decide +kernel
theorem dX7_sails_49 : decode cX7_sails 49 = .ok (.dup2, 1) := by decide +kernel
theorem dX7_sails_50 : decode cX7_sails 50 = .ok (.iaload, 1) := by decide +kernel
theorem dX7_sails_51 : decode cX7_sails 51 = .ok (.aload_n 0, 1) := by decide +kernel
theorem dX7_sails_52 : decode cX7_sails 52 = .ok (.iload_n 1, 1) := by decide +kernel
theorem dX7_sails_53 : decode cX7_sails 53 = .ok (.invokevirtual 170, 3) := by decide +kernel
theorem dX7_sails_56 : decode cX7_sails 56 = .ok (.iadd, 1) := by decide +kernel
theorem dX7_sails_57 : decode cX7_sails 57 = .ok (.iastore, 1) := by decide +kernel
theorem dX7_sails_58 : decode cX7_sails 58 = .ok (.iconst 0, 1) := by decide +kernel
theorem dX7_sails_59 : decode cX7_sails 59 = .ok (.istore_n 2, 1) := by decide +kernel
theorem dX7_sails_60 : decode cX7_sails 60 = .ok (.iload_n 2, 1) := by decide +kernel
theorem dX7_sails_61 : decode cX7_sails 61 = .ok (.iconst 4, 1) := by decide +kernel
theorem dX7_sails_62 : decode cX7_sails 62 = .ok (.if_icmp .ge 23, 3) := by decide +kernel
theorem dX7_sails_65 : decode cX7_sails 65 = .ok (.aload_n 0, 1) := by decide +kernel
theorem dX7_sails_66 : decode cX7_sails 66 = .ok (.getfield 124, 3) := by decide +kernel
theorem dX7_sails_69 : decode cX7_sails 69 = .ok (.iload_n 2, 1) := by decide +kernel
theorem dX7_sails_70 : decode cX7_sails 70 = .ok (.iconst 0, 1) := by decide +kernel
theorem dX7_sails_71 : decode cX7_sails 71 = .ok (.iastore, 1) := by decide +kernel
theorem dX7_sails_72 : decode cX7_sails 72 = .ok (.aload_n 0, 1) := by decide +kernel
theorem dX7_sails_73 : decode cX7_sails 73 = .ok (.getfield 127, 3) := by decide +kernel
theorem dX7_sails_76 : decode cX7_sails 76 = .ok (.iload_n 2, 1) := by decide +kernel
theorem dX7_sails_77 : decode cX7_sails 77 = .ok (.iconst 0, 1) := by decide +kernel
theorem dX7_sails_78 : decode cX7_sails 78 = .ok (.iastore, 1) := by decide +kernel
theorem dX7_sails_79 : decode cX7_sails 79 = .ok (.iinc 2 1, 3) := by decide +kernel
theorem dX7_sails_82 : decode cX7_sails 82 = .ok (.goto (-22), 3) := by decide +kernel
theorem dX7_sails_85 : decode cX7_sails 85 = .ok (.aload_n 0, 1) := by decide +kernel
theorem dX7_sails_86 : decode cX7_sails 86 = .ok (.iconst 0, 1) := by decide +kernel
theorem dX7_sails_87 : decode cX7_sails 87 = .ok (.putfield 236, 3) := by decide +kernel
theorem dX7_sails_90 : decode cX7_sails 90 = .ok (.aload_n 0, 1) := by decide +kernel
theorem dX7_sails_91 : decode cX7_sails 91 = .ok (.iconst 0, 1) := by decide +kernel
theorem dX7_sails_92 : decode cX7_sails 92 = .ok (.putfield 222, 3) := by decide +kernel
theorem dX7_sails_95 : decode cX7_sails 95 = .ok (.aload_n 0, 1) := by decide +kernel
theorem dX7_sails_96 : decode cX7_sails 96 = .ok (.iconst 0, 1) := by decide +kernel
theorem dX7_sails_97 : decode cX7_sails 97 = .ok (.putfield 219, 3) := by decide +kernel
theorem dX7_sails_100 : decode cX7_sails 100 = .ok (.iconst 0, 1) := by decide +kernel
theorem dX7_sails_101 : decode cX7_sails 101 = .ok (.istore_n 2, 1) := by decide +kernel
theorem dX7_sails_102 : decode cX7_sails 102 = .ok (.iload_n 2, 1) := by decide +kernel
theorem dX7_sails_103 : decode cX7_sails 103 = .ok (.iconst 2, 1) := by decide +kernel
theorem dX7_sails_104 : decode cX7_sails 104 = .ok (.if_icmp .ge 55, 3) := by decide +kernel
theorem dX7_sails_107 : decode cX7_sails 107 = .ok (.iconst 0, 1) := by decide +kernel
theorem dX7_sails_108 : decode cX7_sails 108 = .ok (.istore_n 3, 1) := by decide +kernel
theorem dX7_sails_109 : decode cX7_sails 109 = .ok (.iload_n 3, 1) := by decide +kernel
theorem dX7_sails_110 : decode cX7_sails 110 = .ok (.aload_n 0, 1) := by decide +kernel
theorem dX7_sails_111 : decode cX7_sails 111 = .ok (.getfield 147, 3) := by decide +kernel
theorem dX7_sails_114 : decode cX7_sails 114 = .ok (.if_icmp .ge 39, 3) := by decide +kernel
theorem dX7_sails_117 : decode cX7_sails 117 = .ok (.aload_n 0, 1) := by decide +kernel
theorem dX7_sails_118 : decode cX7_sails 118 = .ok (.getfield 91, 3) := by decide +kernel
theorem dX7_sails_121 : decode cX7_sails 121 = .ok (.iload_n 3, 1) := by decide +kernel
theorem dX7_sails_122 : decode cX7_sails 122 = .ok (.iaload, 1) := by decide +kernel
theorem dX7_sails_123 : decode cX7_sails 123 = .ok (.iload_n 1, 1) := by decide +kernel
theorem dX7_sails_124 : decode cX7_sails 124 = .ok (.iconst 1, 1) := by decide +kernel
theorem dX7_sails_125 : decode cX7_sails 125 = .ok (.iadd, 1) := by decide +kernel
theorem dX7_sails_126 : decode cX7_sails 126 = .ok (.if_icmp .ne 21, 3) := by decide +kernel
theorem dX7_sails_129 : decode cX7_sails 129 = .ok (.aload_n 0, 1) := by decide +kernel
theorem dX7_sails_130 : decode cX7_sails 130 = .ok (.getfield 106, 3) := by decide +kernel
theorem dX7_sails_133 : decode cX7_sails 133 = .ok (.iload_n 3, 1) := by decide +kernel
theorem dX7_sails_134 : decode cX7_sails 134 = .ok (.iaload, 1) := by decide +kernel
theorem dX7_sails_135 : decode cX7_sails 135 = .ok (.iconst 1, 1) := by decide +kernel
theorem dX7_sails_136 : decode cX7_sails 136 = .ok (.iload_n 2, 1) := by decide +kernel
theorem dX7_sails_137 : decode cX7_sails 137 = .ok (.isub, 1) := by decide +kernel
theorem dX7_sails_138 : decode cX7_sails 138 = .ok (.if_icmp .ne 9, 3) := by decide +kernel
theorem dX7_sails_141 : decode cX7_sails 141 = .ok (.aload_n 0, 1) := by decide +kernel
theorem dX7_sails_142 : decode cX7_sails 142 = .ok (.iload_n 1, 1) := by decide +kernel
theorem dX7_sails_143 : decode cX7_sails 143 = .ok (.iload_n 3, 1) := by decide +kernel
theorem dX7_sails_144 : decode cX7_sails 144 = .ok (.invokevirtual 239, 3) := by decide +kernel
theorem dX7_sails_147 : decode cX7_sails 147 = .ok (.iinc 3 1, 3) := by decide +kernel
theorem dX7_sails_150 : decode cX7_sails 150 = .ok (.goto (-41), 3) := by decide +kernel
theorem dX7_sails_153 : decode cX7_sails 153 = .ok (.iinc 2 1, 3) := by decide +kernel
theorem dX7_sails_156 : decode cX7_sails 156 = .ok (.goto (-54), 3) := by decide +kernel
theorem dX7_sails_159 : decode cX7_sails 159 = .ok (.aload_n 0, 1) := by decide +kernel
theorem dX7_sails_160 : decode cX7_sails 160 = .ok (.iload_n 1, 1) := by decide +kernel
theorem dX7_sails_161 : decode cX7_sails 161 = .ok (.iconst 0, 1) := by decide +kernel
theorem dX7_sails_162 : decode cX7_sails 162 = .ok (.iconst 0, 1) := by decide +kernel
theorem dX7_sails_163 : decode cX7_sails 163 = .ok (.invokevirtual 225, 3) := by decide +kernel
theorem dX7_sails_166 : decode cX7_sails 166 = .ok (.bipush 20, 2) := by decide +kernel
theorem dX7_sails_168 : decode cX7_sails 168 = .ok (.if_icmp .le 11, 3) := by decide +kernel
theorem dX7_sails_171 : decode cX7_sails 171 = .ok (.aload_n 0, 1) := by decide +kernel
theorem dX7_sails_172 : decode cX7_sails 172 = .ok (.iload_n 1, 1) := by decide +kernel
theorem dX7_sails_173 : decode cX7_sails 173 = .ok (.invokevirtual 243, 3) := by decide +kernel
theorem dX7_sails_176 : decode cX7_sails 176 = .ok (.goto (-17), 3) := by decide +kernel
theorem dX7_sails_179 : decode cX7_sails 179 = .ok (.return_, 1) := by decide +kernel
theorem dX7_pass_0 : decode cX7_pass 0 = .ok (.aload_n 0, 1) := by decide +kernel
theorem dX7_pass_1 : decode cX7_pass 1 = .ok (.iload_n 1, 1) := by decide +kernel
theorem dX7_pass_2 : decode cX7_pass 2 = .ok (.iconst 1, 1) := by decide +kernel
theorem dX7_pass_3 : decode cX7_pass 3 = .ok (.bipush 48, 2) := by decide +kernel
theorem dX7_pass_5 : decode cX7_pass 5 = .ok (.invokestatic 137, 3) := by decide +kernel
theorem dX7_pass_8 : decode cX7_pass 8 = .ok (.ifCond .ne 7, 3) := by decide +kernel
theorem dX7_pass_11 : decode cX7_pass 11 = .ok (.iconst 1, 1) := by decide +kernel
theorem dX7_pass_12 : decode cX7_pass 12 = .ok (.goto 20, 3) := by decide +kernel
theorem dX7_pass_15 : decode cX7_pass 15 = .ok (.aload_n 0, 1) := by decide +kernel
theorem dX7_pass_16 : decode cX7_pass 16 = .ok (.getfield 180, 3) := by decide +kernel
theorem dX7_pass_19 : decode cX7_pass 19 = .ok (.iload_n 1, 1) := by decide +kernel
theorem dX7_pass_20 : decode cX7_pass 20 = .ok (.iadd, 1) := by decide +kernel
theorem dX7_pass_21 : decode cX7_pass 21 = .ok (.sipush 9000, 3) := by decide +kernel
theorem dX7_pass_24 : decode cX7_pass 24 = .ok (.if_icmp .le 7, 3) := by decide +kernel
theorem dX7_pass_27 : decode cX7_pass 27 = .ok (.iconst 2, 1) := by decide +kernel
theorem dX7_pass_28 : decode cX7_pass 28 = .ok (.goto 4, 3) := by decide +kernel
theorem dX7_pass_31 : decode cX7_pass 31 = .ok (.iconst 0, 1) := by decide +kernel
theorem dX7_pass_32 : decode cX7_pass 32 = .ok (.putfield 133, 3) := by decide +kernel
theorem dX7_pass_35 : decode cX7_pass 35 = .ok (.aload_n 0, 1) := by decide +kernel
theorem dX7_pass_36 : decode cX7_pass 36 = .ok (.getfield 133, 3) := by decide +kernel
theorem dX7_pass_39 : decode cX7_pass 39 = .ok (.ifCond .le 5, 3) := by decide +kernel
theorem dX7_pass_42 : decode cX7_pass 42 = .ok (.iconst 0, 1) := by decide +kernel
theorem dX7_pass_43 : decode cX7_pass 43 = .ok (.ireturn, 1) := by decide +kernel
theorem dX7_pass_44 : decode cX7_pass 44 = .ok (.iconst 0, 1) := by decide +kernel
theorem dX7_pass_45 : decode cX7_pass 45 = .ok (.istore_n 2, 1) := by decide +kernel
theorem dX7_pass_46 : decode cX7_pass 46 = .ok (.iload_n 2, 1) := by decide +kernel
theorem dX7_pass_47 : decode cX7_pass 47 = .ok (.iload_n 1, 1) := by decide +kernel
theorem dX7_pass_48 : decode cX7_pass 48 = .ok (.if_icmp .ge 98, 3) := by decide +kernel
theorem dX7_pass_51 : decode cX7_pass 51 = .ok (.iconst 0, 1) := by decide +kernel
theorem dX7_pass_52 : decode cX7_pass 52 = .ok (.istore_n 3, 1) := by decide +kernel
theorem dX7_pass_53 : decode cX7_pass 53 = .ok (.iload_n 3, 1) := by decide +kernel
theorem dX7_pass_54 : decode cX7_pass 54 = .ok (.aload_n 0, 1) := by decide +kernel
theorem dX7_pass_55 : decode cX7_pass 55 = .ok (.getfield 144, 3) := by decide +kernel
theorem dX7_pass_58 : decode cX7_pass 58 = .ok (.if_icmp .ge 72, 3) := by decide +kernel
theorem dX7_pass_61 : decode cX7_pass 61 = .ok (.aload_n 0, 1) := by decide +kernel
theorem dX7_pass_62 : decode cX7_pass 62 = .ok (.getfield 73, 3) := by decide +kernel
theorem dX7_pass_65 : decode cX7_pass 65 = .ok (.iload_n 3, 1) := by decide +kernel
theorem dX7_pass_66 : decode cX7_pass 66 = .ok (.iaload, 1) := by decide +kernel
theorem dX7_pass_67 : decode cX7_pass 67 = .ok (.ifCond .ne 57, 3) := by decide +kernel
theorem dX7_pass_70 : decode cX7_pass 70 = .ok (.aload_n 0, 1) := by decide +kernel
theorem dX7_pass_71 : decode cX7_pass 71 = .ok (.getfield 67, 3) := by decide +kernel
theorem dX7_pass_74 : decode cX7_pass 74 = .ok (.iload_n 3, 1) := by decide +kernel
theorem dX7_pass_75 : decode cX7_pass 75 = .ok (.iaload, 1) := by decide +kernel
theorem dX7_pass_76 : decode cX7_pass 76 = .ok (.aload_n 0, 1) := by decide +kernel
theorem dX7_pass_77 : decode cX7_pass 77 = .ok (.getfield 180, 3) := by decide +kernel
theorem dX7_pass_80 : decode cX7_pass 80 = .ok (.if_icmp .ne 44, 3) := by decide +kernel
theorem dX7_pass_83 : decode cX7_pass 83 = .ok (.aload_n 0, 1) := by decide +kernel
theorem dX7_pass_84 : decode cX7_pass 84 = .ok (.iload_n 3, 1) := by decide +kernel
theorem dX7_pass_85 : decode cX7_pass 85 = .ok (.invokevirtual 246, 3) := by decide +kernel
theorem dX7_pass_88 : decode cX7_pass 88 = .ok (.istore 4, 2) := by decide +kernel
theorem dX7_pass_90 : decode cX7_pass 90 = .ok (.aload_n 0, 1) := by decide +kernel
theorem dX7_pass_91 : decode cX7_pass 91 = .ok (.getfield 76, 3) := by decide +kernel
theorem dX7_pass_94 : decode cX7_pass 94 = .ok (.iload_n 3, 1) := by decide +kernel
theorem dX7_pass_95 : decode cX7_pass 95 = .ok (.iload 4, 2) := by decide +kernel
theorem dX7_pass_97 : decode cX7_pass 97 = .ok (.iastore, 1) := by decide +kernel
theorem dX7_pass_98 : decode cX7_pass 98 = .ok (.iload 4, 2) := by decide +kernel
theorem dX7_pass_100 : decode cX7_pass 100 = .ok (.ifCond .le 13, 3) := by decide +kernel
theorem dX7_pass_103 : decode cX7_pass 103 = .ok (.aload_n 0, 1) := by decide +kernel
theorem dX7_pass_104 : decode cX7_pass 104 = .ok (.getfield 73, 3) := by decide +kernel
theorem dX7_pass_107 : decode cX7_pass 107 = .ok (.iload_n 3, 1) := by decide +kernel
theorem dX7_pass_108 : decode cX7_pass 108 = .ok (.iconst 1, 1) := by decide +kernel
theorem dX7_pass_109 : decode cX7_pass 109 = .ok (.iastore, 1) := by decide +kernel
theorem dX7_pass_110 : decode cX7_pass 110 = .ok (.goto 8, 3) := by decide +kernel
theorem dX7_pass_113 : decode cX7_pass 113 = .ok (.aload_n 0, 1) := by decide +kernel
theorem dX7_pass_114 : decode cX7_pass 114 = .ok (.iload_n 3, 1) := by decide +kernel
theorem dX7_pass_115 : decode cX7_pass 115 = .ok (.invokevirtual 249, 3) := by decide +kernel
theorem dX7_pass_118 : decode cX7_pass 118 = .ok (.aload_n 0, 1) := by decide +kernel
theorem dX7_pass_119 : decode cX7_pass 119 = .ok (.iload_n 3, 1) := by decide +kernel
theorem dX7_pass_120 : decode cX7_pass 120 = .ok (.invokevirtual 203, 3) := by decide +kernel
theorem dX7_pass_123 : decode cX7_pass 123 = .ok (.pop, 1) := by decide +kernel
theorem dX7_pass_124 : decode cX7_pass 124 = .ok (.iinc 3 1, 3) := by decide +kernel
theorem dX7_pass_127 : decode cX7_pass 127 = .ok (.goto (-74), 3) := by decide +kernel
theorem dX7_pass_130 : decode cX7_pass 130 = .ok (.aload_n 0, 1) := by decide +kernel
theorem dX7_pass_131 : decode cX7_pass 131 = .ok (.dup, 1) := by decide +kernel
theorem dX7_pass_132 : decode cX7_pass 132 = .ok (.getfield 180, 3) := by decide +kernel
theorem dX7_pass_135 : decode cX7_pass 135 = .ok (.iconst 1, 1) := by decide +kernel
theorem dX7_pass_136 : decode cX7_pass 136 = .ok (.iadd, 1) := by decide +kernel
theorem dX7_pass_137 : decode cX7_pass 137 = .ok (.putfield 180, 3) := by decide +kernel
theorem dX7_pass_140 : decode cX7_pass 140 = .ok (.iinc 2 1, 3) := by decide +kernel
theorem dX7_pass_143 : decode cX7_pass 143 = .ok (.goto (-97), 3) := by decide +kernel
theorem dX7_pass_146 : decode cX7_pass 146 = .ok (.aload_n 0, 1) := by decide +kernel
theorem dX7_pass_147 : decode cX7_pass 147 = .ok (.getfield 180, 3) := by decide +kernel
theorem dX7_pass_150 : decode cX7_pass 150 = .ok (.ireturn, 1) := by decide +kernel
theorem dX7_now_0 : decode cX7_now 0 = .ok (.aload_n 0, 1) := by decide +kernel
theorem dX7_now_1 : decode cX7_now 1 = .ok (.iconst 0, 1) := by decide +kernel
theorem dX7_now_2 : decode cX7_now 2 = .ok (.putfield 133, 3) := by decide +kernel
theorem dX7_now_5 : decode cX7_now 5 = .ok (.aload_n 0, 1) := by decide +kernel
theorem dX7_now_6 : decode cX7_now 6 = .ok (.getfield 180, 3) := by decide +kernel
theorem dX7_now_9 : decode cX7_now 9 = .ok (.ireturn, 1) := by decide +kernel
theorem dX7_state_0 : decode cX7_state 0 = .ok (.aload_n 0, 1) := by decide +kernel
theorem dX7_state_1 : decode cX7_state 1 = .ok (.iload_n 1, 1) := by decide +kernel
theorem dX7_state_2 : decode cX7_state 2 = .ok (.invokevirtual 200, 3) := by decide +kernel
theorem dX7_state_5 : decode cX7_state 5 = .ok (.ifCond .ne 7, 3) := by decide +kernel
theorem dX7_state_8 : decode cX7_state 8 = .ok (.iconst 0, 1) := by decide +kernel
theorem dX7_state_9 : decode cX7_state 9 = .ok (.goto 33, 3) := by decide +kernel
theorem dX7_state_12 : decode cX7_state 12 = .ok (.aload_n 0, 1) := by decide +kernel
theorem dX7_state_13 : decode cX7_state 13 = .ok (.getfield 73, 3) := by decide +kernel
theorem dX7_state_16 : decode cX7_state 16 = .ok (.iload_n 1, 1) := by decide +kernel
theorem dX7_state_17 : decode cX7_state 17 = .ok (.iaload, 1) := by decide +kernel
theorem dX7_state_18 : decode cX7_state 18 = .ok (.iconst 1, 1) := by decide +kernel
theorem dX7_state_19 : decode cX7_state 19 = .ok (.if_icmp .ne 17, 3) := by decide +kernel
theorem dX7_state_22 : decode cX7_state 22 = .ok (.iconst 1, 1) := by decide +kernel
theorem dX7_state_23 : decode cX7_state 23 = .ok (.bipush 10, 2) := by decide +kernel
theorem dX7_state_25 : decode cX7_state 25 = .ok (.aload_n 0, 1) := by decide +kernel
theorem dX7_state_26 : decode cX7_state 26 = .ok (.getfield 76, 3) := by decide +kernel
theorem dX7_state_29 : decode cX7_state 29 = .ok (.iload_n 1, 1) := by decide +kernel
theorem dX7_state_30 : decode cX7_state 30 = .ok (.iaload, 1) := by decide +kernel
theorem dX7_state_31 : decode cX7_state 31 = .ok (.imul, 1) := by decide +kernel
theorem dX7_state_32 : decode cX7_state 32 = .ok (.iadd, 1) := by decide +kernel
theorem dX7_state_33 : decode cX7_state 33 = .ok (.goto 9, 3) := by decide +kernel
theorem dX7_state_36 : decode cX7_state 36 = .ok (.aload_n 0, 1) := by decide +kernel
theorem dX7_state_37 : decode cX7_state 37 = .ok (.getfield 73, 3) := by decide +kernel
theorem dX7_state_40 : decode cX7_state 40 = .ok (.iload_n 1, 1) := by decide +kernel
theorem dX7_state_41 : decode cX7_state 41 = .ok (.iaload, 1) := by decide +kernel
theorem dX7_state_42 : decode cX7_state 42 = .ok (.ireturn, 1) := by decide +kernel
theorem dX7_ends_0 : decode cX7_ends 0 = .ok (.aload_n 0, 1) := by decide +kernel
theorem dX7_ends_1 : decode cX7_ends 1 = .ok (.iload_n 1, 1) := by decide +kernel
theorem dX7_ends_2 : decode cX7_ends 2 = .ok (.invokevirtual 200, 3) := by decide +kernel
theorem dX7_ends_5 : decode cX7_ends 5 = .ok (.ifCond .eq 11, 3) := by decide +kernel
theorem dX7_ends_8 : decode cX7_ends 8 = .ok (.aload_n 0, 1) := by decide +kernel
theorem dX7_ends_9 : decode cX7_ends 9 = .ok (.iload_n 1, 1) := by decide +kernel
theorem dX7_ends_10 : decode cX7_ends 10 = .ok (.invokevirtual 174, 3) := by decide +kernel
theorem dX7_ends_13 : decode cX7_ends 13 = .ok (.goto 4, 3) := by decide +kernel
theorem dX7_ends_16 : decode cX7_ends 16 = .ok (.iconst 0, 1) := by decide +kernel
theorem dX7_ends_17 : decode cX7_ends 17 = .ok (.ireturn, 1) := by decide +kernel
theorem dX7_busAfter_0 : decode cX7_busAfter 0 = .ok (.aload_n 0, 1) := by decide +kernel
theorem dX7_busAfter_1 : decode cX7_busAfter 1 = .ok (.iload_n 1, 1) := by decide +kernel
theorem dX7_busAfter_2 : decode cX7_busAfter 2 = .ok (.invokevirtual 200, 3) := by decide +kernel
theorem dX7_busAfter_5 : decode cX7_busAfter 5 = .ok (.ifCond .ne 5, 3) := by decide +kernel
theorem dX7_busAfter_8 : decode cX7_busAfter 8 = .ok (.iconst 0, 1) := by decide +kernel
theorem dX7_busAfter_9 : decode cX7_busAfter 9 = .ok (.ireturn, 1) := by decide +kernel
theorem dX7_busAfter_10 : decode cX7_busAfter 10 = .ok (.aload_n 0, 1) := by decide +kernel
theorem dX7_busAfter_11 : decode cX7_busAfter 11 = .ok (.getfield 49, 3) := by decide +kernel
theorem dX7_busAfter_14 : decode cX7_busAfter 14 = .ok (.aload_n 0, 1) := by decide +kernel
theorem dX7_busAfter_15 : decode cX7_busAfter 15 = .ok (.getfield 64, 3) := by decide +kernel
theorem dX7_busAfter_18 : decode cX7_busAfter 18 = .ok (.iload_n 1, 1) := by decide +kernel
theorem dX7_busAfter_19 : decode cX7_busAfter 19 = .ok (.iaload, 1) := by decide +kernel
theorem dX7_busAfter_20 : decode cX7_busAfter 20 = .ok (.iaload, 1) := by decide +kernel
theorem dX7_busAfter_21 : decode cX7_busAfter 21 = .ok (.istore_n 2, 1) := by decide +kernel
theorem dX7_busAfter_22 : decode cX7_busAfter 22 = .ok (.aload_n 0, 1) := by decide +kernel
theorem dX7_busAfter_23 : decode cX7_busAfter 23 = .ok (.getfield 73, 3) := by decide +kernel
theorem dX7_busAfter_26 : decode cX7_busAfter 26 = .ok (.iload_n 1, 1) := by decide +kernel
theorem dX7_busAfter_27 : decode cX7_busAfter 27 = .ok (.iaload, 1) := by decide +kernel
theorem dX7_busAfter_28 : decode cX7_busAfter 28 = .ok (.iconst 2, 1) := by decide +kernel
theorem dX7_busAfter_29 : decode cX7_busAfter 29 = .ok (.if_icmp .ne 7, 3) := by decide +kernel
theorem dX7_busAfter_32 : decode cX7_busAfter 32 = .ok (.iload_n 2, 1) := by decide +kernel
theorem dX7_busAfter_33 : decode cX7_busAfter 33 = .ok (.ifCond .ne 5, 3) := by decide +kernel
theorem dX7_busAfter_36 : decode cX7_busAfter 36 = .ok (.iconst (-1), 1) := by decide +kernel
theorem dX7_busAfter_37 : decode cX7_busAfter 37 = .ok (.ireturn, 1) := by decide +kernel
theorem dX7_busAfter_38 : decode cX7_busAfter 38 = .ok (.aload_n 0, 1) := by decide +kernel
theorem dX7_busAfter_39 : decode cX7_busAfter 39 = .ok (.getfield 52, 3) := by decide +kernel
theorem dX7_busAfter_42 : decode cX7_busAfter 42 = .ok (.aload_n 0, 1) := by decide +kernel
theorem dX7_busAfter_43 : decode cX7_busAfter 43 = .ok (.getfield 64, 3) := by decide +kernel
theorem dX7_busAfter_46 : decode cX7_busAfter 46 = .ok (.iload_n 1, 1) := by decide +kernel
theorem dX7_busAfter_47 : decode cX7_busAfter 47 = .ok (.iaload, 1) := by decide +kernel
theorem dX7_busAfter_48 : decode cX7_busAfter 48 = .ok (.iaload, 1) := by decide +kernel
theorem dX7_busAfter_49 : decode cX7_busAfter 49 = .ok (.aload_n 0, 1) := by decide +kernel
theorem dX7_busAfter_50 : decode cX7_busAfter 50 = .ok (.iload_n 1, 1) := by decide +kernel
theorem dX7_busAfter_51 : decode cX7_busAfter 51 = .ok (.invokevirtual 174, 3) := by decide +kernel
theorem dX7_busAfter_54 : decode cX7_busAfter 54 = .ok (.iload_n 2, 1) := by decide +kernel
theorem dX7_busAfter_55 : decode cX7_busAfter 55 = .ok (.irem, 1) := by decide +kernel
theorem dX7_busAfter_56 : decode cX7_busAfter 56 = .ok (.isub, 1) := by decide +kernel
theorem dX7_busAfter_57 : decode cX7_busAfter 57 = .ok (.iload_n 2, 1) := by decide +kernel
theorem dX7_busAfter_58 : decode cX7_busAfter 58 = .ok (.iadd, 1) := by decide +kernel
theorem dX7_busAfter_59 : decode cX7_busAfter 59 = .ok (.iload_n 2, 1) := by decide +kernel
theorem dX7_busAfter_60 : decode cX7_busAfter 60 = .ok (.irem, 1) := by decide +kernel
theorem dX7_busAfter_61 : decode cX7_busAfter 61 = .ok (.ireturn, 1) := by decide +kernel
theorem dX7_place_0 : decode cX7_place 0 = .ok (.aload_n 0, 1) := by decide +kernel
theorem dX7_place_1 : decode cX7_place 1 = .ok (.aload_n 0, 1) := by decide +kernel
theorem dX7_place_2 : decode cX7_place 2 = .ok (.iload_n 1, 1) := by decide +kernel
theorem dX7_place_3 : decode cX7_place 3 = .ok (.invokevirtual 154, 3) := by decide +kernel
theorem dX7_place_6 : decode cX7_place 6 = .ok (.ifCond .eq 7, 3) := by decide +kernel
theorem dX7_place_9 : decode cX7_place 9 = .ok (.iconst 0, 1) := by decide +kernel
theorem dX7_place_10 : decode cX7_place 10 = .ok (.goto 4, 3) := by decide +kernel
theorem dX7_place_13 : decode cX7_place 13 = .ok (.iconst 1, 1) := by decide +kernel
theorem dX7_place_14 : decode cX7_place 14 = .ok (.putfield 133, 3) := by decide +kernel
theorem dX7_place_17 : decode cX7_place 17 = .ok (.aload_n 0, 1) := by decide +kernel
theorem dX7_place_18 : decode cX7_place 18 = .ok (.getfield 133, 3) := by decide +kernel
theorem dX7_place_21 : decode cX7_place 21 = .ok (.ifCond .ne 15, 3) := by decide +kernel
theorem dX7_place_24 : decode cX7_place 24 = .ok (.aload_n 0, 1) := by decide +kernel
theorem dX7_place_25 : decode cX7_place 25 = .ok (.iload_n 1, 1) := by decide +kernel
theorem dX7_place_26 : decode cX7_place 26 = .ok (.aload_n 0, 1) := by decide +kernel
theorem dX7_place_27 : decode cX7_place 27 = .ok (.getfield 180, 3) := by decide +kernel
theorem dX7_place_30 : decode cX7_place 30 = .ok (.invokevirtual 183, 3) := by decide +kernel
theorem dX7_place_33 : decode cX7_place 33 = .ok (.goto 4, 3) := by decide +kernel
theorem dX7_place_36 : decode cX7_place 36 = .ok (.iconst 0, 1) := by decide +kernel
theorem dX7_place_37 : decode cX7_place 37 = .ok (.ireturn, 1) := by decide +kernel
theorem dX7_placeByLine_0 : decode cX7_placeByLine 0 = .ok (.aload_n 0, 1) := by decide +kernel
theorem dX7_placeByLine_1 : decode cX7_placeByLine 1 = .ok (.aload_n 0, 1) := by decide +kernel
theorem dX7_placeByLine_2 : decode cX7_placeByLine 2 = .ok (.iload_n 1, 1) := by decide +kernel
theorem dX7_placeByLine_3 : decode cX7_placeByLine 3 = .ok (.invokevirtual 154, 3) := by decide +kernel
theorem dX7_placeByLine_6 : decode cX7_placeByLine 6 = .ok (.ifCond .ne 7, 3) := by decide +kernel
theorem dX7_placeByLine_9 : decode cX7_placeByLine 9 = .ok (.iconst 1, 1) := by decide +kernel
theorem dX7_placeByLine_10 : decode cX7_placeByLine 10 = .ok (.goto 20, 3) := by decide +kernel
theorem dX7_placeByLine_13 : decode cX7_placeByLine 13 = .ok (.iload_n 2, 1) := by decide +kernel
theorem dX7_placeByLine_14 : decode cX7_placeByLine 14 = .ok (.iconst 0, 1) := by decide +kernel
theorem dX7_placeByLine_15 : decode cX7_placeByLine 15 = .ok (.aload_n 0, 1) := by decide +kernel
theorem dX7_placeByLine_16 : decode cX7_placeByLine 16 = .ok (.getfield 180, 3) := by decide +kernel
theorem dX7_placeByLine_19 : decode cX7_placeByLine 19 = .ok (.invokestatic 137, 3) := by decide +kernel
theorem dX7_placeByLine_22 : decode cX7_placeByLine 22 = .ok (.ifCond .ne 7, 3) := by decide +kernel
theorem dX7_placeByLine_25 : decode cX7_placeByLine 25 = .ok (.iconst 2, 1) := by decide +kernel
theorem dX7_placeByLine_26 : decode cX7_placeByLine 26 = .ok (.goto 4, 3) := by decide +kernel
theorem dX7_placeByLine_29 : decode cX7_placeByLine 29 = .ok (.iconst 0, 1) := by decide +kernel
theorem dX7_placeByLine_30 : decode cX7_placeByLine 30 = .ok (.putfield 133, 3) := by decide +kernel
theorem dX7_placeByLine_33 : decode cX7_placeByLine 33 = .ok (.aload_n 0, 1) := by decide +kernel
theorem dX7_placeByLine_34 : decode cX7_placeByLine 34 = .ok (.getfield 133, 3) := by decide +kernel
theorem dX7_placeByLine_37 : decode cX7_placeByLine 37 = .ok (.ifCond .ne 12, 3) := by decide +kernel
theorem dX7_placeByLine_40 : decode cX7_placeByLine 40 = .ok (.aload_n 0, 1) := by decide +kernel
theorem dX7_placeByLine_41 : decode cX7_placeByLine 41 = .ok (.iload_n 1, 1) := by decide +kernel
theorem dX7_placeByLine_42 : decode cX7_placeByLine 42 = .ok (.iload_n 2, 1) := by decide +kernel
theorem dX7_placeByLine_43 : decode cX7_placeByLine 43 = .ok (.invokevirtual 183, 3) := by decide +kernel
theorem dX7_placeByLine_46 : decode cX7_placeByLine 46 = .ok (.goto 4, 3) := by decide +kernel
theorem dX7_placeByLine_49 : decode cX7_placeByLine 49 = .ok (.iconst 0, 1) := by decide +kernel
theorem dX7_placeByLine_50 : decode cX7_placeByLine 50 = .ok (.ireturn, 1) := by decide +kernel
theorem dX7_fuel_0 : decode cX7_fuel 0 = .ok (.aload_n 0, 1) := by decide +kernel
theorem dX7_fuel_1 : decode cX7_fuel 1 = .ok (.aload_n 0, 1) := by decide +kernel
theorem dX7_fuel_2 : decode cX7_fuel 2 = .ok (.iload_n 1, 1) := by decide +kernel
theorem dX7_fuel_3 : decode cX7_fuel 3 = .ok (.invokevirtual 154, 3) := by decide +kernel
theorem dX7_fuel_6 : decode cX7_fuel 6 = .ok (.ifCond .eq 7, 3) := by decide +kernel
theorem dX7_fuel_9 : decode cX7_fuel 9 = .ok (.iconst 0, 1) := by decide +kernel
theorem dX7_fuel_10 : decode cX7_fuel 10 = .ok (.goto 4, 3) := by decide +kernel
theorem dX7_fuel_13 : decode cX7_fuel 13 = .ok (.iconst 1, 1) := by decide +kernel
theorem dX7_fuel_14 : decode cX7_fuel 14 = .ok (.putfield 133, 3) := by decide +kernel
theorem dX7_fuel_17 : decode cX7_fuel 17 = .ok (.aload_n 0, 1) := by decide +kernel
theorem dX7_fuel_18 : decode cX7_fuel 18 = .ok (.getfield 133, 3) := by decide +kernel
theorem dX7_fuel_21 : decode cX7_fuel 21 = .ok (.ifCond .ne 12, 3) := by decide +kernel
theorem dX7_fuel_24 : decode cX7_fuel 24 = .ok (.aload_n 0, 1) := by decide +kernel
theorem dX7_fuel_25 : decode cX7_fuel 25 = .ok (.getfield 28, 3) := by decide +kernel
theorem dX7_fuel_28 : decode cX7_fuel 28 = .ok (.iload_n 1, 1) := by decide +kernel
theorem dX7_fuel_29 : decode cX7_fuel 29 = .ok (.iaload, 1) := by decide +kernel
theorem dX7_fuel_30 : decode cX7_fuel 30 = .ok (.goto 4, 3) := by decide +kernel
theorem dX7_fuel_33 : decode cX7_fuel 33 = .ok (.iconst 0, 1) := by decide +kernel
theorem dX7_fuel_34 : decode cX7_fuel 34 = .ok (.ireturn, 1) := by decide +kernel
theorem dX7_book_0 : decode cX7_book 0 = .ok (.aload_n 0, 1) := by decide +kernel
theorem dX7_book_1 : decode cX7_book 1 = .ok (.iload_n 1, 1) := by decide +kernel
theorem dX7_book_2 : decode cX7_book 2 = .ok (.iconst 0, 1) := by decide +kernel
theorem dX7_book_3 : decode cX7_book 3 = .ok (.bipush 9, 2) := by decide +kernel
theorem dX7_book_5 : decode cX7_book 5 = .ok (.invokestatic 137, 3) := by decide +kernel
theorem dX7_book_8 : decode cX7_book 8 = .ok (.ifCond .eq 17, 3) := by decide +kernel
theorem dX7_book_11 : decode cX7_book 11 = .ok (.iload_n 2, 1) := by decide +kernel
theorem dX7_book_12 : decode cX7_book 12 = .ok (.iconst 0, 1) := by decide +kernel
theorem dX7_book_13 : decode cX7_book 13 = .ok (.aload_n 0, 1) := by decide +kernel
theorem dX7_book_14 : decode cX7_book 14 = .ok (.getfield 144, 3) := by decide +kernel
theorem dX7_book_17 : decode cX7_book 17 = .ok (.iconst 1, 1) := by decide +kernel
theorem dX7_book_18 : decode cX7_book 18 = .ok (.isub, 1) := by decide +kernel
theorem dX7_book_19 : decode cX7_book 19 = .ok (.invokestatic 137, 3) := by decide +kernel
theorem dX7_book_22 : decode cX7_book 22 = .ok (.ifCond .ne 7, 3) := by decide +kernel
theorem dX7_book_25 : decode cX7_book 25 = .ok (.iconst 1, 1) := by decide +kernel
theorem dX7_book_26 : decode cX7_book 26 = .ok (.goto 4, 3) := by decide +kernel
theorem dX7_book_29 : decode cX7_book 29 = .ok (.iconst 0, 1) := by decide +kernel
theorem dX7_book_30 : decode cX7_book 30 = .ok (.putfield 133, 3) := by decide +kernel
theorem dX7_book_33 : decode cX7_book 33 = .ok (.aload_n 0, 1) := by decide +kernel
theorem dX7_book_34 : decode cX7_book 34 = .ok (.getfield 133, 3) := by decide +kernel
theorem dX7_book_37 : decode cX7_book 37 = .ok (.ifCond .ne 105, 3) := by decide +kernel
theorem dX7_book_40 : decode cX7_book 40 = .ok (.iload_n 3, 1) := by decide +kernel
theorem dX7_book_41 : decode cX7_book 41 = .ok (.ifCond .ne 26, 3) := by decide +kernel
theorem dX7_book_44 : decode cX7_book 44 = .ok (.iload 4, 2) := by decide +kernel
theorem dX7_book_46 : decode cX7_book 46 = .ok (.ifCond .ne 17, 3) := by decide +kernel
theorem dX7_book_49 : decode cX7_book 49 = .ok (.iload 5, 2) := by decide +kernel
theorem dX7_book_51 : decode cX7_book 51 = .ok (.ifCond .ne 12, 3) := by decide +kernel
theorem dX7_book_54 : decode cX7_book 54 = .ok (.iload 6, 2) := by decide +kernel
theorem dX7_book_56 : decode cX7_book 56 = .ok (.ifCond .ne 7, 3) := by decide +kernel
theorem dX7_book_59 : decode cX7_book 59 = .ok (.iconst 1, 1) := by decide +kernel
theorem dX7_book_60 : decode cX7_book 60 = .ok (.goto 35, 3) := by decide +kernel
theorem dX7_book_63 : decode cX7_book 63 = .ok (.iconst 0, 1) := by decide +kernel
theorem dX7_book_64 : decode cX7_book 64 = .ok (.goto 31, 3) := by decide +kernel
theorem dX7_book_67 : decode cX7_book 67 = .ok (.iload 4, 2) := by decide +kernel
theorem dX7_book_69 : decode cX7_book 69 = .ok (.iconst 1, 1) := by decide +kernel
theorem dX7_book_70 : decode cX7_book 70 = .ok (.bipush 40, 2) := by decide +kernel
theorem dX7_book_72 : decode cX7_book 72 = .ok (.invokestatic 137, 3) := by decide +kernel
theorem dX7_book_75 : decode cX7_book 75 = .ok (.ifCond .eq 19, 3) := by decide +kernel
theorem dX7_book_78 : decode cX7_book 78 = .ok (.iload 5, 2) := by decide +kernel
theorem dX7_book_80 : decode cX7_book 80 = .ok (.iconst 1, 1) := by decide +kernel
theorem dX7_book_81 : decode cX7_book 81 = .ok (.sipush 200, 3) := by decide +kernel
theorem dX7_book_84 : decode cX7_book 84 = .ok (.invokestatic 137, 3) := by decide +kernel
theorem dX7_book_87 : decode cX7_book 87 = .ok (.ifCond .eq 7, 3) := by decide +kernel
theorem dX7_book_90 : decode cX7_book 90 = .ok (.iconst 1, 1) := by decide +kernel
theorem dX7_book_91 : decode cX7_book 91 = .ok (.goto 4, 3) := by decide +kernel
theorem dX7_book_94 : decode cX7_book 94 = .ok (.iconst 0, 1) := by decide +kernel
theorem dX7_book_95 : decode cX7_book 95 = .ok (.istore 7, 2) := by decide +kernel
theorem dX7_book_97 : decode cX7_book 97 = .ok (.aload_n 0, 1) := by decide +kernel
theorem dX7_book_98 : decode cX7_book 98 = .ok (.iload_n 3, 1) := by decide +kernel
theorem dX7_book_99 : decode cX7_book 99 = .ok (.iconst 0, 1) := by decide +kernel
theorem dX7_book_100 : decode cX7_book 100 = .ok (.iconst 3, 1) := by decide +kernel
theorem dX7_book_101 : decode cX7_book 101 = .ok (.invokestatic 137, 3) := by decide +kernel
theorem dX7_book_104 : decode cX7_book 104 = .ok (.ifCond .eq 8, 3) := by decide +kernel
theorem dX7_book_107 : decode cX7_book 107 = .ok (.iload 7, 2) := by decide +kernel
theorem dX7_book_109 : decode cX7_book 109 = .ok (.ifCond .ne 7, 3) := by decide +kernel
theorem dX7_book_112 : decode cX7_book 112 = .ok (.iconst 2, 1) := by decide +kernel
theorem dX7_book_113 : decode cX7_book 113 = .ok (.goto 26, 3) := by decide +kernel
theorem dX7_book_116 : decode cX7_book 116 = .ok (.aload_n 0, 1) := by decide +kernel
theorem dX7_book_117 : decode cX7_book 117 = .ok (.getfield 73, 3) := by decide +kernel
theorem dX7_book_120 : decode cX7_book 120 = .ok (.iload_n 2, 1) := by decide +kernel
theorem dX7_book_121 : decode cX7_book 121 = .ok (.iaload, 1) := by decide +kernel
theorem dX7_book_122 : decode cX7_book 122 = .ok (.ifCond .ne 12, 3) := by decide +kernel
theorem dX7_book_125 : decode cX7_book 125 = .ok (.aload_n 0, 1) := by decide +kernel
theorem dX7_book_126 : decode cX7_book 126 = .ok (.getfield 147, 3) := by decide +kernel
theorem dX7_book_129 : decode cX7_book 129 = .ok (.bipush 40, 2) := by decide +kernel
theorem dX7_book_131 : decode cX7_book 131 = .ok (.if_icmp .ne 7, 3) := by decide +kernel
theorem dX7_book_134 : decode cX7_book 134 = .ok (.iconst 3, 1) := by decide +kernel
theorem dX7_book_135 : decode cX7_book 135 = .ok (.goto 4, 3) := by decide +kernel
theorem dX7_book_138 : decode cX7_book 138 = .ok (.iconst 0, 1) := by decide +kernel
theorem dX7_book_139 : decode cX7_book 139 = .ok (.putfield 133, 3) := by decide +kernel
theorem dX7_book_142 : decode cX7_book 142 = .ok (.aload_n 0, 1) := by decide +kernel
theorem dX7_book_143 : decode cX7_book 143 = .ok (.getfield 133, 3) := by decide +kernel
theorem dX7_book_146 : decode cX7_book 146 = .ok (.ifCond .le 5, 3) := by decide +kernel
theorem dX7_book_149 : decode cX7_book 149 = .ok (.iconst 0, 1) := by decide +kernel
theorem dX7_book_150 : decode cX7_book 150 = .ok (.ireturn, 1) := by decide +kernel
theorem dX7_book_151 : decode cX7_book 151 = .ok (.iload_n 3, 1) := by decide +kernel
theorem dX7_book_152 : decode cX7_book 152 = .ok (.ifCond .ne 7, 3) := by decide +kernel
theorem dX7_book_155 : decode cX7_book 155 = .ok (.iconst 2, 1) := by decide +kernel
theorem dX7_book_156 : decode cX7_book 156 = .ok (.goto 24, 3) := by decide +kernel
theorem dX7_book_159 : decode cX7_book 159 = .ok (.iload_n 3, 1) := by decide +kernel
theorem dX7_book_160 : decode cX7_book 160 = .ok (.iconst 1, 1) := by decide +kernel
theorem dX7_book_161 : decode cX7_book 161 = .ok (.if_icmp .ne 7, 3) := by decide +kernel
theorem dX7_book_164 : decode cX7_book 164 = .ok (.iconst 5, 1) := by decide +kernel
theorem dX7_book_165 : decode cX7_book 165 = .ok (.goto 15, 3) := by decide +kernel
theorem dX7_book_168 : decode cX7_book 168 = .ok (.iload_n 3, 1) := by decide +kernel
theorem dX7_book_169 : decode cX7_book 169 = .ok (.iconst 2, 1) := by decide +kernel
theorem dX7_book_170 : decode cX7_book 170 = .ok (.if_icmp .ne 8, 3) := by decide +kernel
theorem dX7_book_173 : decode cX7_book 173 = .ok (.bipush 8, 2) := by decide +kernel
theorem dX7_book_175 : decode cX7_book 175 = .ok (.goto 5, 3) := by decide +kernel
theorem dX7_book_178 : decode cX7_book 178 = .ok (.bipush 20, 2) := by decide +kernel
theorem dX7_book_180 : decode cX7_book 180 = .ok (.aload_n 0, 1) := by decide +kernel
theorem dX7_book_181 : decode cX7_book 181 = .ok (.getfield 70, 3) := by decide +kernel
theorem dX7_book_184 : decode cX7_book 184 = .ok (.iload_n 2, 1) := by decide +kernel
theorem dX7_book_185 : decode cX7_book 185 = .ok (.iaload, 1) := by decide +kernel
theorem dX7_book_186 : decode cX7_book 186 = .ok (.imul, 1) := by decide +kernel
theorem dX7_book_187 : decode cX7_book 187 = .ok (.istore 7, 2) := by decide +kernel
theorem dX7_book_189 : decode cX7_book 189 = .ok (.aload_n 0, 1) := by decide +kernel
theorem dX7_book_190 : decode cX7_book 190 = .ok (.getfield 55, 3) := by decide +kernel
theorem dX7_book_193 : decode cX7_book 193 = .ok (.iload_n 1, 1) := by decide +kernel
theorem dX7_book_194 : decode cX7_book 194 = .ok (.iaload, 1) := by decide +kernel
theorem dX7_book_195 : decode cX7_book 195 = .ok (.iconst 1, 1) := by decide +kernel
theorem dX7_book_196 : decode cX7_book 196 = .ok (.isub, 1) := by decide +kernel
theorem dX7_book_197 : decode cX7_book 197 = .ok (.istore 8, 2) := by decide +kernel
theorem dX7_book_199 : decode cX7_book 199 = .ok (.iload 8, 2) := by decide +kernel
theorem dX7_book_201 : decode cX7_book 201 = .ok (.iconst (-1), 1) := by decide +kernel
theorem dX7_book_202 : decode cX7_book 202 = .ok (.if_icmp .eq 29, 3) := by decide +kernel
theorem dX7_book_205 : decode cX7_book 205 = .ok (.iload 8, 2) := by decide +kernel
theorem dX7_book_207 : decode cX7_book 207 = .ok (.aload_n 0, 1) := by decide +kernel
theorem dX7_book_208 : decode cX7_book 208 = .ok (.getfield 61, 3) := by decide +kernel
theorem dX7_book_211 : decode cX7_book 211 = .ok (.iload_n 2, 1) := by decide +kernel
theorem dX7_book_212 : decode cX7_book 212 = .ok (.iaload, 1) := by decide +kernel
theorem dX7_book_213 : decode cX7_book 213 = .ok (.if_icmp .eq 14, 3) := by decide +kernel
theorem dX7_book_216 : decode cX7_book 216 = .ok (.iload 8, 2) := by decide +kernel
theorem dX7_book_218 : decode cX7_book 218 = .ok (.aload_n 0, 1) := by decide +kernel
theorem dX7_book_219 : decode cX7_book 219 = .ok (.getfield 64, 3) := by decide +kernel
theorem dX7_book_222 : decode cX7_book 222 = .ok (.iload_n 2, 1) := by decide +kernel
theorem dX7_book_223 : decode cX7_book 223 = .ok (.iaload, 1) := by decide +kernel
theorem dX7_book_224 : decode cX7_book 224 = .ok (.if_icmp .ne 7, 3) := by decide +kernel
theorem dX7_book_227 : decode cX7_book 227 = .ok (.iconst 1, 1) := by decide +kernel
theorem dX7_book_228 : decode cX7_book 228 = .ok (.goto 4, 3) := by decide +kernel
theorem dX7_book_231 : decode cX7_book 231 = .ok (.iconst 0, 1) := by decide +kernel
theorem dX7_book_232 : decode cX7_book 232 = .ok (.istore 9, 2) := by decide +kernel
theorem dX7_book_234 : decode cX7_book 234 = .ok (.aload_n 0, 1) := by decide +kernel
theorem dX7_book_235 : decode cX7_book 235 = .ok (.getfield 88, 3) := by decide +kernel
theorem dX7_book_238 : decode cX7_book 238 = .ok (.aload_n 0, 1) := by decide +kernel
theorem dX7_book_239 : decode cX7_book 239 = .ok (.getfield 147, 3) := by decide +kernel
theorem dX7_book_242 : decode cX7_book 242 = .ok (.iload_n 1, 1) := by decide +kernel
theorem dX7_book_243 : decode cX7_book 243 = .ok (.iastore, 1) := by decide +kernel
theorem dX7_book_244 : decode cX7_book 244 = .ok (.aload_n 0, 1) := by decide +kernel
theorem dX7_book_245 : decode cX7_book 245 = .ok (.getfield 91, 3) := by decide +kernel
theorem dX7_book_248 : decode cX7_book 248 = .ok (.aload_n 0, 1) := by decide +kernel
theorem dX7_book_249 : decode cX7_book 249 = .ok (.getfield 147, 3) := by decide +kernel
theorem dX7_book_252 : decode cX7_book 252 = .ok (.iload_n 2, 1) := by decide +kernel
theorem dX7_book_253 : decode cX7_book 253 = .ok (.iconst 1, 1) := by decide +kernel
theorem dX7_book_254 : decode cX7_book 254 = .ok (.iadd, 1) := by decide +kernel
theorem dX7_book_255 : decode cX7_book 255 = .ok (.iastore, 1) := by decide +kernel
theorem dX7_book_256 : decode cX7_book 256 = .ok (.aload_n 0, 1) := by decide +kernel
theorem dX7_book_257 : decode cX7_book 257 = .ok (.getfield 94, 3) := by decide +kernel
theorem dX7_book_260 : decode cX7_book 260 = .ok (.aload_n 0, 1) := by decide +kernel
theorem dX7_book_261 : decode cX7_book 261 = .ok (.getfield 147, 3) := by decide +kernel
theorem dX7_book_264 : decode cX7_book 264 = .ok (.iload_n 3, 1) := by decide +kernel
theorem dX7_book_265 : decode cX7_book 265 = .ok (.iastore, 1) := by decide +kernel
theorem dX7_book_266 : decode cX7_book 266 = .ok (.aload_n 0, 1) := by decide +kernel
theorem dX7_book_267 : decode cX7_book 267 = .ok (.getfield 97, 3) := by decide +kernel
theorem dX7_book_270 : decode cX7_book 270 = .ok (.aload_n 0, 1) := by decide +kernel
theorem dX7_book_271 : decode cX7_book 271 = .ok (.getfield 147, 3) := by decide +kernel
theorem dX7_book_274 : decode cX7_book 274 = .ok (.iload 4, 2) := by decide +kernel
theorem dX7_book_276 : decode cX7_book 276 = .ok (.iastore, 1) := by decide +kernel
theorem dX7_book_277 : decode cX7_book 277 = .ok (.aload_n 0, 1) := by decide +kernel
theorem dX7_book_278 : decode cX7_book 278 = .ok (.getfield 100, 3) := by decide +kernel
theorem dX7_book_281 : decode cX7_book 281 = .ok (.aload_n 0, 1) := by decide +kernel
theorem dX7_book_282 : decode cX7_book 282 = .ok (.getfield 147, 3) := by decide +kernel
theorem dX7_book_285 : decode cX7_book 285 = .ok (.iload 5, 2) := by decide +kernel
theorem dX7_book_287 : decode cX7_book 287 = .ok (.iastore, 1) := by decide +kernel
theorem dX7_book_288 : decode cX7_book 288 = .ok (.aload_n 0, 1) := by decide +kernel
theorem dX7_book_289 : decode cX7_book 289 = .ok (.getfield 103, 3) := by decide +kernel
theorem dX7_book_292 : decode cX7_book 292 = .ok (.aload_n 0, 1) := by decide +kernel
theorem dX7_book_293 : decode cX7_book 293 = .ok (.getfield 147, 3) := by decide +kernel
theorem dX7_book_296 : decode cX7_book 296 = .ok (.iload 6, 2) := by decide +kernel
theorem dX7_book_298 : decode cX7_book 298 = .ok (.ifCond .eq 7, 3) := by decide +kernel
theorem dX7_book_301 : decode cX7_book 301 = .ok (.iconst 1, 1) := by decide +kernel
theorem dX7_book_302 : decode cX7_book 302 = .ok (.goto 4, 3) := by decide +kernel
theorem dX7_book_305 : decode cX7_book 305 = .ok (.iconst 0, 1) := by decide +kernel
theorem dX7_book_306 : decode cX7_book 306 = .ok (.iastore, 1) := by decide +kernel
theorem dX7_book_307 : decode cX7_book 307 = .ok (.aload_n 0, 1) := by decide +kernel
theorem dX7_book_308 : decode cX7_book 308 = .ok (.getfield 106, 3) := by decide +kernel
theorem dX7_book_311 : decode cX7_book 311 = .ok (.aload_n 0, 1) := by decide +kernel
theorem dX7_book_312 : decode cX7_book 312 = .ok (.getfield 147, 3) := by decide +kernel
theorem dX7_book_315 : decode cX7_book 315 = .ok (.iload 9, 2) := by decide +kernel
theorem dX7_book_317 : decode cX7_book 317 = .ok (.ifCond .eq 7, 3) := by decide +kernel
theorem dX7_book_320 : decode cX7_book 320 = .ok (.iconst 1, 1) := by decide +kernel
theorem dX7_book_321 : decode cX7_book 321 = .ok (.goto 4, 3) := by decide +kernel
theorem dX7_book_324 : decode cX7_book 324 = .ok (.iconst 0, 1) := by decide +kernel
theorem dX7_book_325 : decode cX7_book 325 = .ok (.iastore, 1) := by decide +kernel
theorem dX7_book_326 : decode cX7_book 326 = .ok (.aload_n 0, 1) := by decide +kernel
theorem dX7_book_327 : decode cX7_book 327 = .ok (.getfield 109, 3) := by decide +kernel
theorem dX7_book_330 : decode cX7_book 330 = .ok (.aload_n 0, 1) := by decide +kernel
theorem dX7_book_331 : decode cX7_book 331 = .ok (.getfield 147, 3) := by decide +kernel
theorem dX7_book_334 : decode cX7_book 334 = .ok (.iload 9, 2) := by decide +kernel
theorem dX7_book_336 : decode cX7_book 336 = .ok (.ifCond .eq 10, 3) := by decide +kernel
theorem dX7_book_339 : decode cX7_book 339 = .ok (.iload 7, 2) := by decide +kernel
theorem dX7_book_341 : decode cX7_book 341 = .ok (.iconst 2, 1) := by decide +kernel
theorem dX7_book_342 : decode cX7_book 342 = .ok (.idiv, 1) := by decide +kernel
theorem dX7_book_343 : decode cX7_book 343 = .ok (.goto 5, 3) := by decide +kernel
theorem dX7_book_346 : decode cX7_book 346 = .ok (.iload 7, 2) := by decide +kernel
theorem dX7_book_348 : decode cX7_book 348 = .ok (.iastore, 1) := by decide +kernel
theorem dX7_book_349 : decode cX7_book 349 = .ok (.aload_n 0, 1) := by decide +kernel
theorem dX7_book_350 : decode cX7_book 350 = .ok (.getfield 112, 3) := by decide +kernel
theorem dX7_book_353 : decode cX7_book 353 = .ok (.aload_n 0, 1) := by decide +kernel
theorem dX7_book_354 : decode cX7_book 354 = .ok (.getfield 147, 3) := by decide +kernel
theorem dX7_book_357 : decode cX7_book 357 = .ok (.iload 7, 2) := by decide +kernel
theorem dX7_book_359 : decode cX7_book 359 = .ok (.aload_n 0, 1) := by decide +kernel
theorem dX7_book_360 : decode cX7_book 360 = .ok (.getfield 109, 3) := by decide +kernel
theorem dX7_book_363 : decode cX7_book 363 = .ok (.aload_n 0, 1) := by decide +kernel
theorem dX7_book_364 : decode cX7_book 364 = .ok (.getfield 147, 3) := by decide +kernel
theorem dX7_book_367 : decode cX7_book 367 = .ok (.iaload, 1) := by decide +kernel
theorem dX7_book_368 : decode cX7_book 368 = .ok (.isub, 1) := by decide +kernel
theorem dX7_book_369 : decode cX7_book 369 = .ok (.iastore, 1) := by decide +kernel
theorem dX7_book_370 : decode cX7_book 370 = .ok (.aload_n 0, 1) := by decide +kernel
theorem dX7_book_371 : decode cX7_book 371 = .ok (.dup, 1) := by decide +kernel
theorem dX7_book_372 : decode cX7_book 372 = .ok (.getfield 190, 3) := by decide +kernel
theorem dX7_book_375 : decode cX7_book 375 = .ok (.aload_n 0, 1) := by decide +kernel
theorem dX7_book_376 : decode cX7_book 376 = .ok (.getfield 109, 3) := by decide +kernel
theorem dX7_book_379 : decode cX7_book 379 = .ok (.aload_n 0, 1) := by decide +kernel
theorem dX7_book_380 : decode cX7_book 380 = .ok (.getfield 147, 3) := by decide +kernel
theorem dX7_book_383 : decode cX7_book 383 = .ok (.iaload, 1) := by decide +kernel
theorem dX7_book_384 : decode cX7_book 384 = .ok (.i2l, 1) := by decide +kernel
theorem dX7_book_385 : decode cX7_book 385 = .ok (.ladd, 1) := by decide +kernel
theorem dX7_book_386 : decode cX7_book 386 = .ok (.putfield 190, 3) := by decide +kernel
theorem dX7_book_389 : decode cX7_book 389 = .ok (.aload_n 0, 1) := by decide +kernel
theorem dX7_book_390 : decode cX7_book 390 = .ok (.dup, 1) := by decide +kernel
theorem dX7_book_391 : decode cX7_book 391 = .ok (.getfield 193, 3) := by decide +kernel
theorem dX7_book_394 : decode cX7_book 394 = .ok (.aload_n 0, 1) := by decide +kernel
theorem dX7_book_395 : decode cX7_book 395 = .ok (.getfield 112, 3) := by decide +kernel
theorem dX7_book_398 : decode cX7_book 398 = .ok (.aload_n 0, 1) := by decide +kernel
theorem dX7_book_399 : decode cX7_book 399 = .ok (.getfield 147, 3) := by decide +kernel
theorem dX7_book_402 : decode cX7_book 402 = .ok (.iaload, 1) := by decide +kernel
theorem dX7_book_403 : decode cX7_book 403 = .ok (.i2l, 1) := by decide +kernel
theorem dX7_book_404 : decode cX7_book 404 = .ok (.ladd, 1) := by decide +kernel
theorem dX7_book_405 : decode cX7_book 405 = .ok (.putfield 193, 3) := by decide +kernel
theorem dX7_book_408 : decode cX7_book 408 = .ok (.aload_n 0, 1) := by decide +kernel
theorem dX7_book_409 : decode cX7_book 409 = .ok (.dup, 1) := by decide +kernel
theorem dX7_book_410 : decode cX7_book 410 = .ok (.getfield 147, 3) := by decide +kernel
theorem dX7_book_413 : decode cX7_book 413 = .ok (.iconst 1, 1) := by decide +kernel
theorem dX7_book_414 : decode cX7_book 414 = .ok (.iadd, 1) := by decide +kernel
theorem dX7_book_415 : decode cX7_book 415 = .ok (.putfield 147, 3) := by decide +kernel
theorem dX7_book_418 : decode cX7_book 418 = .ok (.aload_n 0, 1) := by decide +kernel
theorem dX7_book_419 : decode cX7_book 419 = .ok (.getfield 147, 3) := by decide +kernel
theorem dX7_book_422 : decode cX7_book 422 = .ok (.iconst 1, 1) := by decide +kernel
theorem dX7_book_423 : decode cX7_book 423 = .ok (.isub, 1) := by decide +kernel
theorem dX7_book_424 : decode cX7_book 424 = .ok (.ireturn, 1) := by decide +kernel
theorem dX7_sailingOf_0 : decode cX7_sailingOf 0 = .ok (.aload_n 0, 1) := by decide +kernel
theorem dX7_sailingOf_1 : decode cX7_sailingOf 1 = .ok (.iload_n 1, 1) := by decide +kernel
theorem dX7_sailingOf_2 : decode cX7_sailingOf 2 = .ok (.invokevirtual 252, 3) := by decide +kernel
theorem dX7_sailingOf_5 : decode cX7_sailingOf 5 = .ok (.ifCond .eq 14, 3) := by decide +kernel
theorem dX7_sailingOf_8 : decode cX7_sailingOf 8 = .ok (.aload_n 0, 1) := by decide +kernel
theorem dX7_sailingOf_9 : decode cX7_sailingOf 9 = .ok (.getfield 91, 3) := by decide +kernel
theorem dX7_sailingOf_12 : decode cX7_sailingOf 12 = .ok (.iload_n 1, 1) := by decide +kernel
theorem dX7_sailingOf_13 : decode cX7_sailingOf 13 = .ok (.iaload, 1) := by decide +kernel
theorem dX7_sailingOf_14 : decode cX7_sailingOf 14 = .ok (.iconst 1, 1) := by decide +kernel
theorem dX7_sailingOf_15 : decode cX7_sailingOf 15 = .ok (.isub, 1) := by decide +kernel
theorem dX7_sailingOf_16 : decode cX7_sailingOf 16 = .ok (.goto 4, 3) := by decide +kernel
theorem dX7_sailingOf_19 : decode cX7_sailingOf 19 = .ok (.iconst 0, 1) := by decide +kernel
theorem dX7_sailingOf_20 : decode cX7_sailingOf 20 = .ok (.ireturn, 1) := by decide +kernel
theorem dX7_lane_0 : decode cX7_lane 0 = .ok (.aload_n 0, 1) := by decide +kernel
theorem dX7_lane_1 : decode cX7_lane 1 = .ok (.iload_n 1, 1) := by decide +kernel
theorem dX7_lane_2 : decode cX7_lane 2 = .ok (.invokevirtual 252, 3) := by decide +kernel
theorem dX7_lane_5 : decode cX7_lane 5 = .ok (.ifCond .eq 14, 3) := by decide +kernel
theorem dX7_lane_8 : decode cX7_lane 8 = .ok (.aload_n 0, 1) := by decide +kernel
theorem dX7_lane_9 : decode cX7_lane 9 = .ok (.getfield 121, 3) := by decide +kernel
theorem dX7_lane_12 : decode cX7_lane 12 = .ok (.iload_n 1, 1) := by decide +kernel
theorem dX7_lane_13 : decode cX7_lane 13 = .ok (.iaload, 1) := by decide +kernel
theorem dX7_lane_14 : decode cX7_lane 14 = .ok (.iconst 1, 1) := by decide +kernel
theorem dX7_lane_15 : decode cX7_lane 15 = .ok (.isub, 1) := by decide +kernel
theorem dX7_lane_16 : decode cX7_lane 16 = .ok (.goto 4, 3) := by decide +kernel
theorem dX7_lane_19 : decode cX7_lane 19 = .ok (.iconst 0, 1) := by decide +kernel
theorem dX7_lane_20 : decode cX7_lane 20 = .ok (.ireturn, 1) := by decide +kernel
theorem dX7_paid_0 : decode cX7_paid 0 = .ok (.aload_n 0, 1) := by decide +kernel
theorem dX7_paid_1 : decode cX7_paid 1 = .ok (.iload_n 1, 1) := by decide +kernel
theorem dX7_paid_2 : decode cX7_paid 2 = .ok (.invokevirtual 252, 3) := by decide +kernel
theorem dX7_paid_5 : decode cX7_paid 5 = .ok (.ifCond .eq 12, 3) := by decide +kernel
theorem dX7_paid_8 : decode cX7_paid 8 = .ok (.aload_n 0, 1) := by decide +kernel
theorem dX7_paid_9 : decode cX7_paid 9 = .ok (.getfield 109, 3) := by decide +kernel
theorem dX7_paid_12 : decode cX7_paid 12 = .ok (.iload_n 1, 1) := by decide +kernel
theorem dX7_paid_13 : decode cX7_paid 13 = .ok (.iaload, 1) := by decide +kernel
theorem dX7_paid_14 : decode cX7_paid 14 = .ok (.goto 4, 3) := by decide +kernel
theorem dX7_paid_17 : decode cX7_paid 17 = .ok (.iconst 0, 1) := by decide +kernel
theorem dX7_paid_18 : decode cX7_paid 18 = .ok (.ireturn, 1) := by decide +kernel
theorem dX7_taken_0 : decode cX7_taken 0 = .ok (.iconst 0, 1) := by decide +kernel
theorem dX7_taken_1 : decode cX7_taken 1 = .ok (.istore_n 2, 1) := by decide +kernel
theorem dX7_taken_2 : decode cX7_taken 2 = .ok (.iconst 0, 1) := by decide +kernel
theorem dX7_taken_3 : decode cX7_taken 3 = .ok (.istore_n 3, 1) := by decide +kernel
theorem dX7_taken_4 : decode cX7_taken 4 = .ok (.aload_n 0, 1) := by decide +kernel
theorem dX7_taken_5 : decode cX7_taken 5 = .ok (.iload_n 1, 1) := by decide +kernel
theorem dX7_taken_6 : decode cX7_taken 6 = .ok (.invokevirtual 200, 3) := by decide +kernel
theorem dX7_taken_9 : decode cX7_taken 9 = .ok (.ifCond .eq 47, 3) := by decide +kernel
theorem dX7_taken_12 : decode cX7_taken 12 = .ok (.iload_n 3, 1) := by decide +kernel
theorem dX7_taken_13 : decode cX7_taken 13 = .ok (.aload_n 0, 1) := by decide +kernel
theorem dX7_taken_14 : decode cX7_taken 14 = .ok (.getfield 147, 3) := by decide +kernel
theorem dX7_taken_17 : decode cX7_taken 17 = .ok (.if_icmp .ge 39, 3) := by decide +kernel
theorem dX7_taken_20 : decode cX7_taken 20 = .ok (.iload_n 2, 1) := by decide +kernel
theorem dX7_taken_21 : decode cX7_taken 21 = .ok (.aload_n 0, 1) := by decide +kernel
theorem dX7_taken_22 : decode cX7_taken 22 = .ok (.getfield 91, 3) := by decide +kernel
theorem dX7_taken_25 : decode cX7_taken 25 = .ok (.iload_n 3, 1) := by decide +kernel
theorem dX7_taken_26 : decode cX7_taken 26 = .ok (.iaload, 1) := by decide +kernel
theorem dX7_taken_27 : decode cX7_taken 27 = .ok (.iload_n 1, 1) := by decide +kernel
theorem dX7_taken_28 : decode cX7_taken 28 = .ok (.iconst 1, 1) := by decide +kernel
theorem dX7_taken_29 : decode cX7_taken 29 = .ok (.iadd, 1) := by decide +kernel
theorem dX7_taken_30 : decode cX7_taken 30 = .ok (.if_icmp .ne 17, 3) := by decide +kernel
theorem dX7_taken_33 : decode cX7_taken 33 = .ok (.aload_n 0, 1) := by decide +kernel
theorem dX7_taken_34 : decode cX7_taken 34 = .ok (.getfield 118, 3) := by decide +kernel
theorem dX7_taken_37 : decode cX7_taken 37 = .ok (.iload_n 3, 1) := by decide +kernel
theorem dX7_taken_38 : decode cX7_taken 38 = .ok (.iaload, 1) := by decide +kernel
theorem dX7_taken_39 : decode cX7_taken 39 = .ok (.iconst 1, 1) := by decide +kernel
theorem dX7_taken_40 : decode cX7_taken 40 = .ok (.if_icmp .ne 7, 3) := by decide +kernel
theorem dX7_taken_43 : decode cX7_taken 43 = .ok (.iconst 1, 1) := by decide +kernel
theorem dX7_taken_44 : decode cX7_taken 44 = .ok (.goto 4, 3) := by decide +kernel
theorem dX7_taken_47 : decode cX7_taken 47 = .ok (.iconst 0, 1) := by decide +kernel
theorem dX7_taken_48 : decode cX7_taken 48 = .ok (.iadd, 1) := by decide +kernel
theorem dX7_taken_49 : decode cX7_taken 49 = .ok (.istore_n 2, 1) := by decide +kernel
theorem dX7_taken_50 : decode cX7_taken 50 = .ok (.iinc 3 1, 3) := by decide +kernel
theorem dX7_taken_53 : decode cX7_taken 53 = .ok (.goto (-49), 3) := by decide +kernel
theorem dX7_taken_56 : decode cX7_taken 56 = .ok (.iload_n 2, 1) := by decide +kernel
theorem dX7_taken_57 : decode cX7_taken 57 = .ok (.ireturn, 1) := by decide +kernel
theorem dX7_list_0 : decode cX7_list 0 = .ok (.aload_n 0, 1) := by decide +kernel
theorem dX7_list_1 : decode cX7_list 1 = .ok (.iload_n 1, 1) := by decide +kernel
theorem dX7_list_2 : decode cX7_list 2 = .ok (.invokevirtual 200, 3) := by decide +kernel
theorem dX7_list_5 : decode cX7_list 5 = .ok (.ifCond .ne 5, 3) := by decide +kernel
theorem dX7_list_8 : decode cX7_list 8 = .ok (.iconst 0, 1) := by decide +kernel
theorem dX7_list_9 : decode cX7_list 9 = .ok (.ireturn, 1) := by decide +kernel
theorem dX7_list_10 : decode cX7_list 10 = .ok (.aload_n 0, 1) := by decide +kernel
theorem dX7_list_11 : decode cX7_list 11 = .ok (.aload_n 0, 1) := by decide +kernel
theorem dX7_list_12 : decode cX7_list 12 = .ok (.getfield 73, 3) := by decide +kernel
theorem dX7_list_15 : decode cX7_list 15 = .ok (.iload_n 1, 1) := by decide +kernel
theorem dX7_list_16 : decode cX7_list 16 = .ok (.iaload, 1) := by decide +kernel
theorem dX7_list_17 : decode cX7_list 17 = .ok (.iconst 2, 1) := by decide +kernel
theorem dX7_list_18 : decode cX7_list 18 = .ok (.if_icmp .ne 7, 3) := by decide +kernel
theorem dX7_list_21 : decode cX7_list 21 = .ok (.iconst 0, 1) := by decide +kernel
theorem dX7_list_22 : decode cX7_list 22 = .ok (.goto 4, 3) := by decide +kernel
theorem dX7_list_25 : decode cX7_list 25 = .ok (.iconst 2, 1) := by decide +kernel
theorem dX7_list_26 : decode cX7_list 26 = .ok (.putfield 133, 3) := by decide +kernel
theorem dX7_list_29 : decode cX7_list 29 = .ok (.aload_n 0, 1) := by decide +kernel
theorem dX7_list_30 : decode cX7_list 30 = .ok (.getfield 133, 3) := by decide +kernel
theorem dX7_list_33 : decode cX7_list 33 = .ok (.ifCond .ne 19, 3) := by decide +kernel
theorem dX7_list_36 : decode cX7_list 36 = .ok (.aload_n 0, 1) := by decide +kernel
theorem dX7_list_37 : decode cX7_list 37 = .ok (.getfield 82, 3) := by decide +kernel
theorem dX7_list_40 : decode cX7_list 40 = .ok (.iload_n 1, 1) := by decide +kernel
theorem dX7_list_41 : decode cX7_list 41 = .ok (.iaload, 1) := by decide +kernel
theorem dX7_list_42 : decode cX7_list 42 = .ok (.aload_n 0, 1) := by decide +kernel
theorem dX7_list_43 : decode cX7_list 43 = .ok (.getfield 85, 3) := by decide +kernel
theorem dX7_list_46 : decode cX7_list 46 = .ok (.iload_n 1, 1) := by decide +kernel
theorem dX7_list_47 : decode cX7_list 47 = .ok (.iaload, 1) := by decide +kernel
theorem dX7_list_48 : decode cX7_list 48 = .ok (.isub, 1) := by decide +kernel
theorem dX7_list_49 : decode cX7_list 49 = .ok (.goto 4, 3) := by decide +kernel
theorem dX7_list_52 : decode cX7_list 52 = .ok (.iconst 0, 1) := by decide +kernel
theorem dX7_list_53 : decode cX7_list 53 = .ok (.ireturn, 1) := by decide +kernel
theorem dX7_account_0 : decode cX7_account 0 = .ok (.aload_n 0, 1) := by decide +kernel
theorem dX7_account_1 : decode cX7_account 1 = .ok (.iload_n 1, 1) := by decide +kernel
theorem dX7_account_2 : decode cX7_account 2 = .ok (.iconst 0, 1) := by decide +kernel
theorem dX7_account_3 : decode cX7_account 3 = .ok (.iconst 2, 1) := by decide +kernel
theorem dX7_account_4 : decode cX7_account 4 = .ok (.invokestatic 137, 3) := by decide +kernel
theorem dX7_account_7 : decode cX7_account 7 = .ok (.ifCond .eq 7, 3) := by decide +kernel
theorem dX7_account_10 : decode cX7_account 10 = .ok (.iconst 0, 1) := by decide +kernel
theorem dX7_account_11 : decode cX7_account 11 = .ok (.goto 4, 3) := by decide +kernel
theorem dX7_account_14 : decode cX7_account 14 = .ok (.iconst 1, 1) := by decide +kernel
theorem dX7_account_15 : decode cX7_account 15 = .ok (.putfield 133, 3) := by decide +kernel
theorem dX7_account_18 : decode cX7_account 18 = .ok (.aload_n 0, 1) := by decide +kernel
theorem dX7_account_19 : decode cX7_account 19 = .ok (.getfield 133, 3) := by decide +kernel
theorem dX7_account_22 : decode cX7_account 22 = .ok (.ifCond .le 7, 3) := by decide +kernel
theorem dX7_account_25 : decode cX7_account 25 = .ok (.lconst 0, 1) := by decide +kernel
theorem dX7_account_26 : decode cX7_account 26 = .ok (.goto 30, 3) := by decide +kernel
theorem dX7_account_29 : decode cX7_account 29 = .ok (.iload_n 1, 1) := by decide +kernel
theorem dX7_account_30 : decode cX7_account 30 = .ok (.ifCond .ne 10, 3) := by decide +kernel
theorem dX7_account_33 : decode cX7_account 33 = .ok (.aload_n 0, 1) := by decide +kernel
theorem dX7_account_34 : decode cX7_account 34 = .ok (.getfield 190, 3) := by decide +kernel
theorem dX7_account_37 : decode cX7_account 37 = .ok (.goto 19, 3) := by decide +kernel
theorem dX7_account_40 : decode cX7_account 40 = .ok (.iload_n 1, 1) := by decide +kernel
theorem dX7_account_41 : decode cX7_account 41 = .ok (.iconst 1, 1) := by decide +kernel
theorem dX7_account_42 : decode cX7_account 42 = .ok (.if_icmp .ne 10, 3) := by decide +kernel
theorem dX7_account_45 : decode cX7_account 45 = .ok (.aload_n 0, 1) := by decide +kernel
theorem dX7_account_46 : decode cX7_account 46 = .ok (.getfield 193, 3) := by decide +kernel
theorem dX7_account_49 : decode cX7_account 49 = .ok (.goto 7, 3) := by decide +kernel
theorem dX7_account_52 : decode cX7_account 52 = .ok (.aload_n 0, 1) := by decide +kernel
theorem dX7_account_53 : decode cX7_account 53 = .ok (.getfield 157, 3) := by decide +kernel
theorem dX7_account_56 : decode cX7_account 56 = .ok (.lreturn, 1) := by decide +kernel
theorem dX7_accountAnew_0 : decode cX7_accountAnew 0 = .ok (.aload_n 0, 1) := by decide +kernel
theorem dX7_accountAnew_1 : decode cX7_accountAnew 1 = .ok (.iload_n 1, 1) := by decide +kernel
theorem dX7_accountAnew_2 : decode cX7_accountAnew 2 = .ok (.iconst 0, 1) := by decide +kernel
theorem dX7_accountAnew_3 : decode cX7_accountAnew 3 = .ok (.iconst 1, 1) := by decide +kernel
theorem dX7_accountAnew_4 : decode cX7_accountAnew 4 = .ok (.invokestatic 137, 3) := by decide +kernel
theorem dX7_accountAnew_7 : decode cX7_accountAnew 7 = .ok (.ifCond .eq 7, 3) := by decide +kernel
theorem dX7_accountAnew_10 : decode cX7_accountAnew 10 = .ok (.iconst 0, 1) := by decide +kernel
theorem dX7_accountAnew_11 : decode cX7_accountAnew 11 = .ok (.goto 4, 3) := by decide +kernel
theorem dX7_accountAnew_14 : decode cX7_accountAnew 14 = .ok (.iconst 1, 1) := by decide +kernel
theorem dX7_accountAnew_15 : decode cX7_accountAnew 15 = .ok (.putfield 133, 3) := by decide +kernel
theorem dX7_accountAnew_18 : decode cX7_accountAnew 18 = .ok (.lconst 0, 1) := by decide +kernel
theorem dX7_accountAnew_19 : decode cX7_accountAnew 19 = .ok (.lstore_n 2, 1) := by decide +kernel
theorem dX7_accountAnew_20 : decode cX7_accountAnew 20 = .ok (.iconst 0, 1) := by decide +kernel
theorem dX7_accountAnew_21 : decode cX7_accountAnew 21 = .ok (.istore 4, 2) := by decide +kernel
theorem dX7_accountAnew_23 : decode cX7_accountAnew 23 = .ok (.aload_n 0, 1) := by decide +kernel
theorem dX7_accountAnew_24 : decode cX7_accountAnew 24 = .ok (.getfield 133, 3) := by decide +kernel
theorem dX7_accountAnew_27 : decode cX7_accountAnew 27 = .ok (.ifCond .ne 44, 3) := by decide +kernel
theorem dX7_accountAnew_30 : decode cX7_accountAnew 30 = .ok (.iload 4, 2) := by decide +kernel
theorem dX7_accountAnew_32 : decode cX7_accountAnew 32 = .ok (.aload_n 0, 1) := by decide +kernel
theorem dX7_accountAnew_33 : decode cX7_accountAnew 33 = .ok (.getfield 147, 3) := by decide +kernel
theorem dX7_accountAnew_36 : decode cX7_accountAnew 36 = .ok (.if_icmp .ge 35, 3) := by decide +kernel
theorem dX7_accountAnew_39 : decode cX7_accountAnew 39 = .ok (.lload_n 2, 1) := by decide +kernel
theorem dX7_accountAnew_40 : decode cX7_accountAnew 40 = .ok (.iload_n 1, 1) := by decide +kernel
theorem dX7_accountAnew_41 : decode cX7_accountAnew 41 = .ok (.ifCond .ne 14, 3) := by decide +kernel
theorem dX7_accountAnew_44 : decode cX7_accountAnew 44 = .ok (.aload_n 0, 1) := by decide +kernel
theorem dX7_accountAnew_45 : decode cX7_accountAnew 45 = .ok (.getfield 109, 3) := by decide +kernel
theorem dX7_accountAnew_48 : decode cX7_accountAnew 48 = .ok (.iload 4, 2) := by decide +kernel
theorem dX7_accountAnew_50 : decode cX7_accountAnew 50 = .ok (.iaload, 1) := by decide +kernel
theorem dX7_accountAnew_51 : decode cX7_accountAnew 51 = .ok (.i2l, 1) := by decide +kernel
theorem dX7_accountAnew_52 : decode cX7_accountAnew 52 = .ok (.goto 11, 3) := by decide +kernel
theorem dX7_accountAnew_55 : decode cX7_accountAnew 55 = .ok (.aload_n 0, 1) := by decide +kernel
theorem dX7_accountAnew_56 : decode cX7_accountAnew 56 = .ok (.getfield 112, 3) := by decide +kernel
theorem dX7_accountAnew_59 : decode cX7_accountAnew 59 = .ok (.iload 4, 2) := by decide +kernel
theorem dX7_accountAnew_61 : decode cX7_accountAnew 61 = .ok (.iaload, 1) := by decide +kernel
theorem dX7_accountAnew_62 : decode cX7_accountAnew 62 = .ok (.i2l, 1) := by decide +kernel
theorem dX7_accountAnew_63 : decode cX7_accountAnew 63 = .ok (.ladd, 1) := by decide +kernel
theorem dX7_accountAnew_64 : decode cX7_accountAnew 64 = .ok (.lstore_n 2, 1) := by decide +kernel
theorem dX7_accountAnew_65 : decode cX7_accountAnew 65 = .ok (.iinc 4 1, 3) := by decide +kernel
theorem dX7_accountAnew_68 : decode cX7_accountAnew 68 = .ok (.goto (-45), 3) := by decide +kernel
theorem dX7_accountAnew_71 : decode cX7_accountAnew 71 = .ok (.lload_n 2, 1) := by decide +kernel
theorem dX7_accountAnew_72 : decode cX7_accountAnew 72 = .ok (.lreturn, 1) := by decide +kernel

theorem dX8_in_0 : decode cX8_in 0 = .ok (.iload_n 0, 1) := by decide +kernel
theorem dX8_in_1 : decode cX8_in 1 = .ok (.iload_n 1, 1) := by decide +kernel
theorem dX8_in_2 : decode cX8_in 2 = .ok (.if_icmp .lt 12, 3) := by decide +kernel
theorem dX8_in_5 : decode cX8_in 5 = .ok (.iload_n 0, 1) := by decide +kernel
theorem dX8_in_6 : decode cX8_in 6 = .ok (.iload_n 2, 1) := by decide +kernel
theorem dX8_in_7 : decode cX8_in 7 = .ok (.if_icmp .gt 7, 3) := by decide +kernel
theorem dX8_in_10 : decode cX8_in 10 = .ok (.iconst 1, 1) := by decide +kernel
theorem dX8_in_11 : decode cX8_in 11 = .ok (.goto 4, 3) := by decide +kernel
theorem dX8_in_14 : decode cX8_in 14 = .ok (.iconst 0, 1) := by decide +kernel
theorem dX8_in_15 : decode cX8_in 15 = .ok (.ireturn, 1) := by decide +kernel
theorem dX8_refuses_0 : decode cX8_refuses 0 = .ok (.aload_n 0, 1) := by decide +kernel
theorem dX8_refuses_1 : decode cX8_refuses 1 = .ok (.iload_n 1, 1) := by decide +kernel
theorem dX8_refuses_2 : decode cX8_refuses 2 = .ok (.putfield 3, 3) := by decide +kernel
theorem dX8_refuses_5 : decode cX8_refuses 5 = .ok (.iload_n 1, 1) := by decide +kernel
theorem dX8_refuses_6 : decode cX8_refuses 6 = .ok (.ireturn, 1) := by decide +kernel
theorem dX8_good_0 : decode cX8_good 0 = .ok (.aload_n 0, 1) := by decide +kernel
theorem dX8_good_1 : decode cX8_good 1 = .ok (.iconst 0, 1) := by decide +kernel
theorem dX8_good_2 : decode cX8_good 2 = .ok (.putfield 3, 3) := by decide +kernel
theorem dX8_good_5 : decode cX8_good 5 = .ok (.iload_n 1, 1) := by decide +kernel
theorem dX8_good_6 : decode cX8_good 6 = .ok (.ireturn, 1) := by decide +kernel
theorem dX8_init_0 : decode cX8_init 0 = .ok (.aload_n 0, 1) := by decide +kernel
theorem dX8_init_1 : decode cX8_init 1 = .ok (.invokespecial 7, 3) := by decide +kernel
theorem dX8_init_4 : decode cX8_init 4 = .ok (.aload_n 0, 1) := by decide +kernel
theorem dX8_init_5 : decode cX8_init 5 = .ok (.sipush 8047, 3) := by decide +kernel
theorem dX8_init_8 : decode cX8_init 8 = .ok (.newarray .int, 2) := by decide +kernel
theorem dX8_init_10 : decode cX8_init 10 = .ok (.putfield 13, 3) := by decide +kernel
theorem dX8_init_13 : decode cX8_init 13 = .ok (.aload_n 0, 1) := by decide +kernel
theorem dX8_init_14 : decode cX8_init 14 = .ok (.sipush 16094, 3) := by decide +kernel
theorem dX8_init_17 : decode cX8_init 17 = .ok (.newarray .int, 2) := by decide +kernel
theorem dX8_init_19 : decode cX8_init 19 = .ok (.putfield 17, 3) := by decide +kernel
theorem dX8_init_22 : decode cX8_init 22 = .ok (.aload_n 0, 1) := by decide +kernel
theorem dX8_init_23 : decode cX8_init 23 = .ok (.iconst 2, 1) := by decide +kernel
theorem dX8_init_24 : decode cX8_init 24 = .ok (.newarray .boolean, 2) := by decide +kernel
theorem dX8_init_26 : decode cX8_init 26 = .ok (.putfield 20, 3) := by decide +kernel
theorem dX8_init_29 : decode cX8_init 29 = .ok (.aload_n 0, 1) := by decide +kernel
theorem dX8_init_30 : decode cX8_init 30 = .ok (.bipush 48, 2) := by decide +kernel
theorem dX8_init_32 : decode cX8_init 32 = .ok (.newarray .boolean, 2) := by decide +kernel
theorem dX8_init_34 : decode cX8_init 34 = .ok (.putfield 24, 3) := by decide +kernel
theorem dX8_init_37 : decode cX8_init 37 = .ok (.aload_n 0, 1) := by decide +kernel
theorem dX8_init_38 : decode cX8_init 38 = .ok (.iconst 4, 1) := by decide +kernel
theorem dX8_init_39 : decode cX8_init 39 = .ok (.newarray .long, 2) := by decide +kernel
theorem dX8_init_41 : decode cX8_init 41 = .ok (.putfield 27, 3) := by decide +kernel
theorem dX8_init_44 : decode cX8_init 44 = .ok (.aload_n 0, 1) := by decide +kernel
theorem dX8_init_45 : decode cX8_init 45 = .ok (.iconst 4, 1) := by decide +kernel
theorem dX8_init_46 : decode cX8_init 46 = .ok (.newarray .long, 2) := by decide +kernel
theorem dX8_init_48 : decode cX8_init 48 = .ok (.putfield 31, 3) := by decide +kernel
theorem dX8_init_51 : decode cX8_init 51 = .ok (.aload_n 0, 1) := by decide +kernel
theorem dX8_init_52 : decode cX8_init 52 = .ok (.bipush 48, 2) := by decide +kernel
theorem dX8_init_54 : decode cX8_init 54 = .ok (.newarray .int, 2) := by decide +kernel
theorem dX8_init_56 : decode cX8_init 56 = .ok (.putfield 34, 3) := by decide +kernel
theorem dX8_init_59 : decode cX8_init 59 = .ok (.aload_n 0, 1) := by decide +kernel
theorem dX8_init_60 : decode cX8_init 60 = .ok (.bipush 107, 2) := by decide +kernel
theorem dX8_init_62 : decode cX8_init 62 = .ok (.newarray .byte, 2) := by decide +kernel
theorem dX8_init_64 : decode cX8_init 64 = .ok (.dup, 1) := by decide +kernel
theorem dX8_init_65 : decode cX8_init 65 = .ok (.iconst 0, 1) := by decide +kernel
theorem dX8_init_66 : decode cX8_init 66 = .ok (.bipush 110, 2) := by decide +kernel
theorem dX8_init_68 : decode cX8_init 68 = .ok (.bastore, 1) := by decide +kernel
theorem dX8_init_69 : decode cX8_init 69 = .ok (.dup, 1) := by decide +kernel
theorem dX8_init_70 : decode cX8_init 70 = .ok (.iconst 1, 1) := by decide +kernel
theorem dX8_init_71 : decode cX8_init 71 = .ok (.bipush 101, 2) := by decide +kernel
theorem dX8_init_73 : decode cX8_init 73 = .ok (.bastore, 1) := by decide +kernel
theorem dX8_init_74 : decode cX8_init 74 = .ok (.dup, 1) := by decide +kernel
theorem dX8_init_75 : decode cX8_init 75 = .ok (.iconst 2, 1) := by decide +kernel
theorem dX8_init_76 : decode cX8_init 76 = .ok (.bipush 101, 2) := by decide +kernel
theorem dX8_init_78 : decode cX8_init 78 = .ok (.bastore, 1) := by decide +kernel
theorem dX8_init_79 : decode cX8_init 79 = .ok (.dup, 1) := by decide +kernel
theorem dX8_init_80 : decode cX8_init 80 = .ok (.iconst 3, 1) := by decide +kernel
theorem dX8_init_81 : decode cX8_init 81 = .ok (.bipush 100, 2) := by decide +kernel
theorem dX8_init_83 : decode cX8_init 83 = .ok (.bastore, 1) := by decide +kernel
theorem dX8_init_84 : decode cX8_init 84 = .ok (.dup, 1) := by decide +kernel
theorem dX8_init_85 : decode cX8_init 85 = .ok (.iconst 4, 1) := by decide +kernel
theorem dX8_init_86 : decode cX8_init 86 = .ok (.bipush 32, 2) := by decide +kernel
theorem dX8_init_88 : decode cX8_init 88 = .ok (.bastore, 1) := by decide +kernel
theorem dX8_init_89 : decode cX8_init 89 = .ok (.dup, 1) := by decide +kernel
theorem dX8_init_90 : decode cX8_init 90 = .ok (.iconst 5, 1) := by decide +kernel
theorem dX8_init_91 : decode cX8_init 91 = .ok (.bipush 108, 2) := by decide +kernel
theorem dX8_init_93 : decode cX8_init 93 = .ok (.bastore, 1) := by decide +kernel
theorem dX8_init_94 : decode cX8_init 94 = .ok (.dup, 1) := by decide +kernel
theorem dX8_init_95 : decode cX8_init 95 = .ok (.bipush 6, 2) := by decide +kernel
theorem dX8_init_97 : decode cX8_init 97 = .ok (.bipush 111, 2) := by decide +kernel
theorem dX8_init_99 : decode cX8_init 99 = .ok (.bastore, 1) := by decide +kernel
theorem dX8_init_100 : decode cX8_init 100 = .ok (.dup, 1) := by decide +kernel
theorem dX8_init_101 : decode cX8_init 101 = .ok (.bipush 7, 2) := by decide +kernel
theorem dX8_init_103 : decode cX8_init 103 = .ok (.bipush 111, 2) := by decide +kernel
theorem dX8_init_105 : decode cX8_init 105 = .ok (.bastore, 1) := by decide +kernel
theorem dX8_init_106 : decode cX8_init 106 = .ok (.dup, 1) := by decide +kernel
theorem dX8_init_107 : decode cX8_init 107 = .ok (.bipush 8, 2) := by decide +kernel
theorem dX8_init_109 : decode cX8_init 109 = .ok (.bipush 107, 2) := by decide +kernel
theorem dX8_init_111 : decode cX8_init 111 = .ok (.bastore, 1) := by decide +kernel
theorem dX8_init_112 : decode cX8_init 112 = .ok (.dup, 1) := by decide +kernel
theorem dX8_init_113 : decode cX8_init 113 = .ok (.bipush 9, 2) := by decide +kernel
theorem dX8_init_115 : decode cX8_init 115 = .ok (.bipush 32, 2) := by decide +kernel
theorem dX8_init_117 : decode cX8_init 117 = .ok (.bastore, 1) := by decide +kernel
theorem dX8_init_118 : decode cX8_init 118 = .ok (.dup, 1) := by decide +kernel
theorem dX8_init_119 : decode cX8_init 119 = .ok (.bipush 10, 2) := by decide +kernel
theorem dX8_init_121 : decode cX8_init 121 = .ok (.bipush 101, 2) := by decide +kernel
theorem dX8_init_123 : decode cX8_init 123 = .ok (.bastore, 1) := by decide +kernel
theorem dX8_init_124 : decode cX8_init 124 = .ok (.dup, 1) := by decide +kernel
theorem dX8_init_125 : decode cX8_init 125 = .ok (.bipush 11, 2) := by decide +kernel
theorem dX8_init_127 : decode cX8_init 127 = .ok (.bipush 100, 2) := by decide +kernel
theorem dX8_init_129 : decode cX8_init 129 = .ok (.bastore, 1) := by decide +kernel
theorem dX8_init_130 : decode cX8_init 130 = .ok (.dup, 1) := by decide +kernel
theorem dX8_init_131 : decode cX8_init 131 = .ok (.bipush 12, 2) := by decide +kernel
theorem dX8_init_133 : decode cX8_init 133 = .ok (.bipush 103, 2) := by decide +kernel
theorem dX8_init_135 : decode cX8_init 135 = .ok (.bastore, 1) := by decide +kernel
theorem dX8_init_136 : decode cX8_init 136 = .ok (.dup, 1) := by decide +kernel
theorem dX8_init_137 : decode cX8_init 137 = .ok (.bipush 13, 2) := by decide +kernel
theorem dX8_init_139 : decode cX8_init 139 = .ok (.bipush 101, 2) := by decide +kernel
theorem dX8_init_141 : decode cX8_init 141 = .ok (.bastore, 1) := by decide +kernel
theorem dX8_init_142 : decode cX8_init 142 = .ok (.dup, 1) := by decide +kernel
theorem dX8_init_143 : decode cX8_init 143 = .ok (.bipush 14, 2) := by decide +kernel
theorem dX8_init_145 : decode cX8_init 145 = .ok (.bipush 32, 2) := by decide +kernel
theorem dX8_init_147 : decode cX8_init 147 = .ok (.bastore, 1) := by decide +kernel
theorem dX8_init_148 : decode cX8_init 148 = .ok (.dup, 1) := by decide +kernel
theorem dX8_init_149 : decode cX8_init 149 = .ok (.bipush 15, 2) := by decide +kernel
theorem dX8_init_151 : decode cX8_init 151 = .ok (.bipush 105, 2) := by decide +kernel
theorem dX8_init_153 : decode cX8_init 153 = .ok (.bastore, 1) := by decide +kernel
theorem dX8_init_154 : decode cX8_init 154 = .ok (.dup, 1) := by decide +kernel
theorem dX8_init_155 : decode cX8_init 155 = .ok (.bipush 16, 2) := by decide +kernel
theorem dX8_init_157 : decode cX8_init 157 = .ok (.bipush 102, 2) := by decide +kernel
theorem dX8_init_159 : decode cX8_init 159 = .ok (.bastore, 1) := by decide +kernel
theorem dX8_init_160 : decode cX8_init 160 = .ok (.dup, 1) := by decide +kernel
theorem dX8_init_161 : decode cX8_init 161 = .ok (.bipush 17, 2) := by decide +kernel
theorem dX8_init_163 : decode cX8_init 163 = .ok (.bipush 32, 2) := by decide +kernel
theorem dX8_init_165 : decode cX8_init 165 = .ok (.bastore, 1) := by decide +kernel
theorem dX8_init_166 : decode cX8_init 166 = .ok (.dup, 1) := by decide +kernel
theorem dX8_init_167 : decode cX8_init 167 = .ok (.bipush 18, 2) := by decide +kernel
theorem dX8_init_169 : decode cX8_init 169 = .ok (.bipush 111, 2) := by decide +kernel
theorem dX8_init_171 : decode cX8_init 171 = .ok (.bastore, 1) := by decide +kernel
theorem dX8_init_172 : decode cX8_init 172 = .ok (.dup, 1) := by decide +kernel
theorem dX8_init_173 : decode cX8_init 173 = .ok (.bipush 19, 2) := by decide +kernel
theorem dX8_init_175 : decode cX8_init 175 = .ok (.bipush 114, 2) := by decide +kernel
theorem dX8_init_177 : decode cX8_init 177 = .ok (.bastore, 1) := by decide +kernel
theorem dX8_init_178 : decode cX8_init 178 = .ok (.dup, 1) := by decide +kernel
theorem dX8_init_179 : decode cX8_init 179 = .ok (.bipush 20, 2) := by decide +kernel
theorem dX8_init_181 : decode cX8_init 181 = .ok (.bipush 32, 2) := by decide +kernel
theorem dX8_init_183 : decode cX8_init 183 = .ok (.bastore, 1) := by decide +kernel
theorem dX8_init_184 : decode cX8_init 184 = .ok (.dup, 1) := by decide +kernel
theorem dX8_init_185 : decode cX8_init 185 = .ok (.bipush 21, 2) := by decide +kernel
theorem dX8_init_187 : decode cX8_init 187 = .ok (.bipush 97, 2) := by decide +kernel
theorem dX8_init_189 : decode cX8_init 189 = .ok (.bastore, 1) := by decide +kernel
theorem dX8_init_190 : decode cX8_init 190 = .ok (.dup, 1) := by decide +kernel
theorem dX8_init_191 : decode cX8_init 191 = .ok (.bipush 22, 2) := by decide +kernel
theorem dX8_init_193 : decode cX8_init 193 = .ok (.bipush 110, 2) := by decide +kernel
theorem dX8_init_195 : decode cX8_init 195 = .ok (.bastore, 1) := by decide +kernel
theorem dX8_init_196 : decode cX8_init 196 = .ok (.dup, 1) := by decide +kernel
theorem dX8_init_197 : decode cX8_init 197 = .ok (.bipush 23, 2) := by decide +kernel
theorem dX8_init_199 : decode cX8_init 199 = .ok (.bipush 100, 2) := by decide +kernel
theorem dX8_init_201 : decode cX8_init 201 = .ok (.bastore, 1) := by decide +kernel
theorem dX8_init_202 : decode cX8_init 202 = .ok (.dup, 1) := by decide +kernel
theorem dX8_init_203 : decode cX8_init 203 = .ok (.bipush 24, 2) := by decide +kernel
theorem dX8_init_205 : decode cX8_init 205 = .ok (.bipush 32, 2) := by decide +kernel
theorem dX8_init_207 : decode cX8_init 207 = .ok (.bastore, 1) := by decide +kernel
theorem dX8_init_208 : decode cX8_init 208 = .ok (.dup, 1) := by decide +kernel
theorem dX8_init_209 : decode cX8_init 209 = .ok (.bipush 25, 2) := by decide +kernel
theorem dX8_init_211 : decode cX8_init 211 = .ok (.bipush 110, 2) := by decide +kernel
theorem dX8_init_213 : decode cX8_init 213 = .ok (.bastore, 1) := by decide +kernel
theorem dX8_init_214 : decode cX8_init 214 = .ok (.dup, 1) := by decide +kernel
theorem dX8_init_215 : decode cX8_init 215 = .ok (.bipush 26, 2) := by decide +kernel
theorem dX8_init_217 : decode cX8_init 217 = .ok (.bipush 111, 2) := by decide +kernel
theorem dX8_init_219 : decode cX8_init 219 = .ok (.bastore, 1) := by decide +kernel
theorem dX8_init_220 : decode cX8_init 220 = .ok (.dup, 1) := by decide +kernel
theorem dX8_init_221 : decode cX8_init 221 = .ok (.bipush 27, 2) := by decide +kernel
theorem dX8_init_223 : decode cX8_init 223 = .ok (.bipush 116, 2) := by decide +kernel
theorem dX8_init_225 : decode cX8_init 225 = .ok (.bastore, 1) := by decide +kernel
theorem dX8_init_226 : decode cX8_init 226 = .ok (.dup, 1) := by decide +kernel
theorem dX8_init_227 : decode cX8_init 227 = .ok (.bipush 28, 2) := by decide +kernel
theorem dX8_init_229 : decode cX8_init 229 = .ok (.bipush 32, 2) := by decide +kernel
theorem dX8_init_231 : decode cX8_init 231 = .ok (.bastore, 1) := by decide +kernel
theorem dX8_init_232 : decode cX8_init 232 = .ok (.dup, 1) := by decide +kernel
theorem dX8_init_233 : decode cX8_init 233 = .ok (.bipush 29, 2) := by decide +kernel
theorem dX8_init_235 : decode cX8_init 235 = .ok (.bipush 119, 2) := by decide +kernel
theorem dX8_init_237 : decode cX8_init 237 = .ok (.bastore, 1) := by decide +kernel
theorem dX8_init_238 : decode cX8_init 238 = .ok (.dup, 1) := by decide +kernel
theorem dX8_init_239 : decode cX8_init 239 = .ok (.bipush 30, 2) := by decide +kernel
theorem dX8_init_241 : decode cX8_init 241 = .ok (.bipush 101, 2) := by decide +kernel
theorem dX8_init_243 : decode cX8_init 243 = .ok (.bastore, 1) := by decide +kernel
theorem dX8_init_244 : decode cX8_init 244 = .ok (.dup, 1) := by decide +kernel
theorem dX8_init_245 : decode cX8_init 245 = .ok (.bipush 31, 2) := by decide +kernel
theorem dX8_init_247 : decode cX8_init 247 = .ok (.bipush 108, 2) := by decide +kernel
theorem dX8_init_249 : decode cX8_init 249 = .ok (.bastore, 1) := by decide +kernel
theorem dX8_init_250 : decode cX8_init 250 = .ok (.dup, 1) := by decide +kernel
theorem dX8_init_251 : decode cX8_init 251 = .ok (.bipush 32, 2) := by decide +kernel
theorem dX8_init_253 : decode cX8_init 253 = .ok (.bipush 100, 2) := by decide +kernel
theorem dX8_init_255 : decode cX8_init 255 = .ok (.bastore, 1) := by decide +kernel
theorem dX8_init_256 : decode cX8_init 256 = .ok (.dup, 1) := by decide +kernel
theorem dX8_init_257 : decode cX8_init 257 = .ok (.bipush 33, 2) := by decide +kernel
theorem dX8_init_259 : decode cX8_init 259 = .ok (.bipush 101, 2) := by decide +kernel
theorem dX8_init_261 : decode cX8_init 261 = .ok (.bastore, 1) := by decide +kernel
theorem dX8_init_262 : decode cX8_init 262 = .ok (.dup, 1) := by decide +kernel
theorem dX8_init_263 : decode cX8_init 263 = .ok (.bipush 34, 2) := by decide +kernel
theorem dX8_init_265 : decode cX8_init 265 = .ok (.bipush 100, 2) := by decide +kernel
theorem dX8_init_267 : decode cX8_init 267 = .ok (.bastore, 1) := by decide +kernel
theorem dX8_init_268 : decode cX8_init 268 = .ok (.dup, 1) := by decide +kernel
theorem dX8_init_269 : decode cX8_init 269 = .ok (.bipush 35, 2) := by decide +kernel
theorem dX8_init_271 : decode cX8_init 271 = .ok (.bipush 32, 2) := by decide +kernel
theorem dX8_init_273 : decode cX8_init 273 = .ok (.bastore, 1) := by decide +kernel
theorem dX8_init_274 : decode cX8_init 274 = .ok (.dup, 1) := by decide +kernel
theorem dX8_init_275 : decode cX8_init 275 = .ok (.bipush 36, 2) := by decide +kernel
theorem dX8_init_277 : decode cX8_init 277 = .ok (.bipush 98, 2) := by decide +kernel
theorem dX8_init_279 : decode cX8_init 279 = .ok (.bastore, 1) := by decide +kernel
theorem dX8_init_280 : decode cX8_init 280 = .ok (.dup, 1) := by decide +kernel
theorem dX8_init_281 : decode cX8_init 281 = .ok (.bipush 37, 2) := by decide +kernel
theorem dX8_init_283 : decode cX8_init 283 = .ok (.bipush 111, 2) := by decide +kernel
theorem dX8_init_285 : decode cX8_init 285 = .ok (.bastore, 1) := by decide +kernel
theorem dX8_init_286 : decode cX8_init 286 = .ok (.dup, 1) := by decide +kernel
theorem dX8_init_287 : decode cX8_init 287 = .ok (.bipush 38, 2) := by decide +kernel
theorem dX8_init_289 : decode cX8_init 289 = .ok (.bipush 108, 2) := by decide +kernel
theorem dX8_init_291 : decode cX8_init 291 = .ok (.bastore, 1) := by decide +kernel
theorem dX8_init_292 : decode cX8_init 292 = .ok (.dup, 1) := by decide +kernel
theorem dX8_init_293 : decode cX8_init 293 = .ok (.bipush 39, 2) := by decide +kernel
theorem dX8_init_295 : decode cX8_init 295 = .ok (.bipush 116, 2) := by decide +kernel
theorem dX8_init_297 : decode cX8_init 297 = .ok (.bastore, 1) := by decide +kernel
theorem dX8_init_298 : decode cX8_init 298 = .ok (.dup, 1) := by decide +kernel
theorem dX8_init_299 : decode cX8_init 299 = .ok (.bipush 40, 2) := by decide +kernel
theorem dX8_init_301 : decode cX8_init 301 = .ok (.bipush 101, 2) := by decide +kernel
theorem dX8_init_303 : decode cX8_init 303 = .ok (.bastore, 1) := by decide +kernel
theorem dX8_init_304 : decode cX8_init 304 = .ok (.dup, 1) := by decide +kernel
theorem dX8_init_305 : decode cX8_init 305 = .ok (.bipush 41, 2) := by decide +kernel
theorem dX8_init_307 : decode cX8_init 307 = .ok (.bipush 100, 2) := by decide +kernel
theorem dX8_init_309 : decode cX8_init 309 = .ok (.bastore, 1) := by decide +kernel
theorem dX8_init_310 : decode cX8_init 310 = .ok (.dup, 1) := by decide +kernel
theorem dX8_init_311 : decode cX8_init 311 = .ok (.bipush 42, 2) := by decide +kernel
theorem dX8_init_313 : decode cX8_init 313 = .ok (.bipush 32, 2) := by decide +kernel
theorem dX8_init_315 : decode cX8_init 315 = .ok (.bastore, 1) := by decide +kernel
theorem dX8_init_316 : decode cX8_init 316 = .ok (.dup, 1) := by decide +kernel
theorem dX8_init_317 : decode cX8_init 317 = .ok (.bipush 43, 2) := by decide +kernel
theorem dX8_init_319 : decode cX8_init 319 = .ok (.bipush 109, 2) := by decide +kernel
theorem dX8_init_321 : decode cX8_init 321 = .ok (.bastore, 1) := by decide +kernel
theorem dX8_init_322 : decode cX8_init 322 = .ok (.dup, 1) := by decide +kernel
theorem dX8_init_323 : decode cX8_init 323 = .ok (.bipush 44, 2) := by decide +kernel
theorem dX8_init_325 : decode cX8_init 325 = .ok (.bipush 101, 2) := by decide +kernel
theorem dX8_init_327 : decode cX8_init 327 = .ok (.bastore, 1) := by decide +kernel
theorem dX8_init_328 : decode cX8_init 328 = .ok (.dup, 1) := by decide +kernel
theorem dX8_init_329 : decode cX8_init 329 = .ok (.bipush 45, 2) := by decide +kernel
theorem dX8_init_331 : decode cX8_init 331 = .ok (.bipush 110, 2) := by decide +kernel
theorem dX8_init_333 : decode cX8_init 333 = .ok (.bastore, 1) := by decide +kernel
theorem dX8_init_334 : decode cX8_init 334 = .ok (.dup, 1) := by decide +kernel
theorem dX8_init_335 : decode cX8_init 335 = .ok (.bipush 46, 2) := by decide +kernel
theorem dX8_init_337 : decode cX8_init 337 = .ok (.bipush 100, 2) := by decide +kernel
theorem dX8_init_339 : decode cX8_init 339 = .ok (.bastore, 1) := by decide +kernel
theorem dX8_init_340 : decode cX8_init 340 = .ok (.dup, 1) := by decide +kernel
theorem dX8_init_341 : decode cX8_init 341 = .ok (.bipush 47, 2) := by decide +kernel
theorem dX8_init_343 : decode cX8_init 343 = .ok (.bipush 101, 2) := by decide +kernel
theorem dX8_init_345 : decode cX8_init 345 = .ok (.bastore, 1) := by decide +kernel
theorem dX8_init_346 : decode cX8_init 346 = .ok (.dup, 1) := by decide +kernel
theorem dX8_init_347 : decode cX8_init 347 = .ok (.bipush 48, 2) := by decide +kernel
theorem dX8_init_349 : decode cX8_init 349 = .ok (.bipush 100, 2) := by decide +kernel
theorem dX8_init_351 : decode cX8_init 351 = .ok (.bastore, 1) := by decide +kernel
theorem dX8_init_352 : decode cX8_init 352 = .ok (.dup, 1) := by decide +kernel
theorem dX8_init_353 : decode cX8_init 353 = .ok (.bipush 49, 2) := by decide +kernel
theorem dX8_init_355 : decode cX8_init 355 = .ok (.bipush 32, 2) := by decide +kernel
theorem dX8_init_357 : decode cX8_init 357 = .ok (.bastore, 1) := by decide +kernel
theorem dX8_init_358 : decode cX8_init 358 = .ok (.dup, 1) := by decide +kernel
theorem dX8_init_359 : decode cX8_init 359 = .ok (.bipush 50, 2) := by decide +kernel
theorem dX8_init_361 : decode cX8_init 361 = .ok (.bipush 102, 2) := by decide +kernel
theorem dX8_init_363 : decode cX8_init 363 = .ok (.bastore, 1) := by decide +kernel
theorem dX8_init_364 : decode cX8_init 364 = .ok (.dup, 1) := by decide +kernel
theorem dX8_init_365 : decode cX8_init 365 = .ok (.bipush 51, 2) := by decide +kernel
theorem dX8_init_367 : decode cX8_init 367 = .ok (.bipush 97, 2) := by decide +kernel
theorem dX8_init_369 : decode cX8_init 369 = .ok (.bastore, 1) := by decide +kernel
theorem dX8_init_370 : decode cX8_init 370 = .ok (.dup, 1) := by decide +kernel
theorem dX8_init_371 : decode cX8_init 371 = .ok (.bipush 52, 2) := by decide +kernel
theorem dX8_init_373 : decode cX8_init 373 = .ok (.bipush 99, 2) := by decide +kernel
theorem dX8_init_375 : decode cX8_init 375 = .ok (.bastore, 1) := by decide +kernel
theorem dX8_init_376 : decode cX8_init 376 = .ok (.dup, 1) := by decide +kernel
theorem dX8_init_377 : decode cX8_init 377 = .ok (.bipush 53, 2) := by decide +kernel
theorem dX8_init_379 : decode cX8_init 379 = .ok (.bipush 101, 2) := by decide +kernel
theorem dX8_init_381 : decode cX8_init 381 = .ok (.bastore, 1) := by decide +kernel
theorem dX8_init_382 : decode cX8_init 382 = .ok (.dup, 1) := by decide +kernel
theorem dX8_init_383 : decode cX8_init 383 = .ok (.bipush 54, 2) := by decide +kernel
theorem dX8_init_385 : decode cX8_init 385 = .ok (.bipush 32, 2) := by decide +kernel
theorem dX8_init_387 : decode cX8_init 387 = .ok (.bastore, 1) := by decide +kernel
theorem dX8_init_388 : decode cX8_init 388 = .ok (.dup, 1) := by decide +kernel
theorem dX8_init_389 : decode cX8_init 389 = .ok (.bipush 55, 2) := by decide +kernel
theorem dX8_init_391 : decode cX8_init 391 = .ok (.bipush 108, 2) := by decide +kernel
theorem dX8_init_393 : decode cX8_init 393 = .ok (.bastore, 1) := by decide +kernel
theorem dX8_init_394 : decode cX8_init 394 = .ok (.dup, 1) := by decide +kernel
theorem dX8_init_395 : decode cX8_init 395 = .ok (.bipush 56, 2) := by decide +kernel
theorem dX8_init_397 : decode cX8_init 397 = .ok (.bipush 111, 2) := by decide +kernel
theorem dX8_init_399 : decode cX8_init 399 = .ok (.bastore, 1) := by decide +kernel
theorem dX8_init_400 : decode cX8_init 400 = .ok (.dup, 1) := by decide +kernel
theorem dX8_init_401 : decode cX8_init 401 = .ok (.bipush 57, 2) := by decide +kernel
theorem dX8_init_403 : decode cX8_init 403 = .ok (.bipush 97, 2) := by decide +kernel
theorem dX8_init_405 : decode cX8_init 405 = .ok (.bastore, 1) := by decide +kernel
theorem dX8_init_406 : decode cX8_init 406 = .ok (.dup, 1) := by decide +kernel
theorem dX8_init_407 : decode cX8_init 407 = .ok (.bipush 58, 2) := by decide +kernel
theorem dX8_init_409 : decode cX8_init 409 = .ok (.bipush 100, 2) := by decide +kernel
theorem dX8_init_411 : decode cX8_init 411 = .ok (.bastore, 1) := by decide +kernel
theorem dX8_init_412 : decode cX8_init 412 = .ok (.dup, 1) := by decide +kernel
theorem dX8_init_413 : decode cX8_init 413 = .ok (.bipush 59, 2) := by decide +kernel
theorem dX8_init_415 : decode cX8_init 415 = .ok (.bipush 32, 2) := by decide +kernel
theorem dX8_init_417 : decode cX8_init 417 = .ok (.bastore, 1) := by decide +kernel
theorem dX8_init_418 : decode cX8_init 418 = .ok (.dup, 1) := by decide +kernel
theorem dX8_init_419 : decode cX8_init 419 = .ok (.bipush 60, 2) := by decide +kernel
theorem dX8_init_421 : decode cX8_init 421 = .ok (.bipush 100, 2) := by decide +kernel
theorem dX8_init_423 : decode cX8_init 423 = .ok (.bastore, 1) := by decide +kernel
theorem dX8_init_424 : decode cX8_init 424 = .ok (.dup, 1) := by decide +kernel
theorem dX8_init_425 : decode cX8_init 425 = .ok (.bipush 61, 2) := by decide +kernel
theorem dX8_init_427 : decode cX8_init 427 = .ok (.bipush 101, 2) := by decide +kernel
theorem dX8_init_429 : decode cX8_init 429 = .ok (.bastore, 1) := by decide +kernel
theorem dX8_init_430 : decode cX8_init 430 = .ok (.dup, 1) := by decide +kernel
theorem dX8_init_431 : decode cX8_init 431 = .ok (.bipush 62, 2) := by decide +kernel
theorem dX8_init_433 : decode cX8_init 433 = .ok (.bipush 97, 2) := by decide +kernel
theorem dX8_init_435 : decode cX8_init 435 = .ok (.bastore, 1) := by decide +kernel
theorem dX8_init_436 : decode cX8_init 436 = .ok (.dup, 1) := by decide +kernel
theorem dX8_init_437 : decode cX8_init 437 = .ok (.bipush 63, 2) := by decide +kernel
theorem dX8_init_439 : decode cX8_init 439 = .ok (.bipush 100, 2) := by decide +kernel
theorem dX8_init_441 : decode cX8_init 441 = .ok (.bastore, 1) := by decide +kernel
theorem dX8_init_442 : decode cX8_init 442 = .ok (.dup, 1) := by decide +kernel
theorem dX8_init_443 : decode cX8_init 443 = .ok (.bipush 64, 2) := by decide +kernel
theorem dX8_init_445 : decode cX8_init 445 = .ok (.bipush 32, 2) := by decide +kernel
theorem dX8_init_447 : decode cX8_init 447 = .ok (.bastore, 1) := by decide +kernel
theorem dX8_init_448 : decode cX8_init 448 = .ok (.dup, 1) := by decide +kernel
theorem dX8_init_449 : decode cX8_init 449 = .ok (.bipush 65, 2) := by decide +kernel
theorem dX8_init_451 : decode cX8_init 451 = .ok (.bipush 116, 2) := by decide +kernel
theorem dX8_init_453 : decode cX8_init 453 = .ok (.bastore, 1) := by decide +kernel
theorem dX8_init_454 : decode cX8_init 454 = .ok (.dup, 1) := by decide +kernel
theorem dX8_init_455 : decode cX8_init 455 = .ok (.bipush 66, 2) := by decide +kernel
theorem dX8_init_457 : decode cX8_init 457 = .ok (.bipush 105, 2) := by decide +kernel
theorem dX8_init_459 : decode cX8_init 459 = .ok (.bastore, 1) := by decide +kernel
theorem dX8_init_460 : decode cX8_init 460 = .ok (.dup, 1) := by decide +kernel
theorem dX8_init_461 : decode cX8_init 461 = .ok (.bipush 67, 2) := by decide +kernel
theorem dX8_init_463 : decode cX8_init 463 = .ok (.bipush 101, 2) := by decide +kernel
theorem dX8_init_465 : decode cX8_init 465 = .ok (.bastore, 1) := by decide +kernel
theorem dX8_init_466 : decode cX8_init 466 = .ok (.dup, 1) := by decide +kernel
theorem dX8_init_467 : decode cX8_init 467 = .ok (.bipush 68, 2) := by decide +kernel
theorem dX8_init_469 : decode cX8_init 469 = .ok (.bipush 114, 2) := by decide +kernel
theorem dX8_init_471 : decode cX8_init 471 = .ok (.bastore, 1) := by decide +kernel
theorem dX8_init_472 : decode cX8_init 472 = .ok (.dup, 1) := by decide +kernel
theorem dX8_init_473 : decode cX8_init 473 = .ok (.bipush 69, 2) := by decide +kernel
theorem dX8_init_475 : decode cX8_init 475 = .ok (.bipush 32, 2) := by decide +kernel
theorem dX8_init_477 : decode cX8_init 477 = .ok (.bastore, 1) := by decide +kernel
theorem dX8_init_478 : decode cX8_init 478 = .ok (.dup, 1) := by decide +kernel
theorem dX8_init_479 : decode cX8_init 479 = .ok (.bipush 70, 2) := by decide +kernel
theorem dX8_init_481 : decode cX8_init 481 = .ok (.bipush 115, 2) := by decide +kernel
theorem dX8_init_483 : decode cX8_init 483 = .ok (.bastore, 1) := by decide +kernel
theorem dX8_init_484 : decode cX8_init 484 = .ok (.dup, 1) := by decide +kernel
theorem dX8_init_485 : decode cX8_init 485 = .ok (.bipush 71, 2) := by decide +kernel
theorem dX8_init_487 : decode cX8_init 487 = .ok (.bipush 105, 2) := by decide +kernel
theorem dX8_init_489 : decode cX8_init 489 = .ok (.bastore, 1) := by decide +kernel
theorem dX8_init_490 : decode cX8_init 490 = .ok (.dup, 1) := by decide +kernel
theorem dX8_init_491 : decode cX8_init 491 = .ok (.bipush 72, 2) := by decide +kernel
theorem dX8_init_493 : decode cX8_init 493 = .ok (.bipush 100, 2) := by decide +kernel
theorem dX8_init_495 : decode cX8_init 495 = .ok (.bastore, 1) := by decide +kernel
theorem dX8_init_496 : decode cX8_init 496 = .ok (.dup, 1) := by decide +kernel
theorem dX8_init_497 : decode cX8_init 497 = .ok (.bipush 73, 2) := by decide +kernel
theorem dX8_init_499 : decode cX8_init 499 = .ok (.bipush 101, 2) := by decide +kernel
theorem dX8_init_501 : decode cX8_init 501 = .ok (.bastore, 1) := by decide +kernel
theorem dX8_init_502 : decode cX8_init 502 = .ok (.dup, 1) := by decide +kernel
theorem dX8_init_503 : decode cX8_init 503 = .ok (.bipush 74, 2) := by decide +kernel
theorem dX8_init_505 : decode cX8_init 505 = .ok (.bipush 32, 2) := by decide +kernel
theorem dX8_init_507 : decode cX8_init 507 = .ok (.bastore, 1) := by decide +kernel
theorem dX8_init_508 : decode cX8_init 508 = .ok (.dup, 1) := by decide +kernel
theorem dX8_init_509 : decode cX8_init 509 = .ok (.bipush 75, 2) := by decide +kernel
theorem dX8_init_511 : decode cX8_init 511 = .ok (.bipush 100, 2) := by decide +kernel
theorem dX8_init_513 : decode cX8_init 513 = .ok (.bastore, 1) := by decide +kernel
theorem dX8_init_514 : decode cX8_init 514 = .ok (.dup, 1) := by decide +kernel
theorem dX8_init_515 : decode cX8_init 515 = .ok (.bipush 76, 2) := by decide +kernel
theorem dX8_init_517 : decode cX8_init 517 = .ok (.bipush 97, 2) := by decide +kernel
theorem dX8_init_519 : decode cX8_init 519 = .ok (.bastore, 1) := by decide +kernel
theorem dX8_init_520 : decode cX8_init 520 = .ok (.dup, 1) := by decide +kernel
theorem dX8_init_521 : decode cX8_init 521 = .ok (.bipush 77, 2) := by decide +kernel
theorem dX8_init_523 : decode cX8_init 523 = .ok (.bipush 121, 2) := by decide +kernel
theorem dX8_init_525 : decode cX8_init 525 = .ok (.bastore, 1) := by decide +kernel
theorem dX8_init_526 : decode cX8_init 526 = .ok (.dup, 1) := by decide +kernel
theorem dX8_init_527 : decode cX8_init 527 = .ok (.bipush 78, 2) := by decide +kernel
theorem dX8_init_529 : decode cX8_init 529 = .ok (.bipush 32, 2) := by decide +kernel
theorem dX8_init_531 : decode cX8_init 531 = .ok (.bastore, 1) := by decide +kernel
theorem dX8_init_532 : decode cX8_init 532 = .ok (.dup, 1) := by decide +kernel
theorem dX8_init_533 : decode cX8_init 533 = .ok (.bipush 79, 2) := by decide +kernel
theorem dX8_init_535 : decode cX8_init 535 = .ok (.bipush 104, 2) := by decide +kernel
theorem dX8_init_537 : decode cX8_init 537 = .ok (.bastore, 1) := by decide +kernel
theorem dX8_init_538 : decode cX8_init 538 = .ok (.dup, 1) := by decide +kernel
theorem dX8_init_539 : decode cX8_init 539 = .ok (.bipush 80, 2) := by decide +kernel
theorem dX8_init_541 : decode cX8_init 541 = .ok (.bipush 111, 2) := by decide +kernel
theorem dX8_init_543 : decode cX8_init 543 = .ok (.bastore, 1) := by decide +kernel
theorem dX8_init_544 : decode cX8_init 544 = .ok (.dup, 1) := by decide +kernel
theorem dX8_init_545 : decode cX8_init 545 = .ok (.bipush 81, 2) := by decide +kernel
theorem dX8_init_547 : decode cX8_init 547 = .ok (.bipush 108, 2) := by decide +kernel
theorem dX8_init_549 : decode cX8_init 549 = .ok (.bastore, 1) := by decide +kernel
theorem dX8_init_550 : decode cX8_init 550 = .ok (.dup, 1) := by decide +kernel
theorem dX8_init_551 : decode cX8_init 551 = .ok (.bipush 82, 2) := by decide +kernel
theorem dX8_init_553 : decode cX8_init 553 = .ok (.bipush 100, 2) := by decide +kernel
theorem dX8_init_555 : decode cX8_init 555 = .ok (.bastore, 1) := by decide +kernel
theorem dX8_init_556 : decode cX8_init 556 = .ok (.dup, 1) := by decide +kernel
theorem dX8_init_557 : decode cX8_init 557 = .ok (.bipush 83, 2) := by decide +kernel
theorem dX8_init_559 : decode cX8_init 559 = .ok (.bipush 115, 2) := by decide +kernel
theorem dX8_init_561 : decode cX8_init 561 = .ok (.bastore, 1) := by decide +kernel
theorem dX8_init_562 : decode cX8_init 562 = .ok (.dup, 1) := by decide +kernel
theorem dX8_init_563 : decode cX8_init 563 = .ok (.bipush 84, 2) := by decide +kernel
theorem dX8_init_565 : decode cX8_init 565 = .ok (.bipush 32, 2) := by decide +kernel
theorem dX8_init_567 : decode cX8_init 567 = .ok (.bastore, 1) := by decide +kernel
theorem dX8_init_568 : decode cX8_init 568 = .ok (.dup, 1) := by decide +kernel
theorem dX8_init_569 : decode cX8_init 569 = .ok (.bipush 85, 2) := by decide +kernel
theorem dX8_init_571 : decode cX8_init 571 = .ok (.bipush 108, 2) := by decide +kernel
theorem dX8_init_573 : decode cX8_init 573 = .ok (.bastore, 1) := by decide +kernel
theorem dX8_init_574 : decode cX8_init 574 = .ok (.dup, 1) := by decide +kernel
theorem dX8_init_575 : decode cX8_init 575 = .ok (.bipush 86, 2) := by decide +kernel
theorem dX8_init_577 : decode cX8_init 577 = .ok (.bipush 101, 2) := by decide +kernel
theorem dX8_init_579 : decode cX8_init 579 = .ok (.bastore, 1) := by decide +kernel
theorem dX8_init_580 : decode cX8_init 580 = .ok (.dup, 1) := by decide +kernel
theorem dX8_init_581 : decode cX8_init 581 = .ok (.bipush 87, 2) := by decide +kernel
theorem dX8_init_583 : decode cX8_init 583 = .ok (.bipush 103, 2) := by decide +kernel
theorem dX8_init_585 : decode cX8_init 585 = .ok (.bastore, 1) := by decide +kernel
theorem dX8_init_586 : decode cX8_init 586 = .ok (.dup, 1) := by decide +kernel
theorem dX8_init_587 : decode cX8_init 587 = .ok (.bipush 88, 2) := by decide +kernel
theorem dX8_init_589 : decode cX8_init 589 = .ok (.bipush 32, 2) := by decide +kernel
theorem dX8_init_591 : decode cX8_init 591 = .ok (.bastore, 1) := by decide +kernel
theorem dX8_init_592 : decode cX8_init 592 = .ok (.dup, 1) := by decide +kernel
theorem dX8_init_593 : decode cX8_init 593 = .ok (.bipush 89, 2) := by decide +kernel
theorem dX8_init_595 : decode cX8_init 595 = .ok (.bipush 102, 2) := by decide +kernel
theorem dX8_init_597 : decode cX8_init 597 = .ok (.bastore, 1) := by decide +kernel
theorem dX8_init_598 : decode cX8_init 598 = .ok (.dup, 1) := by decide +kernel
theorem dX8_init_599 : decode cX8_init 599 = .ok (.bipush 90, 2) := by decide +kernel
theorem dX8_init_601 : decode cX8_init 601 = .ok (.bipush 108, 2) := by decide +kernel
theorem dX8_init_603 : decode cX8_init 603 = .ok (.bastore, 1) := by decide +kernel
theorem dX8_init_604 : decode cX8_init 604 = .ok (.dup, 1) := by decide +kernel
theorem dX8_init_605 : decode cX8_init 605 = .ok (.bipush 91, 2) := by decide +kernel
theorem dX8_init_607 : decode cX8_init 607 = .ok (.bipush 111, 2) := by decide +kernel
theorem dX8_init_609 : decode cX8_init 609 = .ok (.bastore, 1) := by decide +kernel
theorem dX8_init_610 : decode cX8_init 610 = .ok (.dup, 1) := by decide +kernel
theorem dX8_init_611 : decode cX8_init 611 = .ok (.bipush 92, 2) := by decide +kernel
theorem dX8_init_613 : decode cX8_init 613 = .ok (.bipush 111, 2) := by decide +kernel
theorem dX8_init_615 : decode cX8_init 615 = .ok (.bastore, 1) := by decide +kernel
theorem dX8_init_616 : decode cX8_init 616 = .ok (.dup, 1) := by decide +kernel
theorem dX8_init_617 : decode cX8_init 617 = .ok (.bipush 93, 2) := by decide +kernel
theorem dX8_init_619 : decode cX8_init 619 = .ok (.bipush 114, 2) := by decide +kernel
theorem dX8_init_621 : decode cX8_init 621 = .ok (.bastore, 1) := by decide +kernel
theorem dX8_init_622 : decode cX8_init 622 = .ok (.dup, 1) := by decide +kernel
theorem dX8_init_623 : decode cX8_init 623 = .ok (.bipush 94, 2) := by decide +kernel
theorem dX8_init_625 : decode cX8_init 625 = .ok (.bipush 115, 2) := by decide +kernel
theorem dX8_init_627 : decode cX8_init 627 = .ok (.bastore, 1) := by decide +kernel
theorem dX8_init_628 : decode cX8_init 628 = .ok (.dup, 1) := by decide +kernel
theorem dX8_init_629 : decode cX8_init 629 = .ok (.bipush 95, 2) := by decide +kernel
theorem dX8_init_631 : decode cX8_init 631 = .ok (.bipush 32, 2) := by decide +kernel
theorem dX8_init_633 : decode cX8_init 633 = .ok (.bastore, 1) := by decide +kernel
theorem dX8_init_634 : decode cX8_init 634 = .ok (.dup, 1) := by decide +kernel
theorem dX8_init_635 : decode cX8_init 635 = .ok (.bipush 96, 2) := by decide +kernel
theorem dX8_init_637 : decode cX8_init 637 = .ok (.bipush 97, 2) := by decide +kernel
theorem dX8_init_639 : decode cX8_init 639 = .ok (.bastore, 1) := by decide +kernel
theorem dX8_init_640 : decode cX8_init 640 = .ok (.dup, 1) := by decide +kernel
theorem dX8_init_641 : decode cX8_init 641 = .ok (.bipush 97, 2) := by decide +kernel
theorem dX8_init_643 : decode cX8_init 643 = .ok (.bipush 103, 2) := by decide +kernel
theorem dX8_init_645 : decode cX8_init 645 = .ok (.bastore, 1) := by decide +kernel
theorem dX8_init_646 : decode cX8_init 646 = .ok (.dup, 1) := by decide +kernel
theorem dX8_init_647 : decode cX8_init 647 = .ok (.bipush 98, 2) := by decide +kernel
theorem dX8_init_649 : decode cX8_init 649 = .ok (.bipush 101, 2) := by decide +kernel
theorem dX8_init_651 : decode cX8_init 651 = .ok (.bastore, 1) := by decide +kernel
theorem dX8_init_652 : decode cX8_init 652 = .ok (.dup, 1) := by decide +kernel
theorem dX8_init_653 : decode cX8_init 653 = .ok (.bipush 99, 2) := by decide +kernel
theorem dX8_init_655 : decode cX8_init 655 = .ok (.bipush 32, 2) := by decide +kernel
theorem dX8_init_657 : decode cX8_init 657 = .ok (.bastore, 1) := by decide +kernel
theorem dX8_init_658 : decode cX8_init 658 = .ok (.dup, 1) := by decide +kernel
theorem dX8_init_659 : decode cX8_init 659 = .ok (.bipush 100, 2) := by decide +kernel
theorem dX8_init_661 : decode cX8_init 661 = .ok (.bipush 98, 2) := by decide +kernel
theorem dX8_init_663 : decode cX8_init 663 = .ok (.bastore, 1) := by decide +kernel
theorem dX8_init_664 : decode cX8_init 664 = .ok (.dup, 1) := by decide +kernel
theorem dX8_init_665 : decode cX8_init 665 = .ok (.bipush 101, 2) := by decide +kernel
theorem dX8_init_667 : decode cX8_init 667 = .ok (.bipush 114, 2) := by decide +kernel
theorem dX8_init_669 : decode cX8_init 669 = .ok (.bastore, 1) := by decide +kernel
theorem dX8_init_670 : decode cX8_init 670 = .ok (.dup, 1) := by decide +kernel
theorem dX8_init_671 : decode cX8_init 671 = .ok (.bipush 102, 2) := by decide +kernel
theorem dX8_init_673 : decode cX8_init 673 = .ok (.bipush 97, 2) := by decide +kernel
theorem dX8_init_675 : decode cX8_init 675 = .ok (.bastore, 1) := by decide +kernel
theorem dX8_init_676 : decode cX8_init 676 = .ok (.dup, 1) := by decide +kernel
theorem dX8_init_677 : decode cX8_init 677 = .ok (.bipush 103, 2) := by decide +kernel
theorem dX8_init_679 : decode cX8_init 679 = .ok (.bipush 99, 2) := by decide +kernel
theorem dX8_init_681 : decode cX8_init 681 = .ok (.bastore, 1) := by decide +kernel
theorem dX8_init_682 : decode cX8_init 682 = .ok (.dup, 1) := by decide +kernel
theorem dX8_init_683 : decode cX8_init 683 = .ok (.bipush 104, 2) := by decide +kernel
theorem dX8_init_685 : decode cX8_init 685 = .ok (.bipush 101, 2) := by decide +kernel
theorem dX8_init_687 : decode cX8_init 687 = .ok (.bastore, 1) := by decide +kernel
theorem dX8_init_688 : decode cX8_init 688 = .ok (.dup, 1) := by decide +kernel
theorem dX8_init_689 : decode cX8_init 689 = .ok (.bipush 105, 2) := by decide +kernel
theorem dX8_init_691 : decode cX8_init 691 = .ok (.bipush 115, 2) := by decide +kernel
theorem dX8_init_693 : decode cX8_init 693 = .ok (.bastore, 1) := by decide +kernel
theorem dX8_init_694 : decode cX8_init 694 = .ok (.dup, 1) := by decide +kernel
theorem dX8_init_695 : decode cX8_init 695 = .ok (.bipush 106, 2) := by decide +kernel
theorem dX8_init_697 : decode cX8_init 697 = .ok (.bipush 32, 2) := by decide +kernel
theorem dX8_init_699 : decode cX8_init 699 = .ok (.bastore, 1) := by decide +kernel
theorem dX8_init_700 : decode cX8_init 700 = .ok (.putfield 37, 3) := by decide +kernel
theorem dX8_init_703 : decode cX8_init 703 = .ok (.aload_n 0, 1) := by decide +kernel
theorem dX8_init_704 : decode cX8_init 704 = .ok (.sipush 400, 3) := by decide +kernel
theorem dX8_init_707 : decode cX8_init 707 = .ok (.newarray .byte, 2) := by decide +kernel
theorem dX8_init_709 : decode cX8_init 709 = .ok (.putfield 41, 3) := by decide +kernel
theorem dX8_init_712 : decode cX8_init 712 = .ok (.aload_n 0, 1) := by decide +kernel
theorem dX8_init_713 : decode cX8_init 713 = .ok (.iconst 5, 1) := by decide +kernel
theorem dX8_init_714 : decode cX8_init 714 = .ok (.newarray .int, 2) := by decide +kernel
theorem dX8_init_716 : decode cX8_init 716 = .ok (.putfield 44, 3) := by decide +kernel
theorem dX8_init_719 : decode cX8_init 719 = .ok (.aload_n 0, 1) := by decide +kernel
theorem dX8_init_720 : decode cX8_init 720 = .ok (.iconst (-1), 1) := by decide +kernel
theorem dX8_init_721 : decode cX8_init 721 = .ok (.putfield 47, 3) := by decide +kernel
theorem dX8_init_724 : decode cX8_init 724 = .ok (.aload_n 0, 1) := by decide +kernel
theorem dX8_init_725 : decode cX8_init 725 = .ok (.sipush 401, 3) := by decide +kernel
theorem dX8_init_728 : decode cX8_init 728 = .ok (.newarray .int, 2) := by decide +kernel
theorem dX8_init_730 : decode cX8_init 730 = .ok (.putfield 50, 3) := by decide +kernel
theorem dX8_init_733 : decode cX8_init 733 = .ok (.aload_n 0, 1) := by decide +kernel
theorem dX8_init_734 : decode cX8_init 734 = .ok (.sipush 401, 3) := by decide +kernel
theorem dX8_init_737 : decode cX8_init 737 = .ok (.newarray .int, 2) := by decide +kernel
theorem dX8_init_739 : decode cX8_init 739 = .ok (.putfield 53, 3) := by decide +kernel
theorem dX8_init_742 : decode cX8_init 742 = .ok (.aload_n 0, 1) := by decide +kernel
theorem dX8_init_743 : decode cX8_init 743 = .ok (.sipush 401, 3) := by decide +kernel
theorem dX8_init_746 : decode cX8_init 746 = .ok (.newarray .int, 2) := by decide +kernel
theorem dX8_init_748 : decode cX8_init 748 = .ok (.putfield 56, 3) := by decide +kernel
theorem dX8_init_751 : decode cX8_init 751 = .ok (.aload_n 0, 1) := by decide +kernel
theorem dX8_init_752 : decode cX8_init 752 = .ok (.bipush 10, 2) := by decide +kernel
theorem dX8_init_754 : decode cX8_init 754 = .ok (.newarray .long, 2) := by decide +kernel
theorem dX8_init_756 : decode cX8_init 756 = .ok (.putfield 59, 3) := by decide +kernel
theorem dX8_init_759 : decode cX8_init 759 = .ok (.aload_n 0, 1) := by decide +kernel
theorem dX8_init_760 : decode cX8_init 760 = .ok (.iconst 4, 1) := by decide +kernel
theorem dX8_init_761 : decode cX8_init 761 = .ok (.newarray .boolean, 2) := by decide +kernel
theorem dX8_init_763 : decode cX8_init 763 = .ok (.putfield 62, 3) := by decide +kernel
theorem dX8_init_766 : decode cX8_init 766 = .ok (.aload_n 0, 1) := by decide +kernel
theorem dX8_init_767 : decode cX8_init 767 = .ok (.bipush 96, 2) := by decide +kernel
theorem dX8_init_769 : decode cX8_init 769 = .ok (.newarray .int, 2) := by decide +kernel
theorem dX8_init_771 : decode cX8_init 771 = .ok (.putfield 65, 3) := by decide +kernel
theorem dX8_init_774 : decode cX8_init 774 = .ok (.aload_n 0, 1) := by decide +kernel
theorem dX8_init_775 : decode cX8_init 775 = .ok (.bipush 9, 2) := by decide +kernel
theorem dX8_init_777 : decode cX8_init 777 = .ok (.newarray .int, 2) := by decide +kernel
theorem dX8_init_779 : decode cX8_init 779 = .ok (.putfield 68, 3) := by decide +kernel
theorem dX8_init_782 : decode cX8_init 782 = .ok (.aload_n 0, 1) := by decide +kernel
theorem dX8_init_783 : decode cX8_init 783 = .ok (.sipush 512, 3) := by decide +kernel
theorem dX8_init_786 : decode cX8_init 786 = .ok (.newarray .long, 2) := by decide +kernel
theorem dX8_init_788 : decode cX8_init 788 = .ok (.putfield 71, 3) := by decide +kernel
theorem dX8_init_791 : decode cX8_init 791 = .ok (.aload_n 0, 1) := by decide +kernel
theorem dX8_init_792 : decode cX8_init 792 = .ok (.sipush 512, 3) := by decide +kernel
theorem dX8_init_795 : decode cX8_init 795 = .ok (.newarray .long, 2) := by decide +kernel
theorem dX8_init_797 : decode cX8_init 797 = .ok (.putfield 74, 3) := by decide +kernel
theorem dX8_init_800 : decode cX8_init 800 = .ok (.aload_n 0, 1) := by decide +kernel
theorem dX8_init_801 : decode cX8_init 801 = .ok (.bipush 9, 2) := by decide +kernel
theorem dX8_init_803 : decode cX8_init 803 = .ok (.newarray .int, 2) := by decide +kernel
theorem dX8_init_805 : decode cX8_init 805 = .ok (.putfield 77, 3) := by decide +kernel
theorem dX8_init_808 : decode cX8_init 808 = .ok (.aload_n 0, 1) := by decide +kernel
theorem dX8_init_809 : decode cX8_init 809 = .ok (.iconst (-1), 1) := by decide +kernel
theorem dX8_init_810 : decode cX8_init 810 = .ok (.putfield 80, 3) := by decide +kernel
theorem dX8_init_813 : decode cX8_init 813 = .ok (.iconst 0, 1) := by decide +kernel
theorem dX8_init_814 : decode cX8_init 814 = .ok (.istore_n 1, 1) := by decide +kernel
theorem dX8_init_815 : decode cX8_init 815 = .ok (.iload_n 1, 1) := by decide +kernel
theorem dX8_init_816 : decode cX8_init 816 = .ok (.bipush 48, 2) := by decide +kernel
theorem dX8_init_818 : decode cX8_init 818 = .ok (.if_icmp .ge 18, 3) := by decide +kernel
theorem dX8_init_821 : decode cX8_init 821 = .ok (.aload_n 0, 1) := by decide +kernel
theorem dX8_init_822 : decode cX8_init 822 = .ok (.getfield 13, 3) := by decide +kernel
theorem dX8_init_825 : decode cX8_init 825 = .ok (.iconst 0, 1) := by decide +kernel
theorem dX8_init_826 : decode cX8_init 826 = .ok (.iload_n 1, 1) := by decide +kernel
theorem dX8_init_827 : decode cX8_init 827 = .ok (.iadd, 1) := by decide +kernel
theorem dX8_init_828 : decode cX8_init 828 = .ok (.iconst 5, 1) := by decide +kernel
theorem dX8_init_829 : decode cX8_init 829 = .ok (.iastore, 1) := by decide +kernel
theorem dX8_init_830 : decode cX8_init 830 = .ok (.iinc 1 1, 3) := by decide +kernel
theorem dX8_init_833 : decode cX8_init 833 = .ok (.goto (-18), 3) := by decide +kernel
theorem dX8_init_836 : decode cX8_init 836 = .ok (.iconst 0, 1) := by decide +kernel
theorem dX8_init_837 : decode cX8_init 837 = .ok (.istore_n 1, 1) := by decide +kernel
theorem dX8_init_838 : decode cX8_init 838 = .ok (.iload_n 1, 1) := by decide +kernel
theorem dX8_init_839 : decode cX8_init 839 = .ok (.bipush 6, 2) := by decide +kernel
theorem dX8_init_841 : decode cX8_init 841 = .ok (.if_icmp .ge 21, 3) := by decide +kernel
theorem dX8_init_844 : decode cX8_init 844 = .ok (.aload_n 0, 1) := by decide +kernel
theorem dX8_init_845 : decode cX8_init 845 = .ok (.getfield 13, 3) := by decide +kernel
theorem dX8_init_848 : decode cX8_init 848 = .ok (.sipush 144, 3) := by decide +kernel
theorem dX8_init_851 : decode cX8_init 851 = .ok (.iload_n 1, 1) := by decide +kernel
theorem dX8_init_852 : decode cX8_init 852 = .ok (.iadd, 1) := by decide +kernel
theorem dX8_init_853 : decode cX8_init 853 = .ok (.bipush 10, 2) := by decide +kernel
theorem dX8_init_855 : decode cX8_init 855 = .ok (.iastore, 1) := by decide +kernel
theorem dX8_init_856 : decode cX8_init 856 = .ok (.iinc 1 1, 3) := by decide +kernel
theorem dX8_init_859 : decode cX8_init 859 = .ok (.goto (-21), 3) := by decide +kernel
theorem dX8_init_862 : decode cX8_init 862 = .ok (.aload_n 0, 1) := by decide +kernel
theorem dX8_init_863 : decode cX8_init 863 = .ok (.getfield 13, 3) := by decide +kernel
theorem dX8_init_866 : decode cX8_init 866 = .ok (.sipush 156, 3) := by decide +kernel
theorem dX8_init_869 : decode cX8_init 869 = .ok (.sipush 1000, 3) := by decide +kernel
theorem dX8_init_872 : decode cX8_init 872 = .ok (.iastore, 1) := by decide +kernel
theorem dX8_init_873 : decode cX8_init 873 = .ok (.aload_n 0, 1) := by decide +kernel
theorem dX8_init_874 : decode cX8_init 874 = .ok (.getfield 13, 3) := by decide +kernel
theorem dX8_init_877 : decode cX8_init 877 = .ok (.sipush 157, 3) := by decide +kernel
theorem dX8_init_880 : decode cX8_init 880 = .ok (.bipush 100, 2) := by decide +kernel
theorem dX8_init_882 : decode cX8_init 882 = .ok (.iastore, 1) := by decide +kernel
theorem dX8_init_883 : decode cX8_init 883 = .ok (.aload_n 0, 1) := by decide +kernel
theorem dX8_init_884 : decode cX8_init 884 = .ok (.getfield 13, 3) := by decide +kernel
theorem dX8_init_887 : decode cX8_init 887 = .ok (.sipush 158, 3) := by decide +kernel
theorem dX8_init_890 : decode cX8_init 890 = .ok (.bipush 10, 2) := by decide +kernel
theorem dX8_init_892 : decode cX8_init 892 = .ok (.iastore, 1) := by decide +kernel
theorem dX8_init_893 : decode cX8_init 893 = .ok (.aload_n 0, 1) := by decide +kernel
theorem dX8_init_894 : decode cX8_init 894 = .ok (.getfield 13, 3) := by decide +kernel
theorem dX8_init_897 : decode cX8_init 897 = .ok (.sipush 162, 3) := by decide +kernel
theorem dX8_init_900 : decode cX8_init 900 = .ok (.iconst 1, 1) := by decide +kernel
theorem dX8_init_901 : decode cX8_init 901 = .ok (.iastore, 1) := by decide +kernel
theorem dX8_init_902 : decode cX8_init 902 = .ok (.aload_n 0, 1) := by decide +kernel
theorem dX8_init_903 : decode cX8_init 903 = .ok (.getfield 13, 3) := by decide +kernel
theorem dX8_init_906 : decode cX8_init 906 = .ok (.sipush 163, 3) := by decide +kernel
theorem dX8_init_909 : decode cX8_init 909 = .ok (.bipush 10, 2) := by decide +kernel
theorem dX8_init_911 : decode cX8_init 911 = .ok (.iastore, 1) := by decide +kernel
theorem dX8_init_912 : decode cX8_init 912 = .ok (.aload_n 0, 1) := by decide +kernel
theorem dX8_init_913 : decode cX8_init 913 = .ok (.getfield 13, 3) := by decide +kernel
theorem dX8_init_916 : decode cX8_init 916 = .ok (.sipush 164, 3) := by decide +kernel
theorem dX8_init_919 : decode cX8_init 919 = .ok (.iconst 1, 1) := by decide +kernel
theorem dX8_init_920 : decode cX8_init 920 = .ok (.iastore, 1) := by decide +kernel
theorem dX8_init_921 : decode cX8_init 921 = .ok (.iconst 0, 1) := by decide +kernel
theorem dX8_init_922 : decode cX8_init 922 = .ok (.istore_n 1, 1) := by decide +kernel
theorem dX8_init_923 : decode cX8_init 923 = .ok (.iload_n 1, 1) := by decide +kernel
theorem dX8_init_924 : decode cX8_init 924 = .ok (.bipush 64, 2) := by decide +kernel
theorem dX8_init_926 : decode cX8_init 926 = .ok (.if_icmp .ge 20, 3) := by decide +kernel
theorem dX8_init_929 : decode cX8_init 929 = .ok (.aload_n 0, 1) := by decide +kernel
theorem dX8_init_930 : decode cX8_init 930 = .ok (.getfield 13, 3) := by decide +kernel
theorem dX8_init_933 : decode cX8_init 933 = .ok (.sipush 573, 3) := by decide +kernel
theorem dX8_init_936 : decode cX8_init 936 = .ok (.iload_n 1, 1) := by decide +kernel
theorem dX8_init_937 : decode cX8_init 937 = .ok (.iadd, 1) := by decide +kernel
theorem dX8_init_938 : decode cX8_init 938 = .ok (.iconst (-1), 1) := by decide +kernel
theorem dX8_init_939 : decode cX8_init 939 = .ok (.iastore, 1) := by decide +kernel
theorem dX8_init_940 : decode cX8_init 940 = .ok (.iinc 1 1, 3) := by decide +kernel
theorem dX8_init_943 : decode cX8_init 943 = .ok (.goto (-20), 3) := by decide +kernel
theorem dX8_init_946 : decode cX8_init 946 = .ok (.return_, 1) := by decide +kernel
theorem dX8_image_0 : decode cX8_image 0 = .ok (.iload_n 1, 1) := by decide +kernel
theorem dX8_image_1 : decode cX8_image 1 = .ok (.iconst 0, 1) := by decide +kernel
theorem dX8_image_2 : decode cX8_image 2 = .ok (.iconst 1, 1) := by decide +kernel
theorem dX8_image_3 : decode cX8_image 3 = .ok (.invokestatic 83, 3) := by decide +kernel
theorem dX8_image_6 : decode cX8_image 6 = .ok (.ifCond .ne 9, 3) := by decide +kernel
theorem dX8_image_9 : decode cX8_image 9 = .ok (.aload_n 0, 1) := by decide +kernel
theorem dX8_image_10 : decode cX8_image 10 = .ok (.iconst (-1), 1) := by decide +kernel
theorem dX8_image_11 : decode cX8_image 11 = .ok (.invokevirtual 87, 3) := by decide +kernel
theorem dX8_image_14 : decode cX8_image 14 = .ok (.ireturn, 1) := by decide +kernel
theorem dX8_image_15 : decode cX8_image 15 = .ok (.iconst 0, 1) := by decide +kernel
theorem dX8_image_16 : decode cX8_image 16 = .ok (.istore_n 2, 1) := by decide +kernel
theorem dX8_image_17 : decode cX8_image 17 = .ok (.iload_n 2, 1) := by decide +kernel
theorem dX8_image_18 : decode cX8_image 18 = .ok (.sipush 8047, 3) := by decide +kernel
theorem dX8_image_21 : decode cX8_image 21 = .ok (.if_icmp .ge 27, 3) := by decide +kernel
theorem dX8_image_24 : decode cX8_image 24 = .ok (.aload_n 0, 1) := by decide +kernel
theorem dX8_image_25 : decode cX8_image 25 = .ok (.getfield 17, 3) := by decide +kernel
theorem dX8_image_28 : decode cX8_image 28 = .ok (.sipush 8047, 3) := by decide +kernel
theorem dX8_image_31 : decode cX8_image 31 = .ok (.iload_n 1, 1) := by decide +kernel
theorem dX8_image_32 : decode cX8_image 32 = .ok (.imul, 1) := by decide +kernel
theorem dX8_image_33 : decode cX8_image 33 = .ok (.iload_n 2, 1) := by decide +kernel
theorem dX8_image_34 : decode cX8_image 34 = .ok (.iadd, 1) := by decide +kernel
theorem dX8_image_35 : decode cX8_image 35 = .ok (.aload_n 0, 1) := by decide +kernel
theorem dX8_image_36 : decode cX8_image 36 = .ok (.getfield 13, 3) := by decide +kernel
theorem dX8_image_39 : decode cX8_image 39 = .ok (.iload_n 2, 1) := by decide +kernel
theorem dX8_image_40 : decode cX8_image 40 = .ok (.iaload, 1) := by decide +kernel
theorem dX8_image_41 : decode cX8_image 41 = .ok (.iastore, 1) := by decide +kernel
theorem dX8_image_42 : decode cX8_image 42 = .ok (.iinc 2 1, 3) := by decide +kernel
theorem dX8_image_45 : decode cX8_image 45 = .ok (.goto (-28), 3) := by decide +kernel
theorem dX8_image_48 : decode cX8_image 48 = .ok (.aload_n 0, 1) := by decide +kernel
theorem dX8_image_49 : decode cX8_image 49 = .ok (.getfield 20, 3) := by decide +kernel
theorem dX8_image_52 : decode cX8_image 52 = .ok (.iload_n 1, 1) := by decide +kernel
theorem dX8_image_53 : decode cX8_image 53 = .ok (.iconst 1, 1) := by decide +kernel
theorem dX8_image_54 : decode cX8_image 54 = .ok (.bastore, 1) := by decide +kernel
theorem dX8_image_55 : decode cX8_image 55 = .ok (.aload_n 0, 1) := by decide +kernel
theorem dX8_image_56 : decode cX8_image 56 = .ok (.iconst 0, 1) := by decide +kernel
theorem dX8_image_57 : decode cX8_image 57 = .ok (.invokevirtual 91, 3) := by decide +kernel
theorem dX8_image_60 : decode cX8_image 60 = .ok (.ireturn, 1) := by decide +kernel
theorem dX8_back_0 : decode cX8_back 0 = .ok (.iload_n 1, 1) := by decide +kernel
theorem dX8_back_1 : decode cX8_back 1 = .ok (.iconst 0, 1) := by decide +kernel
theorem dX8_back_2 : decode cX8_back 2 = .ok (.iconst 1, 1) := by decide +kernel
theorem dX8_back_3 : decode cX8_back 3 = .ok (.invokestatic 83, 3) := by decide +kernel
theorem dX8_back_6 : decode cX8_back 6 = .ok (.ifCond .ne 9, 3) := by decide +kernel
theorem dX8_back_9 : decode cX8_back 9 = .ok (.aload_n 0, 1) := by decide +kernel
theorem dX8_back_10 : decode cX8_back 10 = .ok (.iconst (-1), 1) := by decide +kernel
theorem dX8_back_11 : decode cX8_back 11 = .ok (.invokevirtual 87, 3) := by decide +kernel
theorem dX8_back_14 : decode cX8_back 14 = .ok (.ireturn, 1) := by decide +kernel
theorem dX8_back_15 : decode cX8_back 15 = .ok (.aload_n 0, 1) := by decide +kernel
theorem dX8_back_16 : decode cX8_back 16 = .ok (.getfield 20, 3) := by decide +kernel
theorem dX8_back_19 : decode cX8_back 19 = .ok (.iload_n 1, 1) := by decide +kernel
theorem dX8_back_20 : decode cX8_back 20 = .ok (.baload, 1) := by decide +kernel
theorem dX8_back_21 : decode cX8_back 21 = .ok (.ifCond .ne 10, 3) := by decide +kernel
theorem dX8_back_24 : decode cX8_back 24 = .ok (.aload_n 0, 1) := by decide +kernel
theorem dX8_back_25 : decode cX8_back 25 = .ok (.bipush (-2), 2) := by decide +kernel
theorem dX8_back_27 : decode cX8_back 27 = .ok (.invokevirtual 87, 3) := by decide +kernel
theorem dX8_back_30 : decode cX8_back 30 = .ok (.ireturn, 1) := by decide +kernel
theorem dX8_back_31 : decode cX8_back 31 = .ok (.iconst 0, 1) := by decide +kernel
theorem dX8_back_32 : decode cX8_back 32 = .ok (.istore_n 2, 1) := by decide +kernel
theorem dX8_back_33 : decode cX8_back 33 = .ok (.iload_n 2, 1) := by decide +kernel
theorem dX8_back_34 : decode cX8_back 34 = .ok (.sipush 8047, 3) := by decide +kernel
theorem dX8_back_37 : decode cX8_back 37 = .ok (.if_icmp .ge 27, 3) := by decide +kernel
theorem dX8_back_40 : decode cX8_back 40 = .ok (.aload_n 0, 1) := by decide +kernel
theorem dX8_back_41 : decode cX8_back 41 = .ok (.getfield 13, 3) := by decide +kernel
theorem dX8_back_44 : decode cX8_back 44 = .ok (.iload_n 2, 1) := by decide +kernel
theorem dX8_back_45 : decode cX8_back 45 = .ok (.aload_n 0, 1) := by decide +kernel
theorem dX8_back_46 : decode cX8_back 46 = .ok (.getfield 17, 3) := by decide +kernel
theorem dX8_back_49 : decode cX8_back 49 = .ok (.sipush 8047, 3) := by decide +kernel
theorem dX8_back_52 : decode cX8_back 52 = .ok (.iload_n 1, 1) := by decide +kernel
theorem dX8_back_53 : decode cX8_back 53 = .ok (.imul, 1) := by decide +kernel
theorem dX8_back_54 : decode cX8_back 54 = .ok (.iload_n 2, 1) := by decide +kernel
theorem dX8_back_55 : decode cX8_back 55 = .ok (.iadd, 1) := by decide +kernel
theorem dX8_back_56 : decode cX8_back 56 = .ok (.iaload, 1) := by decide +kernel
theorem dX8_back_57 : decode cX8_back 57 = .ok (.iastore, 1) := by decide +kernel
theorem dX8_back_58 : decode cX8_back 58 = .ok (.iinc 2 1, 3) := by decide +kernel
theorem dX8_back_61 : decode cX8_back 61 = .ok (.goto (-28), 3) := by decide +kernel
theorem dX8_back_64 : decode cX8_back 64 = .ok (.aload_n 0, 1) := by decide +kernel
theorem dX8_back_65 : decode cX8_back 65 = .ok (.iconst 0, 1) := by decide +kernel
theorem dX8_back_66 : decode cX8_back 66 = .ok (.invokevirtual 91, 3) := by decide +kernel
theorem dX8_back_69 : decode cX8_back 69 = .ok (.ireturn, 1) := by decide +kernel
theorem dX8_isJoint_0 : decode cX8_isJoint 0 = .ok (.iload_n 0, 1) := by decide +kernel
theorem dX8_isJoint_1 : decode cX8_isJoint 1 = .ok (.iconst 0, 1) := by decide +kernel
theorem dX8_isJoint_2 : decode cX8_isJoint 2 = .ok (.bipush 47, 2) := by decide +kernel
theorem dX8_isJoint_4 : decode cX8_isJoint 4 = .ok (.invokestatic 83, 3) := by decide +kernel
theorem dX8_isJoint_7 : decode cX8_isJoint 7 = .ok (.ireturn, 1) := by decide +kernel
theorem dX8_isWind_0 : decode cX8_isWind 0 = .ok (.iload_n 1, 1) := by decide +kernel
theorem dX8_isWind_1 : decode cX8_isWind 1 = .ok (.iconst 0, 1) := by decide +kernel
theorem dX8_isWind_2 : decode cX8_isWind 2 = .ok (.aload_n 0, 1) := by decide +kernel
theorem dX8_isWind_3 : decode cX8_isWind 3 = .ok (.getfield 13, 3) := by decide +kernel
theorem dX8_isWind_6 : decode cX8_isWind 6 = .ok (.sipush 1633, 3) := by decide +kernel
theorem dX8_isWind_9 : decode cX8_isWind 9 = .ok (.iaload, 1) := by decide +kernel
theorem dX8_isWind_10 : decode cX8_isWind 10 = .ok (.iconst 1, 1) := by decide +kernel
theorem dX8_isWind_11 : decode cX8_isWind 11 = .ok (.isub, 1) := by decide +kernel
theorem dX8_isWind_12 : decode cX8_isWind 12 = .ok (.invokestatic 83, 3) := by decide +kernel
theorem dX8_isWind_15 : decode cX8_isWind 15 = .ok (.ireturn, 1) := by decide +kernel
theorem dX8_isText_0 : decode cX8_isText 0 = .ok (.iload_n 1, 1) := by decide +kernel
theorem dX8_isText_1 : decode cX8_isText 1 = .ok (.iconst 0, 1) := by decide +kernel
theorem dX8_isText_2 : decode cX8_isText 2 = .ok (.aload_n 0, 1) := by decide +kernel
theorem dX8_isText_3 : decode cX8_isText 3 = .ok (.getfield 13, 3) := by decide +kernel
theorem dX8_isText_6 : decode cX8_isText 6 = .ok (.sipush 1634, 3) := by decide +kernel
theorem dX8_isText_9 : decode cX8_isText 9 = .ok (.iaload, 1) := by decide +kernel
theorem dX8_isText_10 : decode cX8_isText 10 = .ok (.iconst 1, 1) := by decide +kernel
theorem dX8_isText_11 : decode cX8_isText 11 = .ok (.isub, 1) := by decide +kernel
theorem dX8_isText_12 : decode cX8_isText 12 = .ok (.invokestatic 83, 3) := by decide +kernel
theorem dX8_isText_15 : decode cX8_isText 15 = .ok (.ireturn, 1) := by decide +kernel
theorem dX8_term_0 : decode cX8_term 0 = .ok (.aload_n 0, 1) := by decide +kernel
theorem dX8_term_1 : decode cX8_term 1 = .ok (.getfield 13, 3) := by decide +kernel
theorem dX8_term_4 : decode cX8_term 4 = .ok (.sipush 156, 3) := by decide +kernel
theorem dX8_term_7 : decode cX8_term 7 = .ok (.iload_n 1, 1) := by decide +kernel
theorem dX8_term_8 : decode cX8_term 8 = .ok (.iadd, 1) := by decide +kernel
theorem dX8_term_9 : decode cX8_term 9 = .ok (.iaload, 1) := by decide +kernel
theorem dX8_term_10 : decode cX8_term 10 = .ok (.ireturn, 1) := by decide +kernel
theorem dX8_windOf_0 : decode cX8_windOf 0 = .ok (.aload_n 0, 1) := by decide +kernel
theorem dX8_windOf_1 : decode cX8_windOf 1 = .ok (.getfield 13, 3) := by decide +kernel
theorem dX8_windOf_4 : decode cX8_windOf 4 = .ok (.sipush 165, 3) := by decide +kernel
theorem dX8_windOf_7 : decode cX8_windOf 7 = .ok (.iconst 3, 1) := by decide +kernel
theorem dX8_windOf_8 : decode cX8_windOf 8 = .ok (.iload_n 1, 1) := by decide +kernel
theorem dX8_windOf_9 : decode cX8_windOf 9 = .ok (.imul, 1) := by decide +kernel
theorem dX8_windOf_10 : decode cX8_windOf 10 = .ok (.iadd, 1) := by decide +kernel
theorem dX8_windOf_11 : decode cX8_windOf 11 = .ok (.iload_n 2, 1) := by decide +kernel
theorem dX8_windOf_12 : decode cX8_windOf 12 = .ok (.iadd, 1) := by decide +kernel
theorem dX8_windOf_13 : decode cX8_windOf 13 = .ok (.iaload, 1) := by decide +kernel
theorem dX8_windOf_14 : decode cX8_windOf 14 = .ok (.ireturn, 1) := by decide +kernel
theorem dX8_stiff_0 : decode cX8_stiff 0 = .ok (.iload_n 1, 1) := by decide +kernel
theorem dX8_stiff_1 : decode cX8_stiff 1 = .ok (.invokestatic 94, 3) := by decide +kernel
theorem dX8_stiff_4 : decode cX8_stiff 4 = .ok (.ifCond .eq 13, 3) := by decide +kernel
theorem dX8_stiff_7 : decode cX8_stiff 7 = .ok (.iload_n 2, 1) := by decide +kernel
theorem dX8_stiff_8 : decode cX8_stiff 8 = .ok (.iconst 1, 1) := by decide +kernel
theorem dX8_stiff_9 : decode cX8_stiff 9 = .ok (.bipush 9, 2) := by decide +kernel
theorem dX8_stiff_11 : decode cX8_stiff 11 = .ok (.invokestatic 83, 3) := by decide +kernel
theorem dX8_stiff_14 : decode cX8_stiff 14 = .ok (.ifCond .ne 9, 3) := by decide +kernel
theorem dX8_stiff_17 : decode cX8_stiff 17 = .ok (.aload_n 0, 1) := by decide +kernel
theorem dX8_stiff_18 : decode cX8_stiff 18 = .ok (.iconst (-1), 1) := by decide +kernel
theorem dX8_stiff_19 : decode cX8_stiff 19 = .ok (.invokevirtual 87, 3) := by decide +kernel
theorem dX8_stiff_22 : decode cX8_stiff 22 = .ok (.ireturn, 1) := by decide +kernel
theorem dX8_stiff_23 : decode cX8_stiff 23 = .ok (.aload_n 0, 1) := by decide +kernel
theorem dX8_stiff_24 : decode cX8_stiff 24 = .ok (.getfield 13, 3) := by decide +kernel
theorem dX8_stiff_27 : decode cX8_stiff 27 = .ok (.iconst 0, 1) := by decide +kernel
theorem dX8_stiff_28 : decode cX8_stiff 28 = .ok (.iload_n 1, 1) := by decide +kernel
theorem dX8_stiff_29 : decode cX8_stiff 29 = .ok (.iadd, 1) := by decide +kernel
theorem dX8_stiff_30 : decode cX8_stiff 30 = .ok (.iaload, 1) := by decide +kernel
theorem dX8_stiff_31 : decode cX8_stiff 31 = .ok (.istore_n 3, 1) := by decide +kernel
theorem dX8_stiff_32 : decode cX8_stiff 32 = .ok (.aload_n 0, 1) := by decide +kernel
theorem dX8_stiff_33 : decode cX8_stiff 33 = .ok (.getfield 13, 3) := by decide +kernel
theorem dX8_stiff_36 : decode cX8_stiff 36 = .ok (.iconst 0, 1) := by decide +kernel
theorem dX8_stiff_37 : decode cX8_stiff 37 = .ok (.iload_n 1, 1) := by decide +kernel
theorem dX8_stiff_38 : decode cX8_stiff 38 = .ok (.iadd, 1) := by decide +kernel
theorem dX8_stiff_39 : decode cX8_stiff 39 = .ok (.iload_n 2, 1) := by decide +kernel
theorem dX8_stiff_40 : decode cX8_stiff 40 = .ok (.iastore, 1) := by decide +kernel
theorem dX8_stiff_41 : decode cX8_stiff 41 = .ok (.aload_n 0, 1) := by decide +kernel
theorem dX8_stiff_42 : decode cX8_stiff 42 = .ok (.iload_n 3, 1) := by decide +kernel
theorem dX8_stiff_43 : decode cX8_stiff 43 = .ok (.invokevirtual 91, 3) := by decide +kernel
theorem dX8_stiff_46 : decode cX8_stiff 46 = .ok (.ireturn, 1) := by decide +kernel
theorem dX8_tier_0 : decode cX8_tier 0 = .ok (.iload_n 1, 1) := by decide +kernel
theorem dX8_tier_1 : decode cX8_tier 1 = .ok (.iconst 0, 1) := by decide +kernel
theorem dX8_tier_2 : decode cX8_tier 2 = .ok (.iconst 5, 1) := by decide +kernel
theorem dX8_tier_3 : decode cX8_tier 3 = .ok (.invokestatic 83, 3) := by decide +kernel
theorem dX8_tier_6 : decode cX8_tier 6 = .ok (.ifCond .eq 31, 3) := by decide +kernel
theorem dX8_tier_9 : decode cX8_tier 9 = .ok (.iload_n 2, 1) := by decide +kernel
theorem dX8_tier_10 : decode cX8_tier 10 = .ok (.iconst 0, 1) := by decide +kernel
theorem dX8_tier_11 : decode cX8_tier 11 = .ok (.iconst 1, 1) := by decide +kernel
theorem dX8_tier_12 : decode cX8_tier 12 = .ok (.invokestatic 83, 3) := by decide +kernel
theorem dX8_tier_15 : decode cX8_tier 15 = .ok (.ifCond .eq 22, 3) := by decide +kernel
theorem dX8_tier_18 : decode cX8_tier 18 = .ok (.iload_n 3, 1) := by decide +kernel
theorem dX8_tier_19 : decode cX8_tier 19 = .ok (.iconst 0, 1) := by decide +kernel
theorem dX8_tier_20 : decode cX8_tier 20 = .ok (.iload_n 2, 1) := by decide +kernel
theorem dX8_tier_21 : decode cX8_tier 21 = .ok (.ifCond .ne 8, 3) := by decide +kernel
theorem dX8_tier_24 : decode cX8_tier 24 = .ok (.bipush 20, 2) := by decide +kernel
theorem dX8_tier_26 : decode cX8_tier 26 = .ok (.goto 5, 3) := by decide +kernel
theorem dX8_tier_29 : decode cX8_tier 29 = .ok (.ldc 98, 2) := by decide +kernel
theorem dX8_tier_31 : decode cX8_tier 31 = .ok (.invokestatic 83, 3) := by decide +kernel
theorem dX8_tier_34 : decode cX8_tier 34 = .ok (.ifCond .ne 9, 3) := by decide +kernel
theorem dX8_tier_37 : decode cX8_tier 37 = .ok (.aload_n 0, 1) := by decide +kernel
theorem dX8_tier_38 : decode cX8_tier 38 = .ok (.iconst (-1), 1) := by decide +kernel
theorem dX8_tier_39 : decode cX8_tier 39 = .ok (.invokevirtual 87, 3) := by decide +kernel
theorem dX8_tier_42 : decode cX8_tier 42 = .ok (.ireturn, 1) := by decide +kernel
theorem dX8_tier_43 : decode cX8_tier 43 = .ok (.iload_n 2, 1) := by decide +kernel
theorem dX8_tier_44 : decode cX8_tier 44 = .ok (.ifCond .ne 9, 3) := by decide +kernel
theorem dX8_tier_47 : decode cX8_tier 47 = .ok (.sipush 144, 3) := by decide +kernel
theorem dX8_tier_50 : decode cX8_tier 50 = .ok (.goto 6, 3) := by decide +kernel
theorem dX8_tier_53 : decode cX8_tier 53 = .ok (.sipush 150, 3) := by decide +kernel
theorem dX8_tier_56 : decode cX8_tier 56 = .ok (.iload_n 1, 1) := by decide +kernel
theorem dX8_tier_57 : decode cX8_tier 57 = .ok (.iadd, 1) := by decide +kernel
theorem dX8_tier_58 : decode cX8_tier 58 = .ok (.istore 4, 2) := by decide +kernel
theorem dX8_tier_60 : decode cX8_tier 60 = .ok (.aload_n 0, 1) := by decide +kernel
theorem dX8_tier_61 : decode cX8_tier 61 = .ok (.getfield 13, 3) := by decide +kernel
theorem dX8_tier_64 : decode cX8_tier 64 = .ok (.iload 4, 2) := by decide +kernel
theorem dX8_tier_66 : decode cX8_tier 66 = .ok (.iaload, 1) := by decide +kernel
theorem dX8_tier_67 : decode cX8_tier 67 = .ok (.istore 5, 2) := by decide +kernel
theorem dX8_tier_69 : decode cX8_tier 69 = .ok (.aload_n 0, 1) := by decide +kernel
theorem dX8_tier_70 : decode cX8_tier 70 = .ok (.getfield 13, 3) := by decide +kernel
theorem dX8_tier_73 : decode cX8_tier 73 = .ok (.iload 4, 2) := by decide +kernel
theorem dX8_tier_75 : decode cX8_tier 75 = .ok (.iload_n 3, 1) := by decide +kernel
theorem dX8_tier_76 : decode cX8_tier 76 = .ok (.iastore, 1) := by decide +kernel
theorem dX8_tier_77 : decode cX8_tier 77 = .ok (.aload_n 0, 1) := by decide +kernel
theorem dX8_tier_78 : decode cX8_tier 78 = .ok (.iload 5, 2) := by decide +kernel
theorem dX8_tier_80 : decode cX8_tier 80 = .ok (.invokevirtual 91, 3) := by decide +kernel
theorem dX8_tier_83 : decode cX8_tier 83 = .ok (.ireturn, 1) := by decide +kernel
theorem dX8_terms_0 : decode cX8_terms 0 = .ok (.iload_n 1, 1) := by decide +kernel
theorem dX8_terms_1 : decode cX8_terms 1 = .ok (.iconst 0, 1) := by decide +kernel
theorem dX8_terms_2 : decode cX8_terms 2 = .ok (.bipush 8, 2) := by decide +kernel
theorem dX8_terms_4 : decode cX8_terms 4 = .ok (.invokestatic 83, 3) := by decide +kernel
theorem dX8_terms_7 : decode cX8_terms 7 = .ok (.ifCond .ne 9, 3) := by decide +kernel
theorem dX8_terms_10 : decode cX8_terms 10 = .ok (.aload_n 0, 1) := by decide +kernel
theorem dX8_terms_11 : decode cX8_terms 11 = .ok (.iconst (-1), 1) := by decide +kernel
theorem dX8_terms_12 : decode cX8_terms 12 = .ok (.invokevirtual 87, 3) := by decide +kernel
theorem dX8_terms_15 : decode cX8_terms 15 = .ok (.ireturn, 1) := by decide +kernel
theorem dX8_terms_16 : decode cX8_terms 16 = .ok (.iload_n 1, 1) := by decide +kernel
theorem dX8_terms_17 : decode cX8_terms 17 = .ok (.iconst 2, 1) := by decide +kernel
theorem dX8_terms_18 : decode cX8_terms 18 = .ok (.if_icmp .lt 9, 3) := by decide +kernel
theorem dX8_terms_21 : decode cX8_terms 21 = .ok (.iload_n 1, 1) := by decide +kernel
theorem dX8_terms_22 : decode cX8_terms 22 = .ok (.bipush 8, 2) := by decide +kernel
theorem dX8_terms_24 : decode cX8_terms 24 = .ok (.if_icmp .ne 7, 3) := by decide +kernel
theorem dX8_terms_27 : decode cX8_terms 27 = .ok (.iconst 1, 1) := by decide +kernel
theorem dX8_terms_28 : decode cX8_terms 28 = .ok (.goto 4, 3) := by decide +kernel
theorem dX8_terms_31 : decode cX8_terms 31 = .ok (.iconst 0, 1) := by decide +kernel
theorem dX8_terms_32 : decode cX8_terms 32 = .ok (.istore_n 3, 1) := by decide +kernel
theorem dX8_terms_33 : decode cX8_terms 33 = .ok (.iload_n 1, 1) := by decide +kernel
theorem dX8_terms_34 : decode cX8_terms 34 = .ok (.iconst 2, 1) := by decide +kernel
theorem dX8_terms_35 : decode cX8_terms 35 = .ok (.if_icmp .ge 8, 3) := by decide +kernel
theorem dX8_terms_38 : decode cX8_terms 38 = .ok (.ldc 98, 2) := by decide +kernel
theorem dX8_terms_40 : decode cX8_terms 40 = .ok (.goto 52, 3) := by decide +kernel
theorem dX8_terms_43 : decode cX8_terms 43 = .ok (.iload_n 1, 1) := by decide +kernel
theorem dX8_terms_44 : decode cX8_terms 44 = .ok (.iconst 2, 1) := by decide +kernel
theorem dX8_terms_45 : decode cX8_terms 45 = .ok (.if_icmp .eq 8, 3) := by decide +kernel
theorem dX8_terms_48 : decode cX8_terms 48 = .ok (.iload_n 1, 1) := by decide +kernel
theorem dX8_terms_49 : decode cX8_terms 49 = .ok (.iconst 5, 1) := by decide +kernel
theorem dX8_terms_50 : decode cX8_terms 50 = .ok (.if_icmp .ne 8, 3) := by decide +kernel
theorem dX8_terms_53 : decode cX8_terms 53 = .ok (.bipush 100, 2) := by decide +kernel
theorem dX8_terms_55 : decode cX8_terms 55 = .ok (.goto 37, 3) := by decide +kernel
theorem dX8_terms_58 : decode cX8_terms 58 = .ok (.iload_n 1, 1) := by decide +kernel
theorem dX8_terms_59 : decode cX8_terms 59 = .ok (.iconst 3, 1) := by decide +kernel
theorem dX8_terms_60 : decode cX8_terms 60 = .ok (.if_icmp .ne 8, 3) := by decide +kernel
theorem dX8_terms_63 : decode cX8_terms 63 = .ok (.bipush 10, 2) := by decide +kernel
theorem dX8_terms_65 : decode cX8_terms 65 = .ok (.goto 27, 3) := by decide +kernel
theorem dX8_terms_68 : decode cX8_terms 68 = .ok (.iload_n 1, 1) := by decide +kernel
theorem dX8_terms_69 : decode cX8_terms 69 = .ok (.iconst 4, 1) := by decide +kernel
theorem dX8_terms_70 : decode cX8_terms 70 = .ok (.if_icmp .ne 8, 3) := by decide +kernel
theorem dX8_terms_73 : decode cX8_terms 73 = .ok (.bipush 50, 2) := by decide +kernel
theorem dX8_terms_75 : decode cX8_terms 75 = .ok (.goto 17, 3) := by decide +kernel
theorem dX8_terms_78 : decode cX8_terms 78 = .ok (.iload_n 1, 1) := by decide +kernel
theorem dX8_terms_79 : decode cX8_terms 79 = .ok (.bipush 8, 2) := by decide +kernel
theorem dX8_terms_81 : decode cX8_terms 81 = .ok (.if_icmp .ne 8, 3) := by decide +kernel
theorem dX8_terms_84 : decode cX8_terms 84 = .ok (.bipush 40, 2) := by decide +kernel
theorem dX8_terms_86 : decode cX8_terms 86 = .ok (.goto 6, 3) := by decide +kernel
theorem dX8_terms_89 : decode cX8_terms 89 = .ok (.sipush 1000, 3) := by decide +kernel
theorem dX8_terms_92 : decode cX8_terms 92 = .ok (.istore 4, 2) := by decide +kernel
theorem dX8_terms_94 : decode cX8_terms 94 = .ok (.iload_n 2, 1) := by decide +kernel
theorem dX8_terms_95 : decode cX8_terms 95 = .ok (.iload_n 3, 1) := by decide +kernel
theorem dX8_terms_96 : decode cX8_terms 96 = .ok (.iload 4, 2) := by decide +kernel
theorem dX8_terms_98 : decode cX8_terms 98 = .ok (.invokestatic 83, 3) := by decide +kernel
theorem dX8_terms_101 : decode cX8_terms 101 = .ok (.ifCond .ne 9, 3) := by decide +kernel
theorem dX8_terms_104 : decode cX8_terms 104 = .ok (.aload_n 0, 1) := by decide +kernel
theorem dX8_terms_105 : decode cX8_terms 105 = .ok (.iconst (-1), 1) := by decide +kernel
theorem dX8_terms_106 : decode cX8_terms 106 = .ok (.invokevirtual 87, 3) := by decide +kernel
theorem dX8_terms_109 : decode cX8_terms 109 = .ok (.ireturn, 1) := by decide +kernel
theorem dX8_terms_110 : decode cX8_terms 110 = .ok (.iload_n 1, 1) := by decide +kernel
theorem dX8_terms_111 : decode cX8_terms 111 = .ok (.ifCond .ne 12, 3) := by decide +kernel
theorem dX8_terms_114 : decode cX8_terms 114 = .ok (.iload_n 2, 1) := by decide +kernel
theorem dX8_terms_115 : decode cX8_terms 115 = .ok (.aload_n 0, 1) := by decide +kernel
theorem dX8_terms_116 : decode cX8_terms 116 = .ok (.iconst 1, 1) := by decide +kernel
theorem dX8_terms_117 : decode cX8_terms 117 = .ok (.invokevirtual 99, 3) := by decide +kernel
theorem dX8_terms_120 : decode cX8_terms 120 = .ok (.if_icmp .lt 17, 3) := by decide +kernel
theorem dX8_terms_123 : decode cX8_terms 123 = .ok (.iload_n 1, 1) := by decide +kernel
theorem dX8_terms_124 : decode cX8_terms 124 = .ok (.iconst 1, 1) := by decide +kernel
theorem dX8_terms_125 : decode cX8_terms 125 = .ok (.if_icmp .ne 19, 3) := by decide +kernel
theorem dX8_terms_128 : decode cX8_terms 128 = .ok (.iload_n 2, 1) := by decide +kernel
theorem dX8_terms_129 : decode cX8_terms 129 = .ok (.aload_n 0, 1) := by decide +kernel
theorem dX8_terms_130 : decode cX8_terms 130 = .ok (.iconst 0, 1) := by decide +kernel
theorem dX8_terms_131 : decode cX8_terms 131 = .ok (.invokevirtual 99, 3) := by decide +kernel
theorem dX8_terms_134 : decode cX8_terms 134 = .ok (.if_icmp .le 10, 3) := by decide +kernel
theorem dX8_terms_137 : decode cX8_terms 137 = .ok (.aload_n 0, 1) := by decide +kernel
theorem dX8_terms_138 : decode cX8_terms 138 = .ok (.bipush (-3), 2) := by decide +kernel
theorem dX8_terms_140 : decode cX8_terms 140 = .ok (.invokevirtual 87, 3) := by decide +kernel
theorem dX8_terms_143 : decode cX8_terms 143 = .ok (.ireturn, 1) := by decide +kernel
theorem dX8_terms_144 : decode cX8_terms 144 = .ok (.aload_n 0, 1) := by decide +kernel
theorem dX8_terms_145 : decode cX8_terms 145 = .ok (.iload_n 1, 1) := by decide +kernel
theorem dX8_terms_146 : decode cX8_terms 146 = .ok (.invokevirtual 99, 3) := by decide +kernel
theorem dX8_terms_149 : decode cX8_terms 149 = .ok (.istore 5, 2) := by decide +kernel
theorem dX8_terms_151 : decode cX8_terms 151 = .ok (.aload_n 0, 1) := by decide +kernel
theorem dX8_terms_152 : decode cX8_terms 152 = .ok (.getfield 13, 3) := by decide +kernel
theorem dX8_terms_155 : decode cX8_terms 155 = .ok (.sipush 156, 3) := by decide +kernel
theorem dX8_terms_158 : decode cX8_terms 158 = .ok (.iload_n 1, 1) := by decide +kernel
theorem dX8_terms_159 : decode cX8_terms 159 = .ok (.iadd, 1) := by decide +kernel
theorem dX8_terms_160 : decode cX8_terms 160 = .ok (.iload_n 2, 1) := by decide +kernel
theorem dX8_terms_161 : decode cX8_terms 161 = .ok (.iastore, 1) := by decide +kernel
theorem dX8_terms_162 : decode cX8_terms 162 = .ok (.aload_n 0, 1) := by decide +kernel
theorem dX8_terms_163 : decode cX8_terms 163 = .ok (.iload 5, 2) := by decide +kernel
theorem dX8_terms_165 : decode cX8_terms 165 = .ok (.invokevirtual 91, 3) := by decide +kernel
theorem dX8_terms_168 : decode cX8_terms 168 = .ok (.ireturn, 1) := by decide +kernel
theorem dX8_wind_0 : decode cX8_wind 0 = .ok (.iload_n 1, 1) := by decide +kernel
theorem dX8_wind_1 : decode cX8_wind 1 = .ok (.iconst 0, 1) := by decide +kernel
theorem dX8_wind_2 : decode cX8_wind 2 = .ok (.bipush 7, 2) := by decide +kernel
theorem dX8_wind_4 : decode cX8_wind 4 = .ok (.invokestatic 83, 3) := by decide +kernel
theorem dX8_wind_7 : decode cX8_wind 7 = .ok (.ifCond .eq 23, 3) := by decide +kernel
theorem dX8_wind_10 : decode cX8_wind 10 = .ok (.iload_n 2, 1) := by decide +kernel
theorem dX8_wind_11 : decode cX8_wind 11 = .ok (.iconst 1, 1) := by decide +kernel
theorem dX8_wind_12 : decode cX8_wind 12 = .ok (.bipush 100, 2) := by decide +kernel
theorem dX8_wind_14 : decode cX8_wind 14 = .ok (.invokestatic 83, 3) := by decide +kernel
theorem dX8_wind_17 : decode cX8_wind 17 = .ok (.ifCond .eq 13, 3) := by decide +kernel
theorem dX8_wind_20 : decode cX8_wind 20 = .ok (.iload_n 3, 1) := by decide +kernel
theorem dX8_wind_21 : decode cX8_wind 21 = .ok (.iconst 1, 1) := by decide +kernel
theorem dX8_wind_22 : decode cX8_wind 22 = .ok (.ldc 102, 2) := by decide +kernel
theorem dX8_wind_24 : decode cX8_wind 24 = .ok (.invokestatic 83, 3) := by decide +kernel
theorem dX8_wind_27 : decode cX8_wind 27 = .ok (.ifCond .ne 9, 3) := by decide +kernel
theorem dX8_wind_30 : decode cX8_wind 30 = .ok (.aload_n 0, 1) := by decide +kernel
theorem dX8_wind_31 : decode cX8_wind 31 = .ok (.iconst (-1), 1) := by decide +kernel
theorem dX8_wind_32 : decode cX8_wind 32 = .ok (.invokevirtual 87, 3) := by decide +kernel
theorem dX8_wind_35 : decode cX8_wind 35 = .ok (.ireturn, 1) := by decide +kernel
theorem dX8_wind_36 : decode cX8_wind 36 = .ok (.aload_n 0, 1) := by decide +kernel
theorem dX8_wind_37 : decode cX8_wind 37 = .ok (.getfield 13, 3) := by decide +kernel
theorem dX8_wind_40 : decode cX8_wind 40 = .ok (.sipush 1633, 3) := by decide +kernel
theorem dX8_wind_43 : decode cX8_wind 43 = .ok (.iaload, 1) := by decide +kernel
theorem dX8_wind_44 : decode cX8_wind 44 = .ok (.istore 4, 2) := by decide +kernel
theorem dX8_wind_46 : decode cX8_wind 46 = .ok (.iload 4, 2) := by decide +kernel
theorem dX8_wind_48 : decode cX8_wind 48 = .ok (.bipush 16, 2) := by decide +kernel
theorem dX8_wind_50 : decode cX8_wind 50 = .ok (.if_icmp .ne 10, 3) := by decide +kernel
theorem dX8_wind_53 : decode cX8_wind 53 = .ok (.aload_n 0, 1) := by decide +kernel
theorem dX8_wind_54 : decode cX8_wind 54 = .ok (.bipush (-5), 2) := by decide +kernel
theorem dX8_wind_56 : decode cX8_wind 56 = .ok (.invokevirtual 87, 3) := by decide +kernel
theorem dX8_wind_59 : decode cX8_wind 59 = .ok (.ireturn, 1) := by decide +kernel
theorem dX8_wind_60 : decode cX8_wind 60 = .ok (.aload_n 0, 1) := by decide +kernel
theorem dX8_wind_61 : decode cX8_wind 61 = .ok (.getfield 13, 3) := by decide +kernel
theorem dX8_wind_64 : decode cX8_wind 64 = .ok (.sipush 165, 3) := by decide +kernel
theorem dX8_wind_67 : decode cX8_wind 67 = .ok (.iconst 3, 1) := by decide +kernel
theorem dX8_wind_68 : decode cX8_wind 68 = .ok (.iload 4, 2) := by decide +kernel
theorem dX8_wind_70 : decode cX8_wind 70 = .ok (.imul, 1) := by decide +kernel
theorem dX8_wind_71 : decode cX8_wind 71 = .ok (.iadd, 1) := by decide +kernel
theorem dX8_wind_72 : decode cX8_wind 72 = .ok (.iload_n 1, 1) := by decide +kernel
theorem dX8_wind_73 : decode cX8_wind 73 = .ok (.iastore, 1) := by decide +kernel
theorem dX8_wind_74 : decode cX8_wind 74 = .ok (.aload_n 0, 1) := by decide +kernel
theorem dX8_wind_75 : decode cX8_wind 75 = .ok (.getfield 13, 3) := by decide +kernel
theorem dX8_wind_78 : decode cX8_wind 78 = .ok (.sipush 165, 3) := by decide +kernel
theorem dX8_wind_81 : decode cX8_wind 81 = .ok (.iconst 3, 1) := by decide +kernel
theorem dX8_wind_82 : decode cX8_wind 82 = .ok (.iload 4, 2) := by decide +kernel
theorem dX8_wind_84 : decode cX8_wind 84 = .ok (.imul, 1) := by decide +kernel
theorem dX8_wind_85 : decode cX8_wind 85 = .ok (.iadd, 1) := by decide +kernel
theorem dX8_wind_86 : decode cX8_wind 86 = .ok (.iconst 1, 1) := by decide +kernel
theorem dX8_wind_87 : decode cX8_wind 87 = .ok (.iadd, 1) := by decide +kernel
theorem dX8_wind_88 : decode cX8_wind 88 = .ok (.iload_n 2, 1) := by decide +kernel
theorem dX8_wind_89 : decode cX8_wind 89 = .ok (.iastore, 1) := by decide +kernel
theorem dX8_wind_90 : decode cX8_wind 90 = .ok (.aload_n 0, 1) := by decide +kernel
theorem dX8_wind_91 : decode cX8_wind 91 = .ok (.getfield 13, 3) := by decide +kernel
theorem dX8_wind_94 : decode cX8_wind 94 = .ok (.sipush 165, 3) := by decide +kernel
theorem dX8_wind_97 : decode cX8_wind 97 = .ok (.iconst 3, 1) := by decide +kernel
theorem dX8_wind_98 : decode cX8_wind 98 = .ok (.iload 4, 2) := by decide +kernel
theorem dX8_wind_100 : decode cX8_wind 100 = .ok (.imul, 1) := by decide +kernel
theorem dX8_wind_101 : decode cX8_wind 101 = .ok (.iadd, 1) := by decide +kernel
theorem dX8_wind_102 : decode cX8_wind 102 = .ok (.iconst 2, 1) := by decide +kernel
theorem dX8_wind_103 : decode cX8_wind 103 = .ok (.iadd, 1) := by decide +kernel
theorem dX8_wind_104 : decode cX8_wind 104 = .ok (.iload_n 3, 1) := by decide +kernel
theorem dX8_wind_105 : decode cX8_wind 105 = .ok (.iastore, 1) := by decide +kernel
theorem dX8_wind_106 : decode cX8_wind 106 = .ok (.aload_n 0, 1) := by decide +kernel
theorem dX8_wind_107 : decode cX8_wind 107 = .ok (.getfield 13, 3) := by decide +kernel
theorem dX8_wind_110 : decode cX8_wind 110 = .ok (.sipush 1633, 3) := by decide +kernel
theorem dX8_wind_113 : decode cX8_wind 113 = .ok (.dup2, 1) := by decide +kernel
theorem dX8_wind_114 : decode cX8_wind 114 = .ok (.iaload, 1) := by decide +kernel
theorem dX8_wind_115 : decode cX8_wind 115 = .ok (.iconst 1, 1) := by decide +kernel
theorem dX8_wind_116 : decode cX8_wind 116 = .ok (.iadd, 1) := by decide +kernel
theorem dX8_wind_117 : decode cX8_wind 117 = .ok (.iastore, 1) := by decide +kernel
theorem dX8_wind_118 : decode cX8_wind 118 = .ok (.aload_n 0, 1) := by decide +kernel
theorem dX8_wind_119 : decode cX8_wind 119 = .ok (.iload 4, 2) := by decide +kernel
theorem dX8_wind_121 : decode cX8_wind 121 = .ok (.invokevirtual 91, 3) := by decide +kernel
theorem dX8_wind_124 : decode cX8_wind 124 = .ok (.ireturn, 1) := by decide +kernel
theorem dX8_plate_0 : decode cX8_plate 0 = .ok (.iload_n 1, 1) := by decide +kernel
theorem dX8_plate_1 : decode cX8_plate 1 = .ok (.invokestatic 94, 3) := by decide +kernel
theorem dX8_plate_4 : decode cX8_plate 4 = .ok (.ifCond .eq 12, 3) := by decide +kernel
theorem dX8_plate_7 : decode cX8_plate 7 = .ok (.iload_n 2, 1) := by decide +kernel
theorem dX8_plate_8 : decode cX8_plate 8 = .ok (.iconst 0, 1) := by decide +kernel
theorem dX8_plate_9 : decode cX8_plate 9 = .ok (.iconst 4, 1) := by decide +kernel
theorem dX8_plate_10 : decode cX8_plate 10 = .ok (.invokestatic 83, 3) := by decide +kernel
theorem dX8_plate_13 : decode cX8_plate 13 = .ok (.ifCond .ne 9, 3) := by decide +kernel
theorem dX8_plate_16 : decode cX8_plate 16 = .ok (.aload_n 0, 1) := by decide +kernel
theorem dX8_plate_17 : decode cX8_plate 17 = .ok (.iconst (-1), 1) := by decide +kernel
theorem dX8_plate_18 : decode cX8_plate 18 = .ok (.invokevirtual 87, 3) := by decide +kernel
theorem dX8_plate_21 : decode cX8_plate 21 = .ok (.ireturn, 1) := by decide +kernel
theorem dX8_plate_22 : decode cX8_plate 22 = .ok (.aload_n 0, 1) := by decide +kernel
theorem dX8_plate_23 : decode cX8_plate 23 = .ok (.getfield 13, 3) := by decide +kernel
theorem dX8_plate_26 : decode cX8_plate 26 = .ok (.bipush 48, 2) := by decide +kernel
theorem dX8_plate_28 : decode cX8_plate 28 = .ok (.iload_n 1, 1) := by decide +kernel
theorem dX8_plate_29 : decode cX8_plate 29 = .ok (.iadd, 1) := by decide +kernel
theorem dX8_plate_30 : decode cX8_plate 30 = .ok (.iaload, 1) := by decide +kernel
theorem dX8_plate_31 : decode cX8_plate 31 = .ok (.ifCond .ne 10, 3) := by decide +kernel
theorem dX8_plate_34 : decode cX8_plate 34 = .ok (.aload_n 0, 1) := by decide +kernel
theorem dX8_plate_35 : decode cX8_plate 35 = .ok (.bipush (-3), 2) := by decide +kernel
theorem dX8_plate_37 : decode cX8_plate 37 = .ok (.invokevirtual 87, 3) := by decide +kernel
theorem dX8_plate_40 : decode cX8_plate 40 = .ok (.ireturn, 1) := by decide +kernel
theorem dX8_plate_41 : decode cX8_plate 41 = .ok (.aload_n 0, 1) := by decide +kernel
theorem dX8_plate_42 : decode cX8_plate 42 = .ok (.getfield 13, 3) := by decide +kernel
theorem dX8_plate_45 : decode cX8_plate 45 = .ok (.bipush 96, 2) := by decide +kernel
theorem dX8_plate_47 : decode cX8_plate 47 = .ok (.iload_n 1, 1) := by decide +kernel
theorem dX8_plate_48 : decode cX8_plate 48 = .ok (.iadd, 1) := by decide +kernel
theorem dX8_plate_49 : decode cX8_plate 49 = .ok (.iaload, 1) := by decide +kernel
theorem dX8_plate_50 : decode cX8_plate 50 = .ok (.istore_n 3, 1) := by decide +kernel
theorem dX8_plate_51 : decode cX8_plate 51 = .ok (.aload_n 0, 1) := by decide +kernel
theorem dX8_plate_52 : decode cX8_plate 52 = .ok (.getfield 13, 3) := by decide +kernel
theorem dX8_plate_55 : decode cX8_plate 55 = .ok (.bipush 96, 2) := by decide +kernel
theorem dX8_plate_57 : decode cX8_plate 57 = .ok (.iload_n 1, 1) := by decide +kernel
theorem dX8_plate_58 : decode cX8_plate 58 = .ok (.iadd, 1) := by decide +kernel
theorem dX8_plate_59 : decode cX8_plate 59 = .ok (.iload_n 2, 1) := by decide +kernel
theorem dX8_plate_60 : decode cX8_plate 60 = .ok (.iastore, 1) := by decide +kernel
theorem dX8_plate_61 : decode cX8_plate 61 = .ok (.aload_n 0, 1) := by decide +kernel
theorem dX8_plate_62 : decode cX8_plate 62 = .ok (.iload_n 3, 1) := by decide +kernel
theorem dX8_plate_63 : decode cX8_plate 63 = .ok (.invokevirtual 91, 3) := by decide +kernel
theorem dX8_plate_66 : decode cX8_plate 66 = .ok (.ireturn, 1) := by decide +kernel
theorem dX8_holdsOf_0 : decode cX8_holdsOf 0 = .ok (.aload_n 0, 1) := by decide +kernel
theorem dX8_holdsOf_1 : decode cX8_holdsOf 1 = .ok (.getfield 13, 3) := by decide +kernel
theorem dX8_holdsOf_4 : decode cX8_holdsOf 4 = .ok (.bipush 48, 2) := by decide +kernel
theorem dX8_holdsOf_6 : decode cX8_holdsOf 6 = .ok (.iload_n 1, 1) := by decide +kernel
theorem dX8_holdsOf_7 : decode cX8_holdsOf 7 = .ok (.iadd, 1) := by decide +kernel
theorem dX8_holdsOf_8 : decode cX8_holdsOf 8 = .ok (.iaload, 1) := by decide +kernel
theorem dX8_holdsOf_9 : decode cX8_holdsOf 9 = .ok (.ifCond .ne 9, 3) := by decide +kernel
theorem dX8_holdsOf_12 : decode cX8_holdsOf 12 = .ok (.aload_n 0, 1) := by decide +kernel
theorem dX8_holdsOf_13 : decode cX8_holdsOf 13 = .ok (.iconst 0, 1) := by decide +kernel
theorem dX8_holdsOf_14 : decode cX8_holdsOf 14 = .ok (.invokevirtual 99, 3) := by decide +kernel
theorem dX8_holdsOf_17 : decode cX8_holdsOf 17 = .ok (.ireturn, 1) := by decide +kernel
theorem dX8_holdsOf_18 : decode cX8_holdsOf 18 = .ok (.aload_n 0, 1) := by decide +kernel
theorem dX8_holdsOf_19 : decode cX8_holdsOf 19 = .ok (.iconst 1, 1) := by decide +kernel
theorem dX8_holdsOf_20 : decode cX8_holdsOf 20 = .ok (.invokevirtual 99, 3) := by decide +kernel
theorem dX8_holdsOf_23 : decode cX8_holdsOf 23 = .ok (.aload_n 0, 1) := by decide +kernel
theorem dX8_holdsOf_24 : decode cX8_holdsOf 24 = .ok (.iconst 0, 1) := by decide +kernel
theorem dX8_holdsOf_25 : decode cX8_holdsOf 25 = .ok (.invokevirtual 99, 3) := by decide +kernel
theorem dX8_holdsOf_28 : decode cX8_holdsOf 28 = .ok (.aload_n 0, 1) := by decide +kernel
theorem dX8_holdsOf_29 : decode cX8_holdsOf 29 = .ok (.iconst 1, 1) := by decide +kernel
theorem dX8_holdsOf_30 : decode cX8_holdsOf 30 = .ok (.invokevirtual 99, 3) := by decide +kernel
theorem dX8_holdsOf_33 : decode cX8_holdsOf 33 = .ok (.isub, 1) := by decide +kernel
theorem dX8_holdsOf_34 : decode cX8_holdsOf 34 = .ok (.aload_n 0, 1) := by decide +kernel
theorem dX8_holdsOf_35 : decode cX8_holdsOf 35 = .ok (.getfield 13, 3) := by decide +kernel
theorem dX8_holdsOf_38 : decode cX8_holdsOf 38 = .ok (.bipush 96, 2) := by decide +kernel
theorem dX8_holdsOf_40 : decode cX8_holdsOf 40 = .ok (.iload_n 1, 1) := by decide +kernel
theorem dX8_holdsOf_41 : decode cX8_holdsOf 41 = .ok (.iadd, 1) := by decide +kernel
theorem dX8_holdsOf_42 : decode cX8_holdsOf 42 = .ok (.iaload, 1) := by decide +kernel
theorem dX8_holdsOf_43 : decode cX8_holdsOf 43 = .ok (.imul, 1) := by decide +kernel
theorem dX8_holdsOf_44 : decode cX8_holdsOf 44 = .ok (.iconst 4, 1) := by decide +kernel
theorem dX8_holdsOf_45 : decode cX8_holdsOf 45 = .ok (.idiv, 1) := by decide +kernel
theorem dX8_holdsOf_46 : decode cX8_holdsOf 46 = .ok (.iadd, 1) := by decide +kernel
theorem dX8_holdsOf_47 : decode cX8_holdsOf 47 = .ok (.ireturn, 1) := by decide +kernel
theorem dX8_joint_0 : decode cX8_joint 0 = .ok (.iload_n 1, 1) := by decide +kernel
theorem dX8_joint_1 : decode cX8_joint 1 = .ok (.invokestatic 94, 3) := by decide +kernel
theorem dX8_joint_4 : decode cX8_joint 4 = .ok (.ifCond .eq 12, 3) := by decide +kernel
theorem dX8_joint_7 : decode cX8_joint 7 = .ok (.iload_n 2, 1) := by decide +kernel
theorem dX8_joint_8 : decode cX8_joint 8 = .ok (.iconst 0, 1) := by decide +kernel
theorem dX8_joint_9 : decode cX8_joint 9 = .ok (.iconst 3, 1) := by decide +kernel
theorem dX8_joint_10 : decode cX8_joint 10 = .ok (.invokestatic 83, 3) := by decide +kernel
theorem dX8_joint_13 : decode cX8_joint 13 = .ok (.ifCond .ne 5, 3) := by decide +kernel
theorem dX8_joint_16 : decode cX8_joint 16 = .ok (.iconst (-1), 1) := by decide +kernel
theorem dX8_joint_17 : decode cX8_joint 17 = .ok (.ireturn, 1) := by decide +kernel
theorem dX8_joint_18 : decode cX8_joint 18 = .ok (.iload_n 2, 1) := by decide +kernel
theorem dX8_joint_19 : decode cX8_joint 19 = .ok (.ifCond .ne 15, 3) := by decide +kernel
theorem dX8_joint_22 : decode cX8_joint 22 = .ok (.aload_n 0, 1) := by decide +kernel
theorem dX8_joint_23 : decode cX8_joint 23 = .ok (.getfield 13, 3) := by decide +kernel
theorem dX8_joint_26 : decode cX8_joint 26 = .ok (.bipush 48, 2) := by decide +kernel
theorem dX8_joint_28 : decode cX8_joint 28 = .ok (.iload_n 1, 1) := by decide +kernel
theorem dX8_joint_29 : decode cX8_joint 29 = .ok (.iadd, 1) := by decide +kernel
theorem dX8_joint_30 : decode cX8_joint 30 = .ok (.iaload, 1) := by decide +kernel
theorem dX8_joint_31 : decode cX8_joint 31 = .ok (.goto 41, 3) := by decide +kernel
theorem dX8_joint_34 : decode cX8_joint 34 = .ok (.iload_n 2, 1) := by decide +kernel
theorem dX8_joint_35 : decode cX8_joint 35 = .ok (.iconst 1, 1) := by decide +kernel
theorem dX8_joint_36 : decode cX8_joint 36 = .ok (.if_icmp .ne 15, 3) := by decide +kernel
theorem dX8_joint_39 : decode cX8_joint 39 = .ok (.aload_n 0, 1) := by decide +kernel
theorem dX8_joint_40 : decode cX8_joint 40 = .ok (.getfield 13, 3) := by decide +kernel
theorem dX8_joint_43 : decode cX8_joint 43 = .ok (.bipush 96, 2) := by decide +kernel
theorem dX8_joint_45 : decode cX8_joint 45 = .ok (.iload_n 1, 1) := by decide +kernel
theorem dX8_joint_46 : decode cX8_joint 46 = .ok (.iadd, 1) := by decide +kernel
theorem dX8_joint_47 : decode cX8_joint 47 = .ok (.iaload, 1) := by decide +kernel
theorem dX8_joint_48 : decode cX8_joint 48 = .ok (.goto 24, 3) := by decide +kernel
theorem dX8_joint_51 : decode cX8_joint 51 = .ok (.iload_n 2, 1) := by decide +kernel
theorem dX8_joint_52 : decode cX8_joint 52 = .ok (.iconst 2, 1) := by decide +kernel
theorem dX8_joint_53 : decode cX8_joint 53 = .ok (.if_icmp .ne 11, 3) := by decide +kernel
theorem dX8_joint_56 : decode cX8_joint 56 = .ok (.aload_n 0, 1) := by decide +kernel
theorem dX8_joint_57 : decode cX8_joint 57 = .ok (.iload_n 1, 1) := by decide +kernel
theorem dX8_joint_58 : decode cX8_joint 58 = .ok (.invokevirtual 103, 3) := by decide +kernel
theorem dX8_joint_61 : decode cX8_joint 61 = .ok (.goto 11, 3) := by decide +kernel
theorem dX8_joint_64 : decode cX8_joint 64 = .ok (.aload_n 0, 1) := by decide +kernel
theorem dX8_joint_65 : decode cX8_joint 65 = .ok (.getfield 13, 3) := by decide +kernel
theorem dX8_joint_68 : decode cX8_joint 68 = .ok (.iconst 0, 1) := by decide +kernel
theorem dX8_joint_69 : decode cX8_joint 69 = .ok (.iload_n 1, 1) := by decide +kernel
theorem dX8_joint_70 : decode cX8_joint 70 = .ok (.iadd, 1) := by decide +kernel
theorem dX8_joint_71 : decode cX8_joint 71 = .ok (.iaload, 1) := by decide +kernel
theorem dX8_joint_72 : decode cX8_joint 72 = .ok (.ireturn, 1) := by decide +kernel
theorem dX8_eastOf_0 : decode cX8_eastOf 0 = .ok (.iload_n 0, 1) := by decide +kernel
theorem dX8_eastOf_1 : decode cX8_eastOf 1 = .ok (.ifCond .ne 8, 3) := by decide +kernel
theorem dX8_eastOf_4 : decode cX8_eastOf 4 = .ok (.bipush 10, 2) := by decide +kernel
theorem dX8_eastOf_6 : decode cX8_eastOf 6 = .ok (.goto 45, 3) := by decide +kernel
theorem dX8_eastOf_9 : decode cX8_eastOf 9 = .ok (.iload_n 0, 1) := by decide +kernel
theorem dX8_eastOf_10 : decode cX8_eastOf 10 = .ok (.iconst 1, 1) := by decide +kernel
theorem dX8_eastOf_11 : decode cX8_eastOf 11 = .ok (.if_icmp .eq 9, 3) := by decide +kernel
theorem dX8_eastOf_14 : decode cX8_eastOf 14 = .ok (.iload_n 0, 1) := by decide +kernel
theorem dX8_eastOf_15 : decode cX8_eastOf 15 = .ok (.bipush 7, 2) := by decide +kernel
theorem dX8_eastOf_17 : decode cX8_eastOf 17 = .ok (.if_icmp .ne 8, 3) := by decide +kernel
theorem dX8_eastOf_20 : decode cX8_eastOf 20 = .ok (.bipush 7, 2) := by decide +kernel
theorem dX8_eastOf_22 : decode cX8_eastOf 22 = .ok (.goto 29, 3) := by decide +kernel
theorem dX8_eastOf_25 : decode cX8_eastOf 25 = .ok (.iload_n 0, 1) := by decide +kernel
theorem dX8_eastOf_26 : decode cX8_eastOf 26 = .ok (.iconst 4, 1) := by decide +kernel
theorem dX8_eastOf_27 : decode cX8_eastOf 27 = .ok (.if_icmp .ne 8, 3) := by decide +kernel
theorem dX8_eastOf_30 : decode cX8_eastOf 30 = .ok (.bipush (-10), 2) := by decide +kernel
theorem dX8_eastOf_32 : decode cX8_eastOf 32 = .ok (.goto 19, 3) := by decide +kernel
theorem dX8_eastOf_35 : decode cX8_eastOf 35 = .ok (.iload_n 0, 1) := by decide +kernel
theorem dX8_eastOf_36 : decode cX8_eastOf 36 = .ok (.iconst 3, 1) := by decide +kernel
theorem dX8_eastOf_37 : decode cX8_eastOf 37 = .ok (.if_icmp .eq 8, 3) := by decide +kernel
theorem dX8_eastOf_40 : decode cX8_eastOf 40 = .ok (.iload_n 0, 1) := by decide +kernel
theorem dX8_eastOf_41 : decode cX8_eastOf 41 = .ok (.iconst 5, 1) := by decide +kernel
theorem dX8_eastOf_42 : decode cX8_eastOf 42 = .ok (.if_icmp .ne 8, 3) := by decide +kernel
theorem dX8_eastOf_45 : decode cX8_eastOf 45 = .ok (.bipush (-7), 2) := by decide +kernel
theorem dX8_eastOf_47 : decode cX8_eastOf 47 = .ok (.goto 4, 3) := by decide +kernel
theorem dX8_eastOf_50 : decode cX8_eastOf 50 = .ok (.iconst 0, 1) := by decide +kernel
theorem dX8_eastOf_51 : decode cX8_eastOf 51 = .ok (.ireturn, 1) := by decide +kernel
theorem dX8_northOf_0 : decode cX8_northOf 0 = .ok (.iload_n 0, 1) := by decide +kernel
theorem dX8_northOf_1 : decode cX8_northOf 1 = .ok (.bipush 6, 2) := by decide +kernel
theorem dX8_northOf_3 : decode cX8_northOf 3 = .ok (.iadd, 1) := by decide +kernel
theorem dX8_northOf_4 : decode cX8_northOf 4 = .ok (.bipush 8, 2) := by decide +kernel
theorem dX8_northOf_6 : decode cX8_northOf 6 = .ok (.irem, 1) := by decide +kernel
theorem dX8_northOf_7 : decode cX8_northOf 7 = .ok (.invokestatic 106, 3) := by decide +kernel
theorem dX8_northOf_10 : decode cX8_northOf 10 = .ok (.ireturn, 1) := by decide +kernel
theorem dX8_lays_0 : decode cX8_lays 0 = .ok (.lconst 0, 1) := by decide +kernel
theorem dX8_lays_1 : decode cX8_lays 1 = .ok (.lstore 4, 2) := by decide +kernel
theorem dX8_lays_3 : decode cX8_lays 3 = .ok (.lconst 0, 1) := by decide +kernel
theorem dX8_lays_4 : decode cX8_lays 4 = .ok (.lstore 6, 2) := by decide +kernel
theorem dX8_lays_6 : decode cX8_lays 6 = .ok (.iload_n 3, 1) := by decide +kernel
theorem dX8_lays_7 : decode cX8_lays 7 = .ok (.istore 8, 2) := by decide +kernel
theorem dX8_lays_9 : decode cX8_lays 9 = .ok (.iload 8, 2) := by decide +kernel
theorem dX8_lays_11 : decode cX8_lays 11 = .ok (.bipush 6, 2) := by decide +kernel
theorem dX8_lays_13 : decode cX8_lays 13 = .ok (.if_icmp .ge 67, 3) := by decide +kernel
theorem dX8_lays_16 : decode cX8_lays 16 = .ok (.lload 4, 2) := by decide +kernel
theorem dX8_lays_18 : decode cX8_lays 18 = .ok (.aload_n 0, 1) := by decide +kernel
theorem dX8_lays_19 : decode cX8_lays 19 = .ok (.iload_n 1, 1) := by decide +kernel
theorem dX8_lays_20 : decode cX8_lays 20 = .ok (.iconst 1, 1) := by decide +kernel
theorem dX8_lays_21 : decode cX8_lays 21 = .ok (.invokevirtual 109, 3) := by decide +kernel
theorem dX8_lays_24 : decode cX8_lays 24 = .ok (.i2l, 1) := by decide +kernel
theorem dX8_lays_25 : decode cX8_lays 25 = .ok (.aload_n 0, 1) := by decide +kernel
theorem dX8_lays_26 : decode cX8_lays 26 = .ok (.getfield 13, 3) := by decide +kernel
theorem dX8_lays_29 : decode cX8_lays 29 = .ok (.sipush 144, 3) := by decide +kernel
theorem dX8_lays_32 : decode cX8_lays 32 = .ok (.iload 8, 2) := by decide +kernel
theorem dX8_lays_34 : decode cX8_lays 34 = .ok (.iadd, 1) := by decide +kernel
theorem dX8_lays_35 : decode cX8_lays 35 = .ok (.iaload, 1) := by decide +kernel
theorem dX8_lays_36 : decode cX8_lays 36 = .ok (.i2l, 1) := by decide +kernel
theorem dX8_lays_37 : decode cX8_lays 37 = .ok (.lmul, 1) := by decide +kernel
theorem dX8_lays_38 : decode cX8_lays 38 = .ok (.ladd, 1) := by decide +kernel
theorem dX8_lays_39 : decode cX8_lays 39 = .ok (.lstore 4, 2) := by decide +kernel
theorem dX8_lays_41 : decode cX8_lays 41 = .ok (.lload 6, 2) := by decide +kernel
theorem dX8_lays_43 : decode cX8_lays 43 = .ok (.aload_n 0, 1) := by decide +kernel
theorem dX8_lays_44 : decode cX8_lays 44 = .ok (.iload_n 1, 1) := by decide +kernel
theorem dX8_lays_45 : decode cX8_lays 45 = .ok (.iconst 1, 1) := by decide +kernel
theorem dX8_lays_46 : decode cX8_lays 46 = .ok (.invokevirtual 109, 3) := by decide +kernel
theorem dX8_lays_49 : decode cX8_lays 49 = .ok (.i2l, 1) := by decide +kernel
theorem dX8_lays_50 : decode cX8_lays 50 = .ok (.aload_n 0, 1) := by decide +kernel
theorem dX8_lays_51 : decode cX8_lays 51 = .ok (.getfield 13, 3) := by decide +kernel
theorem dX8_lays_54 : decode cX8_lays 54 = .ok (.sipush 144, 3) := by decide +kernel
theorem dX8_lays_57 : decode cX8_lays 57 = .ok (.iload 8, 2) := by decide +kernel
theorem dX8_lays_59 : decode cX8_lays 59 = .ok (.iadd, 1) := by decide +kernel
theorem dX8_lays_60 : decode cX8_lays 60 = .ok (.iaload, 1) := by decide +kernel
theorem dX8_lays_61 : decode cX8_lays 61 = .ok (.i2l, 1) := by decide +kernel
theorem dX8_lays_62 : decode cX8_lays 62 = .ok (.lmul, 1) := by decide +kernel
theorem dX8_lays_63 : decode cX8_lays 63 = .ok (.iload 8, 2) := by decide +kernel
theorem dX8_lays_65 : decode cX8_lays 65 = .ok (.iload_n 3, 1) := by decide +kernel
theorem dX8_lays_66 : decode cX8_lays 66 = .ok (.isub, 1) := by decide +kernel
theorem dX8_lays_67 : decode cX8_lays 67 = .ok (.iconst 1, 1) := by decide +kernel
theorem dX8_lays_68 : decode cX8_lays 68 = .ok (.iadd, 1) := by decide +kernel
theorem dX8_lays_69 : decode cX8_lays 69 = .ok (.i2l, 1) := by decide +kernel
theorem dX8_lays_70 : decode cX8_lays 70 = .ok (.lmul, 1) := by decide +kernel
theorem dX8_lays_71 : decode cX8_lays 71 = .ok (.ladd, 1) := by decide +kernel
theorem dX8_lays_72 : decode cX8_lays 72 = .ok (.lstore 6, 2) := by decide +kernel
theorem dX8_lays_74 : decode cX8_lays 74 = .ok (.iinc 8 1, 3) := by decide +kernel
theorem dX8_lays_77 : decode cX8_lays 77 = .ok (.goto (-68), 3) := by decide +kernel
theorem dX8_lays_80 : decode cX8_lays 80 = .ok (.iload_n 2, 1) := by decide +kernel
theorem dX8_lays_81 : decode cX8_lays 81 = .ok (.iconst 1, 1) := by decide +kernel
theorem dX8_lays_82 : decode cX8_lays 82 = .ok (.if_icmp .ne 14, 3) := by decide +kernel
theorem dX8_lays_85 : decode cX8_lays 85 = .ok (.bipush 100, 2) := by decide +kernel
theorem dX8_lays_87 : decode cX8_lays 87 = .ok (.aload_n 0, 1) := by decide +kernel
theorem dX8_lays_88 : decode cX8_lays 88 = .ok (.iconst 4, 1) := by decide +kernel
theorem dX8_lays_89 : decode cX8_lays 89 = .ok (.invokevirtual 99, 3) := by decide +kernel
theorem dX8_lays_92 : decode cX8_lays 92 = .ok (.isub, 1) := by decide +kernel
theorem dX8_lays_93 : decode cX8_lays 93 = .ok (.goto 5, 3) := by decide +kernel
theorem dX8_lays_96 : decode cX8_lays 96 = .ok (.bipush 100, 2) := by decide +kernel
theorem dX8_lays_98 : decode cX8_lays 98 = .ok (.istore 8, 2) := by decide +kernel
theorem dX8_lays_100 : decode cX8_lays 100 = .ok (.lload 4, 2) := by decide +kernel
theorem dX8_lays_102 : decode cX8_lays 102 = .ok (.aload_n 0, 1) := by decide +kernel
theorem dX8_lays_103 : decode cX8_lays 103 = .ok (.iload_n 1, 1) := by decide +kernel
theorem dX8_lays_104 : decode cX8_lays 104 = .ok (.iconst 0, 1) := by decide +kernel
theorem dX8_lays_105 : decode cX8_lays 105 = .ok (.invokevirtual 109, 3) := by decide +kernel
theorem dX8_lays_108 : decode cX8_lays 108 = .ok (.invokestatic 106, 3) := by decide +kernel
theorem dX8_lays_111 : decode cX8_lays 111 = .ok (.i2l, 1) := by decide +kernel
theorem dX8_lays_112 : decode cX8_lays 112 = .ok (.lmul, 1) := by decide +kernel
theorem dX8_lays_113 : decode cX8_lays 113 = .ok (.iload 8, 2) := by decide +kernel
theorem dX8_lays_115 : decode cX8_lays 115 = .ok (.i2l, 1) := by decide +kernel
theorem dX8_lays_116 : decode cX8_lays 116 = .ok (.lmul, 1) := by decide +kernel
theorem dX8_lays_117 : decode cX8_lays 117 = .ok (.lstore 9, 2) := by decide +kernel
theorem dX8_lays_119 : decode cX8_lays 119 = .ok (.lload 4, 2) := by decide +kernel
theorem dX8_lays_121 : decode cX8_lays 121 = .ok (.aload_n 0, 1) := by decide +kernel
theorem dX8_lays_122 : decode cX8_lays 122 = .ok (.iload_n 1, 1) := by decide +kernel
theorem dX8_lays_123 : decode cX8_lays 123 = .ok (.iconst 0, 1) := by decide +kernel
theorem dX8_lays_124 : decode cX8_lays 124 = .ok (.invokevirtual 109, 3) := by decide +kernel
theorem dX8_lays_127 : decode cX8_lays 127 = .ok (.invokestatic 113, 3) := by decide +kernel
theorem dX8_lays_130 : decode cX8_lays 130 = .ok (.i2l, 1) := by decide +kernel
theorem dX8_lays_131 : decode cX8_lays 131 = .ok (.lmul, 1) := by decide +kernel
theorem dX8_lays_132 : decode cX8_lays 132 = .ok (.iload 8, 2) := by decide +kernel
theorem dX8_lays_134 : decode cX8_lays 134 = .ok (.i2l, 1) := by decide +kernel
theorem dX8_lays_135 : decode cX8_lays 135 = .ok (.lmul, 1) := by decide +kernel
theorem dX8_lays_136 : decode cX8_lays 136 = .ok (.lstore 11, 2) := by decide +kernel
theorem dX8_lays_138 : decode cX8_lays 138 = .ok (.lload 6, 2) := by decide +kernel
theorem dX8_lays_140 : decode cX8_lays 140 = .ok (.iload 8, 2) := by decide +kernel
theorem dX8_lays_142 : decode cX8_lays 142 = .ok (.i2l, 1) := by decide +kernel
theorem dX8_lays_143 : decode cX8_lays 143 = .ok (.lmul, 1) := by decide +kernel
theorem dX8_lays_144 : decode cX8_lays 144 = .ok (.aload_n 0, 1) := by decide +kernel
theorem dX8_lays_145 : decode cX8_lays 145 = .ok (.iconst 2, 1) := by decide +kernel
theorem dX8_lays_146 : decode cX8_lays 146 = .ok (.invokevirtual 99, 3) := by decide +kernel
theorem dX8_lays_149 : decode cX8_lays 149 = .ok (.i2l, 1) := by decide +kernel
theorem dX8_lays_150 : decode cX8_lays 150 = .ok (.lmul, 1) := by decide +kernel
theorem dX8_lays_151 : decode cX8_lays 151 = .ok (.bipush 10, 2) := by decide +kernel
theorem dX8_lays_153 : decode cX8_lays 153 = .ok (.aload_n 0, 1) := by decide +kernel
theorem dX8_lays_154 : decode cX8_lays 154 = .ok (.iconst 3, 1) := by decide +kernel
theorem dX8_lays_155 : decode cX8_lays 155 = .ok (.invokevirtual 99, 3) := by decide +kernel
theorem dX8_lays_158 : decode cX8_lays 158 = .ok (.isub, 1) := by decide +kernel
theorem dX8_lays_159 : decode cX8_lays 159 = .ok (.i2l, 1) := by decide +kernel
theorem dX8_lays_160 : decode cX8_lays 160 = .ok (.lmul, 1) := by decide +kernel
theorem dX8_lays_161 : decode cX8_lays 161 = .ok (.lstore 13, 2) := by decide +kernel
theorem dX8_lays_163 : decode cX8_lays 163 = .ok (.aload_n 0, 1) := by decide +kernel
theorem dX8_lays_164 : decode cX8_lays 164 = .ok (.lload 13, 2) := by decide +kernel
theorem dX8_lays_166 : decode cX8_lays 166 = .ok (.aload_n 0, 1) := by decide +kernel
theorem dX8_lays_167 : decode cX8_lays 167 = .ok (.iload_n 1, 1) := by decide +kernel
theorem dX8_lays_168 : decode cX8_lays 168 = .ok (.iconst 0, 1) := by decide +kernel
theorem dX8_lays_169 : decode cX8_lays 169 = .ok (.invokevirtual 109, 3) := by decide +kernel
theorem dX8_lays_172 : decode cX8_lays 172 = .ok (.invokestatic 106, 3) := by decide +kernel
theorem dX8_lays_175 : decode cX8_lays 175 = .ok (.i2l, 1) := by decide +kernel
theorem dX8_lays_176 : decode cX8_lays 176 = .ok (.lmul, 1) := by decide +kernel
theorem dX8_lays_177 : decode cX8_lays 177 = .ok (.putfield 116, 3) := by decide +kernel
theorem dX8_lays_180 : decode cX8_lays 180 = .ok (.aload_n 0, 1) := by decide +kernel
theorem dX8_lays_181 : decode cX8_lays 181 = .ok (.lload 13, 2) := by decide +kernel
theorem dX8_lays_183 : decode cX8_lays 183 = .ok (.aload_n 0, 1) := by decide +kernel
theorem dX8_lays_184 : decode cX8_lays 184 = .ok (.iload_n 1, 1) := by decide +kernel
theorem dX8_lays_185 : decode cX8_lays 185 = .ok (.iconst 0, 1) := by decide +kernel
theorem dX8_lays_186 : decode cX8_lays 186 = .ok (.invokevirtual 109, 3) := by decide +kernel
theorem dX8_lays_189 : decode cX8_lays 189 = .ok (.invokestatic 113, 3) := by decide +kernel
theorem dX8_lays_192 : decode cX8_lays 192 = .ok (.i2l, 1) := by decide +kernel
theorem dX8_lays_193 : decode cX8_lays 193 = .ok (.lmul, 1) := by decide +kernel
theorem dX8_lays_194 : decode cX8_lays 194 = .ok (.putfield 120, 3) := by decide +kernel
theorem dX8_lays_197 : decode cX8_lays 197 = .ok (.iconst 0, 1) := by decide +kernel
theorem dX8_lays_198 : decode cX8_lays 198 = .ok (.istore 15, 2) := by decide +kernel
theorem dX8_lays_200 : decode cX8_lays 200 = .ok (.iload 15, 2) := by decide +kernel
theorem dX8_lays_202 : decode cX8_lays 202 = .ok (.iconst 4, 1) := by decide +kernel
theorem dX8_lays_203 : decode cX8_lays 203 = .ok (.if_icmp .ge 86, 3) := by decide +kernel
theorem dX8_lays_206 : decode cX8_lays 206 = .ok (.aload_n 0, 1) := by decide +kernel
theorem dX8_lays_207 : decode cX8_lays 207 = .ok (.getfield 27, 3) := by decide +kernel
theorem dX8_lays_210 : decode cX8_lays 210 = .ok (.iload 15, 2) := by decide +kernel
theorem dX8_lays_212 : decode cX8_lays 212 = .ok (.lconst 0, 1) := by decide +kernel
theorem dX8_lays_213 : decode cX8_lays 213 = .ok (.lastore, 1) := by decide +kernel
theorem dX8_lays_214 : decode cX8_lays 214 = .ok (.iconst 0, 1) := by decide +kernel
theorem dX8_lays_215 : decode cX8_lays 215 = .ok (.istore 16, 2) := by decide +kernel
theorem dX8_lays_217 : decode cX8_lays 217 = .ok (.iload 16, 2) := by decide +kernel
theorem dX8_lays_219 : decode cX8_lays 219 = .ok (.iconst 2, 1) := by decide +kernel
theorem dX8_lays_220 : decode cX8_lays 220 = .ok (.if_icmp .ge 63, 3) := by decide +kernel
theorem dX8_lays_223 : decode cX8_lays 223 = .ok (.aload_n 0, 1) := by decide +kernel
theorem dX8_lays_224 : decode cX8_lays 224 = .ok (.getfield 27, 3) := by decide +kernel
theorem dX8_lays_227 : decode cX8_lays 227 = .ok (.iload 15, 2) := by decide +kernel
theorem dX8_lays_229 : decode cX8_lays 229 = .ok (.dup2, 1) := by decide +kernel
theorem dX8_lays_230 : decode cX8_lays 230 = .ok (.laload, 1) := by decide +kernel
theorem dX8_lays_231 : decode cX8_lays 231 = .ok (.aload_n 0, 1) := by decide +kernel
theorem dX8_lays_232 : decode cX8_lays 232 = .ok (.getfield 24, 3) := by decide +kernel
theorem dX8_lays_235 : decode cX8_lays 235 = .ok (.bipush 8, 2) := by decide +kernel
theorem dX8_lays_237 : decode cX8_lays 237 = .ok (.iload_n 3, 1) := by decide +kernel
theorem dX8_lays_238 : decode cX8_lays 238 = .ok (.imul, 1) := by decide +kernel
theorem dX8_lays_239 : decode cX8_lays 239 = .ok (.iconst 2, 1) := by decide +kernel
theorem dX8_lays_240 : decode cX8_lays 240 = .ok (.iload 15, 2) := by decide +kernel
theorem dX8_lays_242 : decode cX8_lays 242 = .ok (.imul, 1) := by decide +kernel
theorem dX8_lays_243 : decode cX8_lays 243 = .ok (.iadd, 1) := by decide +kernel
theorem dX8_lays_244 : decode cX8_lays 244 = .ok (.iload 16, 2) := by decide +kernel
theorem dX8_lays_246 : decode cX8_lays 246 = .ok (.iadd, 1) := by decide +kernel
theorem dX8_lays_247 : decode cX8_lays 247 = .ok (.baload, 1) := by decide +kernel
theorem dX8_lays_248 : decode cX8_lays 248 = .ok (.ifCond .eq 7, 3) := by decide +kernel
theorem dX8_lays_251 : decode cX8_lays 251 = .ok (.lconst 0, 1) := by decide +kernel
theorem dX8_lays_252 : decode cX8_lays 252 = .ok (.goto 23, 3) := by decide +kernel
theorem dX8_lays_255 : decode cX8_lays 255 = .ok (.aload_n 0, 1) := by decide +kernel
theorem dX8_lays_256 : decode cX8_lays 256 = .ok (.getfield 13, 3) := by decide +kernel
theorem dX8_lays_259 : decode cX8_lays 259 = .ok (.iconst 0, 1) := by decide +kernel
theorem dX8_lays_260 : decode cX8_lays 260 = .ok (.bipush 8, 2) := by decide +kernel
theorem dX8_lays_262 : decode cX8_lays 262 = .ok (.iload_n 3, 1) := by decide +kernel
theorem dX8_lays_263 : decode cX8_lays 263 = .ok (.imul, 1) := by decide +kernel
theorem dX8_lays_264 : decode cX8_lays 264 = .ok (.iadd, 1) := by decide +kernel
theorem dX8_lays_265 : decode cX8_lays 265 = .ok (.iconst 2, 1) := by decide +kernel
theorem dX8_lays_266 : decode cX8_lays 266 = .ok (.iload 15, 2) := by decide +kernel
theorem dX8_lays_268 : decode cX8_lays 268 = .ok (.imul, 1) := by decide +kernel
theorem dX8_lays_269 : decode cX8_lays 269 = .ok (.iadd, 1) := by decide +kernel
theorem dX8_lays_270 : decode cX8_lays 270 = .ok (.iload 16, 2) := by decide +kernel
theorem dX8_lays_272 : decode cX8_lays 272 = .ok (.iadd, 1) := by decide +kernel
theorem dX8_lays_273 : decode cX8_lays 273 = .ok (.iaload, 1) := by decide +kernel
theorem dX8_lays_274 : decode cX8_lays 274 = .ok (.i2l, 1) := by decide +kernel
theorem dX8_lays_275 : decode cX8_lays 275 = .ok (.ladd, 1) := by decide +kernel
theorem dX8_lays_276 : decode cX8_lays 276 = .ok (.lastore, 1) := by decide +kernel
theorem dX8_lays_277 : decode cX8_lays 277 = .ok (.iinc 16 1, 3) := by decide +kernel
theorem dX8_lays_280 : decode cX8_lays 280 = .ok (.goto (-63), 3) := by decide +kernel
theorem dX8_lays_283 : decode cX8_lays 283 = .ok (.iinc 15 1, 3) := by decide +kernel
theorem dX8_lays_286 : decode cX8_lays 286 = .ok (.goto (-86), 3) := by decide +kernel
theorem dX8_lays_289 : decode cX8_lays 289 = .ok (.aload_n 0, 1) := by decide +kernel
theorem dX8_lays_290 : decode cX8_lays 290 = .ok (.getfield 27, 3) := by decide +kernel
theorem dX8_lays_293 : decode cX8_lays 293 = .ok (.iconst 0, 1) := by decide +kernel
theorem dX8_lays_294 : decode cX8_lays 294 = .ok (.laload, 1) := by decide +kernel
theorem dX8_lays_295 : decode cX8_lays 295 = .ok (.aload_n 0, 1) := by decide +kernel
theorem dX8_lays_296 : decode cX8_lays 296 = .ok (.getfield 27, 3) := by decide +kernel
theorem dX8_lays_299 : decode cX8_lays 299 = .ok (.iconst 2, 1) := by decide +kernel
theorem dX8_lays_300 : decode cX8_lays 300 = .ok (.laload, 1) := by decide +kernel
theorem dX8_lays_301 : decode cX8_lays 301 = .ok (.ladd, 1) := by decide +kernel
theorem dX8_lays_302 : decode cX8_lays 302 = .ok (.lstore 15, 2) := by decide +kernel
theorem dX8_lays_304 : decode cX8_lays 304 = .ok (.aload_n 0, 1) := by decide +kernel
theorem dX8_lays_305 : decode cX8_lays 305 = .ok (.getfield 27, 3) := by decide +kernel
theorem dX8_lays_308 : decode cX8_lays 308 = .ok (.iconst 1, 1) := by decide +kernel
theorem dX8_lays_309 : decode cX8_lays 309 = .ok (.laload, 1) := by decide +kernel
theorem dX8_lays_310 : decode cX8_lays 310 = .ok (.aload_n 0, 1) := by decide +kernel
theorem dX8_lays_311 : decode cX8_lays 311 = .ok (.getfield 27, 3) := by decide +kernel
theorem dX8_lays_314 : decode cX8_lays 314 = .ok (.iconst 3, 1) := by decide +kernel
theorem dX8_lays_315 : decode cX8_lays 315 = .ok (.laload, 1) := by decide +kernel
theorem dX8_lays_316 : decode cX8_lays 316 = .ok (.ladd, 1) := by decide +kernel
theorem dX8_lays_317 : decode cX8_lays 317 = .ok (.lstore 17, 2) := by decide +kernel
theorem dX8_lays_319 : decode cX8_lays 319 = .ok (.aload_n 0, 1) := by decide +kernel
theorem dX8_lays_320 : decode cX8_lays 320 = .ok (.getfield 27, 3) := by decide +kernel
theorem dX8_lays_323 : decode cX8_lays 323 = .ok (.iconst 2, 1) := by decide +kernel
theorem dX8_lays_324 : decode cX8_lays 324 = .ok (.laload, 1) := by decide +kernel
theorem dX8_lays_325 : decode cX8_lays 325 = .ok (.aload_n 0, 1) := by decide +kernel
theorem dX8_lays_326 : decode cX8_lays 326 = .ok (.getfield 27, 3) := by decide +kernel
theorem dX8_lays_329 : decode cX8_lays 329 = .ok (.iconst 0, 1) := by decide +kernel
theorem dX8_lays_330 : decode cX8_lays 330 = .ok (.laload, 1) := by decide +kernel
theorem dX8_lays_331 : decode cX8_lays 331 = .ok (.lsub, 1) := by decide +kernel
theorem dX8_lays_332 : decode cX8_lays 332 = .ok (.lstore 19, 2) := by decide +kernel
theorem dX8_lays_334 : decode cX8_lays 334 = .ok (.aload_n 0, 1) := by decide +kernel
theorem dX8_lays_335 : decode cX8_lays 335 = .ok (.getfield 27, 3) := by decide +kernel
theorem dX8_lays_338 : decode cX8_lays 338 = .ok (.iconst 1, 1) := by decide +kernel
theorem dX8_lays_339 : decode cX8_lays 339 = .ok (.laload, 1) := by decide +kernel
theorem dX8_lays_340 : decode cX8_lays 340 = .ok (.aload_n 0, 1) := by decide +kernel
theorem dX8_lays_341 : decode cX8_lays 341 = .ok (.getfield 27, 3) := by decide +kernel
theorem dX8_lays_344 : decode cX8_lays 344 = .ok (.iconst 3, 1) := by decide +kernel
theorem dX8_lays_345 : decode cX8_lays 345 = .ok (.laload, 1) := by decide +kernel
theorem dX8_lays_346 : decode cX8_lays 346 = .ok (.lsub, 1) := by decide +kernel
theorem dX8_lays_347 : decode cX8_lays 347 = .ok (.lstore 21, 2) := by decide +kernel
theorem dX8_lays_349 : decode cX8_lays 349 = .ok (.aload_n 0, 1) := by decide +kernel
theorem dX8_lays_350 : decode cX8_lays 350 = .ok (.lload 15, 2) := by decide +kernel
theorem dX8_lays_352 : decode cX8_lays 352 = .ok (.lload 17, 2) := by decide +kernel
theorem dX8_lays_354 : decode cX8_lays 354 = .ok (.lmul, 1) := by decide +kernel
theorem dX8_lays_355 : decode cX8_lays 355 = .ok (.lload 15, 2) := by decide +kernel
theorem dX8_lays_357 : decode cX8_lays 357 = .ok (.lload 17, 2) := by decide +kernel
theorem dX8_lays_359 : decode cX8_lays 359 = .ok (.ladd, 1) := by decide +kernel
theorem dX8_lays_360 : decode cX8_lays 360 = .ok (.lmul, 1) := by decide +kernel
theorem dX8_lays_361 : decode cX8_lays 361 = .ok (.lload 15, 2) := by decide +kernel
theorem dX8_lays_363 : decode cX8_lays 363 = .ok (.lload 21, 2) := by decide +kernel
theorem dX8_lays_365 : decode cX8_lays 365 = .ok (.lmul, 1) := by decide +kernel
theorem dX8_lays_366 : decode cX8_lays 366 = .ok (.lload 21, 2) := by decide +kernel
theorem dX8_lays_368 : decode cX8_lays 368 = .ok (.lmul, 1) := by decide +kernel
theorem dX8_lays_369 : decode cX8_lays 369 = .ok (.lsub, 1) := by decide +kernel
theorem dX8_lays_370 : decode cX8_lays 370 = .ok (.lload 17, 2) := by decide +kernel
theorem dX8_lays_372 : decode cX8_lays 372 = .ok (.lload 19, 2) := by decide +kernel
theorem dX8_lays_374 : decode cX8_lays 374 = .ok (.lmul, 1) := by decide +kernel
theorem dX8_lays_375 : decode cX8_lays 375 = .ok (.lload 19, 2) := by decide +kernel
theorem dX8_lays_377 : decode cX8_lays 377 = .ok (.lmul, 1) := by decide +kernel
theorem dX8_lays_378 : decode cX8_lays 378 = .ok (.lsub, 1) := by decide +kernel
theorem dX8_lays_379 : decode cX8_lays 379 = .ok (.putfield 123, 3) := by decide +kernel
theorem dX8_lays_382 : decode cX8_lays 382 = .ok (.aload_n 0, 1) := by decide +kernel
theorem dX8_lays_383 : decode cX8_lays 383 = .ok (.getfield 123, 3) := by decide +kernel
theorem dX8_lays_386 : decode cX8_lays 386 = .ok (.lconst 0, 1) := by decide +kernel
theorem dX8_lays_387 : decode cX8_lays 387 = .ok (.lcmp, 1) := by decide +kernel
theorem dX8_lays_388 : decode cX8_lays 388 = .ok (.ifCond .ne 5, 3) := by decide +kernel
theorem dX8_lays_391 : decode cX8_lays 391 = .ok (.iconst 0, 1) := by decide +kernel
theorem dX8_lays_392 : decode cX8_lays 392 = .ok (.ireturn, 1) := by decide +kernel
theorem dX8_lays_393 : decode cX8_lays 393 = .ok (.lload 9, 2) := by decide +kernel
theorem dX8_lays_395 : decode cX8_lays 395 = .ok (.lload 17, 2) := by decide +kernel
theorem dX8_lays_397 : decode cX8_lays 397 = .ok (.lload 15, 2) := by decide +kernel
theorem dX8_lays_399 : decode cX8_lays 399 = .ok (.lload 17, 2) := by decide +kernel
theorem dX8_lays_401 : decode cX8_lays 401 = .ok (.ladd, 1) := by decide +kernel
theorem dX8_lays_402 : decode cX8_lays 402 = .ok (.lmul, 1) := by decide +kernel
theorem dX8_lays_403 : decode cX8_lays 403 = .ok (.lload 21, 2) := by decide +kernel
theorem dX8_lays_405 : decode cX8_lays 405 = .ok (.lload 21, 2) := by decide +kernel
theorem dX8_lays_407 : decode cX8_lays 407 = .ok (.lmul, 1) := by decide +kernel
theorem dX8_lays_408 : decode cX8_lays 408 = .ok (.lsub, 1) := by decide +kernel
theorem dX8_lays_409 : decode cX8_lays 409 = .ok (.lmul, 1) := by decide +kernel
theorem dX8_lays_410 : decode cX8_lays 410 = .ok (.lload 19, 2) := by decide +kernel
theorem dX8_lays_412 : decode cX8_lays 412 = .ok (.lload 21, 2) := by decide +kernel
theorem dX8_lays_414 : decode cX8_lays 414 = .ok (.lmul, 1) := by decide +kernel
theorem dX8_lays_415 : decode cX8_lays 415 = .ok (.lload 11, 2) := by decide +kernel
theorem dX8_lays_417 : decode cX8_lays 417 = .ok (.lmul, 1) := by decide +kernel
theorem dX8_lays_418 : decode cX8_lays 418 = .ok (.ladd, 1) := by decide +kernel
theorem dX8_lays_419 : decode cX8_lays 419 = .ok (.lstore 23, 2) := by decide +kernel
theorem dX8_lays_421 : decode cX8_lays 421 = .ok (.lload 11, 2) := by decide +kernel
theorem dX8_lays_423 : decode cX8_lays 423 = .ok (.lload 15, 2) := by decide +kernel
theorem dX8_lays_425 : decode cX8_lays 425 = .ok (.lload 15, 2) := by decide +kernel
theorem dX8_lays_427 : decode cX8_lays 427 = .ok (.lload 17, 2) := by decide +kernel
theorem dX8_lays_429 : decode cX8_lays 429 = .ok (.ladd, 1) := by decide +kernel
theorem dX8_lays_430 : decode cX8_lays 430 = .ok (.lmul, 1) := by decide +kernel
theorem dX8_lays_431 : decode cX8_lays 431 = .ok (.lload 19, 2) := by decide +kernel
theorem dX8_lays_433 : decode cX8_lays 433 = .ok (.lload 19, 2) := by decide +kernel
theorem dX8_lays_435 : decode cX8_lays 435 = .ok (.lmul, 1) := by decide +kernel
theorem dX8_lays_436 : decode cX8_lays 436 = .ok (.lsub, 1) := by decide +kernel
theorem dX8_lays_437 : decode cX8_lays 437 = .ok (.lmul, 1) := by decide +kernel
theorem dX8_lays_438 : decode cX8_lays 438 = .ok (.lload 19, 2) := by decide +kernel
theorem dX8_lays_440 : decode cX8_lays 440 = .ok (.lload 21, 2) := by decide +kernel
theorem dX8_lays_442 : decode cX8_lays 442 = .ok (.lmul, 1) := by decide +kernel
theorem dX8_lays_443 : decode cX8_lays 443 = .ok (.lload 9, 2) := by decide +kernel
theorem dX8_lays_445 : decode cX8_lays 445 = .ok (.lmul, 1) := by decide +kernel
theorem dX8_lays_446 : decode cX8_lays 446 = .ok (.ladd, 1) := by decide +kernel
theorem dX8_lays_447 : decode cX8_lays 447 = .ok (.lstore 25, 2) := by decide +kernel
theorem dX8_lays_449 : decode cX8_lays 449 = .ok (.lload 15, 2) := by decide +kernel
theorem dX8_lays_451 : decode cX8_lays 451 = .ok (.lload 21, 2) := by decide +kernel
theorem dX8_lays_453 : decode cX8_lays 453 = .ok (.lmul, 1) := by decide +kernel
theorem dX8_lays_454 : decode cX8_lays 454 = .ok (.lload 11, 2) := by decide +kernel
theorem dX8_lays_456 : decode cX8_lays 456 = .ok (.lmul, 1) := by decide +kernel
theorem dX8_lays_457 : decode cX8_lays 457 = .ok (.lload 17, 2) := by decide +kernel
theorem dX8_lays_459 : decode cX8_lays 459 = .ok (.lload 19, 2) := by decide +kernel
theorem dX8_lays_461 : decode cX8_lays 461 = .ok (.lmul, 1) := by decide +kernel
theorem dX8_lays_462 : decode cX8_lays 462 = .ok (.lload 9, 2) := by decide +kernel
theorem dX8_lays_464 : decode cX8_lays 464 = .ok (.lmul, 1) := by decide +kernel
theorem dX8_lays_465 : decode cX8_lays 465 = .ok (.ladd, 1) := by decide +kernel
theorem dX8_lays_466 : decode cX8_lays 466 = .ok (.lneg, 1) := by decide +kernel
theorem dX8_lays_467 : decode cX8_lays 467 = .ok (.lstore 27, 2) := by decide +kernel
theorem dX8_lays_469 : decode cX8_lays 469 = .ok (.aload_n 0, 1) := by decide +kernel
theorem dX8_lays_470 : decode cX8_lays 470 = .ok (.getfield 31, 3) := by decide +kernel
theorem dX8_lays_473 : decode cX8_lays 473 = .ok (.iconst 0, 1) := by decide +kernel
theorem dX8_lays_474 : decode cX8_lays 474 = .ok (.lload 23, 2) := by decide +kernel
theorem dX8_lays_476 : decode cX8_lays 476 = .ok (.lload 27, 2) := by decide +kernel
theorem dX8_lays_478 : decode cX8_lays 478 = .ok (.lsub, 1) := by decide +kernel
theorem dX8_lays_479 : decode cX8_lays 479 = .ok (.lastore, 1) := by decide +kernel
theorem dX8_lays_480 : decode cX8_lays 480 = .ok (.aload_n 0, 1) := by decide +kernel
theorem dX8_lays_481 : decode cX8_lays 481 = .ok (.getfield 31, 3) := by decide +kernel
theorem dX8_lays_484 : decode cX8_lays 484 = .ok (.iconst 1, 1) := by decide +kernel
theorem dX8_lays_485 : decode cX8_lays 485 = .ok (.lload 25, 2) := by decide +kernel
theorem dX8_lays_487 : decode cX8_lays 487 = .ok (.lload 27, 2) := by decide +kernel
theorem dX8_lays_489 : decode cX8_lays 489 = .ok (.ladd, 1) := by decide +kernel
theorem dX8_lays_490 : decode cX8_lays 490 = .ok (.lastore, 1) := by decide +kernel
theorem dX8_lays_491 : decode cX8_lays 491 = .ok (.aload_n 0, 1) := by decide +kernel
theorem dX8_lays_492 : decode cX8_lays 492 = .ok (.getfield 31, 3) := by decide +kernel
theorem dX8_lays_495 : decode cX8_lays 495 = .ok (.iconst 2, 1) := by decide +kernel
theorem dX8_lays_496 : decode cX8_lays 496 = .ok (.lload 23, 2) := by decide +kernel
theorem dX8_lays_498 : decode cX8_lays 498 = .ok (.lload 27, 2) := by decide +kernel
theorem dX8_lays_500 : decode cX8_lays 500 = .ok (.ladd, 1) := by decide +kernel
theorem dX8_lays_501 : decode cX8_lays 501 = .ok (.lastore, 1) := by decide +kernel
theorem dX8_lays_502 : decode cX8_lays 502 = .ok (.aload_n 0, 1) := by decide +kernel
theorem dX8_lays_503 : decode cX8_lays 503 = .ok (.getfield 31, 3) := by decide +kernel
theorem dX8_lays_506 : decode cX8_lays 506 = .ok (.iconst 3, 1) := by decide +kernel
theorem dX8_lays_507 : decode cX8_lays 507 = .ok (.lload 25, 2) := by decide +kernel
theorem dX8_lays_509 : decode cX8_lays 509 = .ok (.lload 27, 2) := by decide +kernel
theorem dX8_lays_511 : decode cX8_lays 511 = .ok (.lsub, 1) := by decide +kernel
theorem dX8_lays_512 : decode cX8_lays 512 = .ok (.lastore, 1) := by decide +kernel
theorem dX8_lays_513 : decode cX8_lays 513 = .ok (.aload_n 0, 1) := by decide +kernel
theorem dX8_lays_514 : decode cX8_lays 514 = .ok (.getfield 120, 3) := by decide +kernel
theorem dX8_lays_517 : decode cX8_lays 517 = .ok (.lconst 0, 1) := by decide +kernel
theorem dX8_lays_518 : decode cX8_lays 518 = .ok (.lcmp, 1) := by decide +kernel
theorem dX8_lays_519 : decode cX8_lays 519 = .ok (.ifCond .eq 25, 3) := by decide +kernel
theorem dX8_lays_522 : decode cX8_lays 522 = .ok (.aload_n 0, 1) := by decide +kernel
theorem dX8_lays_523 : decode cX8_lays 523 = .ok (.getfield 27, 3) := by decide +kernel
theorem dX8_lays_526 : decode cX8_lays 526 = .ok (.iconst 0, 1) := by decide +kernel
theorem dX8_lays_527 : decode cX8_lays 527 = .ok (.laload, 1) := by decide +kernel
theorem dX8_lays_528 : decode cX8_lays 528 = .ok (.lconst 0, 1) := by decide +kernel
theorem dX8_lays_529 : decode cX8_lays 529 = .ok (.lcmp, 1) := by decide +kernel
theorem dX8_lays_530 : decode cX8_lays 530 = .ok (.ifCond .eq 49, 3) := by decide +kernel
theorem dX8_lays_533 : decode cX8_lays 533 = .ok (.aload_n 0, 1) := by decide +kernel
theorem dX8_lays_534 : decode cX8_lays 534 = .ok (.getfield 27, 3) := by decide +kernel
theorem dX8_lays_537 : decode cX8_lays 537 = .ok (.iconst 2, 1) := by decide +kernel
theorem dX8_lays_538 : decode cX8_lays 538 = .ok (.laload, 1) := by decide +kernel
theorem dX8_lays_539 : decode cX8_lays 539 = .ok (.lconst 0, 1) := by decide +kernel
theorem dX8_lays_540 : decode cX8_lays 540 = .ok (.lcmp, 1) := by decide +kernel
theorem dX8_lays_541 : decode cX8_lays 541 = .ok (.ifCond .eq 38, 3) := by decide +kernel
theorem dX8_lays_544 : decode cX8_lays 544 = .ok (.aload_n 0, 1) := by decide +kernel
theorem dX8_lays_545 : decode cX8_lays 545 = .ok (.getfield 116, 3) := by decide +kernel
theorem dX8_lays_548 : decode cX8_lays 548 = .ok (.lconst 0, 1) := by decide +kernel
theorem dX8_lays_549 : decode cX8_lays 549 = .ok (.lcmp, 1) := by decide +kernel
theorem dX8_lays_550 : decode cX8_lays 550 = .ok (.ifCond .eq 25, 3) := by decide +kernel
theorem dX8_lays_553 : decode cX8_lays 553 = .ok (.aload_n 0, 1) := by decide +kernel
theorem dX8_lays_554 : decode cX8_lays 554 = .ok (.getfield 27, 3) := by decide +kernel
theorem dX8_lays_557 : decode cX8_lays 557 = .ok (.iconst 1, 1) := by decide +kernel
theorem dX8_lays_558 : decode cX8_lays 558 = .ok (.laload, 1) := by decide +kernel
theorem dX8_lays_559 : decode cX8_lays 559 = .ok (.lconst 0, 1) := by decide +kernel
theorem dX8_lays_560 : decode cX8_lays 560 = .ok (.lcmp, 1) := by decide +kernel
theorem dX8_lays_561 : decode cX8_lays 561 = .ok (.ifCond .eq 18, 3) := by decide +kernel
theorem dX8_lays_564 : decode cX8_lays 564 = .ok (.aload_n 0, 1) := by decide +kernel
theorem dX8_lays_565 : decode cX8_lays 565 = .ok (.getfield 27, 3) := by decide +kernel
theorem dX8_lays_568 : decode cX8_lays 568 = .ok (.iconst 3, 1) := by decide +kernel
theorem dX8_lays_569 : decode cX8_lays 569 = .ok (.laload, 1) := by decide +kernel
theorem dX8_lays_570 : decode cX8_lays 570 = .ok (.lconst 0, 1) := by decide +kernel
theorem dX8_lays_571 : decode cX8_lays 571 = .ok (.lcmp, 1) := by decide +kernel
theorem dX8_lays_572 : decode cX8_lays 572 = .ok (.ifCond .eq 7, 3) := by decide +kernel
theorem dX8_lays_575 : decode cX8_lays 575 = .ok (.iconst 1, 1) := by decide +kernel
theorem dX8_lays_576 : decode cX8_lays 576 = .ok (.goto 4, 3) := by decide +kernel
theorem dX8_lays_579 : decode cX8_lays 579 = .ok (.iconst 0, 1) := by decide +kernel
theorem dX8_lays_580 : decode cX8_lays 580 = .ok (.ireturn, 1) := by decide +kernel
theorem dX8_pulls_0 : decode cX8_pulls 0 = .ok (.iload_n 1, 1) := by decide +kernel
theorem dX8_pulls_1 : decode cX8_pulls 1 = .ok (.iconst 2, 1) := by decide +kernel
theorem dX8_pulls_2 : decode cX8_pulls 2 = .ok (.idiv, 1) := by decide +kernel
theorem dX8_pulls_3 : decode cX8_pulls 3 = .ok (.iconst 4, 1) := by decide +kernel
theorem dX8_pulls_4 : decode cX8_pulls 4 = .ok (.irem, 1) := by decide +kernel
theorem dX8_pulls_5 : decode cX8_pulls 5 = .ok (.istore_n 3, 1) := by decide +kernel
theorem dX8_pulls_6 : decode cX8_pulls 6 = .ok (.aload_n 0, 1) := by decide +kernel
theorem dX8_pulls_7 : decode cX8_pulls 7 = .ok (.getfield 27, 3) := by decide +kernel
theorem dX8_pulls_10 : decode cX8_pulls 10 = .ok (.iload_n 3, 1) := by decide +kernel
theorem dX8_pulls_11 : decode cX8_pulls 11 = .ok (.laload, 1) := by decide +kernel
theorem dX8_pulls_12 : decode cX8_pulls 12 = .ok (.lstore 4, 2) := by decide +kernel
theorem dX8_pulls_14 : decode cX8_pulls 14 = .ok (.iload_n 3, 1) := by decide +kernel
theorem dX8_pulls_15 : decode cX8_pulls 15 = .ok (.ifCond .ne 10, 3) := by decide +kernel
theorem dX8_pulls_18 : decode cX8_pulls 18 = .ok (.aload_n 0, 1) := by decide +kernel
theorem dX8_pulls_19 : decode cX8_pulls 19 = .ok (.getfield 120, 3) := by decide +kernel
theorem dX8_pulls_22 : decode cX8_pulls 22 = .ok (.goto 33, 3) := by decide +kernel
theorem dX8_pulls_25 : decode cX8_pulls 25 = .ok (.iload_n 3, 1) := by decide +kernel
theorem dX8_pulls_26 : decode cX8_pulls 26 = .ok (.iconst 2, 1) := by decide +kernel
theorem dX8_pulls_27 : decode cX8_pulls 27 = .ok (.if_icmp .ne 11, 3) := by decide +kernel
theorem dX8_pulls_30 : decode cX8_pulls 30 = .ok (.aload_n 0, 1) := by decide +kernel
theorem dX8_pulls_31 : decode cX8_pulls 31 = .ok (.getfield 120, 3) := by decide +kernel
theorem dX8_pulls_34 : decode cX8_pulls 34 = .ok (.lneg, 1) := by decide +kernel
theorem dX8_pulls_35 : decode cX8_pulls 35 = .ok (.goto 20, 3) := by decide +kernel
theorem dX8_pulls_38 : decode cX8_pulls 38 = .ok (.iload_n 3, 1) := by decide +kernel
theorem dX8_pulls_39 : decode cX8_pulls 39 = .ok (.iconst 1, 1) := by decide +kernel
theorem dX8_pulls_40 : decode cX8_pulls 40 = .ok (.if_icmp .ne 10, 3) := by decide +kernel
theorem dX8_pulls_43 : decode cX8_pulls 43 = .ok (.aload_n 0, 1) := by decide +kernel
theorem dX8_pulls_44 : decode cX8_pulls 44 = .ok (.getfield 116, 3) := by decide +kernel
theorem dX8_pulls_47 : decode cX8_pulls 47 = .ok (.goto 8, 3) := by decide +kernel
theorem dX8_pulls_50 : decode cX8_pulls 50 = .ok (.aload_n 0, 1) := by decide +kernel
theorem dX8_pulls_51 : decode cX8_pulls 51 = .ok (.getfield 116, 3) := by decide +kernel
theorem dX8_pulls_54 : decode cX8_pulls 54 = .ok (.lneg, 1) := by decide +kernel
theorem dX8_pulls_55 : decode cX8_pulls 55 = .ok (.lstore 6, 2) := by decide +kernel
theorem dX8_pulls_57 : decode cX8_pulls 57 = .ok (.aload_n 0, 1) := by decide +kernel
theorem dX8_pulls_58 : decode cX8_pulls 58 = .ok (.ldc2_w 126, 3) := by decide +kernel
theorem dX8_pulls_61 : decode cX8_pulls 61 = .ok (.aload_n 0, 1) := by decide +kernel
theorem dX8_pulls_62 : decode cX8_pulls 62 = .ok (.getfield 123, 3) := by decide +kernel
theorem dX8_pulls_65 : decode cX8_pulls 65 = .ok (.lmul, 1) := by decide +kernel
theorem dX8_pulls_66 : decode cX8_pulls 66 = .ok (.lload 4, 2) := by decide +kernel
theorem dX8_pulls_68 : decode cX8_pulls 68 = .ok (.lmul, 1) := by decide +kernel
theorem dX8_pulls_69 : decode cX8_pulls 69 = .ok (.putfield 128, 3) := by decide +kernel
theorem dX8_pulls_72 : decode cX8_pulls 72 = .ok (.aload_n 0, 1) := by decide +kernel
theorem dX8_pulls_73 : decode cX8_pulls 73 = .ok (.aload_n 0, 1) := by decide +kernel
theorem dX8_pulls_74 : decode cX8_pulls 74 = .ok (.getfield 13, 3) := by decide +kernel
theorem dX8_pulls_77 : decode cX8_pulls 77 = .ok (.iconst 0, 1) := by decide +kernel
theorem dX8_pulls_78 : decode cX8_pulls 78 = .ok (.iload_n 1, 1) := by decide +kernel
theorem dX8_pulls_79 : decode cX8_pulls 79 = .ok (.iadd, 1) := by decide +kernel
theorem dX8_pulls_80 : decode cX8_pulls 80 = .ok (.iaload, 1) := by decide +kernel
theorem dX8_pulls_81 : decode cX8_pulls 81 = .ok (.i2l, 1) := by decide +kernel
theorem dX8_pulls_82 : decode cX8_pulls 82 = .ok (.iload_n 1, 1) := by decide +kernel
theorem dX8_pulls_83 : decode cX8_pulls 83 = .ok (.iconst 2, 1) := by decide +kernel
theorem dX8_pulls_84 : decode cX8_pulls 84 = .ok (.irem, 1) := by decide +kernel
theorem dX8_pulls_85 : decode cX8_pulls 85 = .ok (.ifCond .ne 12, 3) := by decide +kernel
theorem dX8_pulls_88 : decode cX8_pulls 88 = .ok (.aload_n 0, 1) := by decide +kernel
theorem dX8_pulls_89 : decode cX8_pulls 89 = .ok (.getfield 31, 3) := by decide +kernel
theorem dX8_pulls_92 : decode cX8_pulls 92 = .ok (.iload_n 3, 1) := by decide +kernel
theorem dX8_pulls_93 : decode cX8_pulls 93 = .ok (.laload, 1) := by decide +kernel
theorem dX8_pulls_94 : decode cX8_pulls 94 = .ok (.goto 10, 3) := by decide +kernel
theorem dX8_pulls_97 : decode cX8_pulls 97 = .ok (.aload_n 0, 1) := by decide +kernel
theorem dX8_pulls_98 : decode cX8_pulls 98 = .ok (.getfield 31, 3) := by decide +kernel
theorem dX8_pulls_101 : decode cX8_pulls 101 = .ok (.iload_n 3, 1) := by decide +kernel
theorem dX8_pulls_102 : decode cX8_pulls 102 = .ok (.laload, 1) := by decide +kernel
theorem dX8_pulls_103 : decode cX8_pulls 103 = .ok (.lneg, 1) := by decide +kernel
theorem dX8_pulls_104 : decode cX8_pulls 104 = .ok (.lmul, 1) := by decide +kernel
theorem dX8_pulls_105 : decode cX8_pulls 105 = .ok (.ldc2_w 131, 3) := by decide +kernel
theorem dX8_pulls_108 : decode cX8_pulls 108 = .ok (.lmul, 1) := by decide +kernel
theorem dX8_pulls_109 : decode cX8_pulls 109 = .ok (.lload 4, 2) := by decide +kernel
theorem dX8_pulls_111 : decode cX8_pulls 111 = .ok (.lmul, 1) := by decide +kernel
theorem dX8_pulls_112 : decode cX8_pulls 112 = .ok (.lload 6, 2) := by decide +kernel
theorem dX8_pulls_114 : decode cX8_pulls 114 = .ok (.aload_n 0, 1) := by decide +kernel
theorem dX8_pulls_115 : decode cX8_pulls 115 = .ok (.getfield 13, 3) := by decide +kernel
theorem dX8_pulls_118 : decode cX8_pulls 118 = .ok (.iconst 0, 1) := by decide +kernel
theorem dX8_pulls_119 : decode cX8_pulls 119 = .ok (.iload_n 1, 1) := by decide +kernel
theorem dX8_pulls_120 : decode cX8_pulls 120 = .ok (.iadd, 1) := by decide +kernel
theorem dX8_pulls_121 : decode cX8_pulls 121 = .ok (.iaload, 1) := by decide +kernel
theorem dX8_pulls_122 : decode cX8_pulls 122 = .ok (.i2l, 1) := by decide +kernel
theorem dX8_pulls_123 : decode cX8_pulls 123 = .ok (.lmul, 1) := by decide +kernel
theorem dX8_pulls_124 : decode cX8_pulls 124 = .ok (.aload_n 0, 1) := by decide +kernel
theorem dX8_pulls_125 : decode cX8_pulls 125 = .ok (.getfield 123, 3) := by decide +kernel
theorem dX8_pulls_128 : decode cX8_pulls 128 = .ok (.lmul, 1) := by decide +kernel
theorem dX8_pulls_129 : decode cX8_pulls 129 = .ok (.ladd, 1) := by decide +kernel
theorem dX8_pulls_130 : decode cX8_pulls 130 = .ok (.putfield 133, 3) := by decide +kernel
theorem dX8_pulls_133 : decode cX8_pulls 133 = .ok (.iload_n 2, 1) := by decide +kernel
theorem dX8_pulls_134 : decode cX8_pulls 134 = .ok (.ifCond .eq 31, 3) := by decide +kernel
theorem dX8_pulls_137 : decode cX8_pulls 137 = .ok (.aload_n 0, 1) := by decide +kernel
theorem dX8_pulls_138 : decode cX8_pulls 138 = .ok (.dup, 1) := by decide +kernel
theorem dX8_pulls_139 : decode cX8_pulls 139 = .ok (.getfield 133, 3) := by decide +kernel
theorem dX8_pulls_142 : decode cX8_pulls 142 = .ok (.aload_n 0, 1) := by decide +kernel
theorem dX8_pulls_143 : decode cX8_pulls 143 = .ok (.getfield 13, 3) := by decide +kernel
theorem dX8_pulls_146 : decode cX8_pulls 146 = .ok (.sipush 150, 3) := by decide +kernel
theorem dX8_pulls_149 : decode cX8_pulls 149 = .ok (.iload_n 1, 1) := by decide +kernel
theorem dX8_pulls_150 : decode cX8_pulls 150 = .ok (.bipush 8, 2) := by decide +kernel
theorem dX8_pulls_152 : decode cX8_pulls 152 = .ok (.idiv, 1) := by decide +kernel
theorem dX8_pulls_153 : decode cX8_pulls 153 = .ok (.iadd, 1) := by decide +kernel
theorem dX8_pulls_154 : decode cX8_pulls 154 = .ok (.iaload, 1) := by decide +kernel
theorem dX8_pulls_155 : decode cX8_pulls 155 = .ok (.i2l, 1) := by decide +kernel
theorem dX8_pulls_156 : decode cX8_pulls 156 = .ok (.aload_n 0, 1) := by decide +kernel
theorem dX8_pulls_157 : decode cX8_pulls 157 = .ok (.getfield 128, 3) := by decide +kernel
theorem dX8_pulls_160 : decode cX8_pulls 160 = .ok (.lmul, 1) := by decide +kernel
theorem dX8_pulls_161 : decode cX8_pulls 161 = .ok (.lsub, 1) := by decide +kernel
theorem dX8_pulls_162 : decode cX8_pulls 162 = .ok (.putfield 133, 3) := by decide +kernel
theorem dX8_pulls_165 : decode cX8_pulls 165 = .ok (.return_, 1) := by decide +kernel
theorem dX8_thousand_0 : decode cX8_thousand 0 = .ok (.lload_n 0, 1) := by decide +kernel
theorem dX8_thousand_1 : decode cX8_thousand 1 = .ok (.lload_n 2, 1) := by decide +kernel
theorem dX8_thousand_2 : decode cX8_thousand 2 = .ok (.ldiv, 1) := by decide +kernel
theorem dX8_thousand_3 : decode cX8_thousand 3 = .ok (.ldc2_w 131, 3) := by decide +kernel
theorem dX8_thousand_6 : decode cX8_thousand 6 = .ok (.lmul, 1) := by decide +kernel
theorem dX8_thousand_7 : decode cX8_thousand 7 = .ok (.lload_n 0, 1) := by decide +kernel
theorem dX8_thousand_8 : decode cX8_thousand 8 = .ok (.lload_n 2, 1) := by decide +kernel
theorem dX8_thousand_9 : decode cX8_thousand 9 = .ok (.lrem, 1) := by decide +kernel
theorem dX8_thousand_10 : decode cX8_thousand 10 = .ok (.ldc2_w 131, 3) := by decide +kernel
theorem dX8_thousand_13 : decode cX8_thousand 13 = .ok (.lmul, 1) := by decide +kernel
theorem dX8_thousand_14 : decode cX8_thousand 14 = .ok (.lload_n 2, 1) := by decide +kernel
theorem dX8_thousand_15 : decode cX8_thousand 15 = .ok (.ldiv, 1) := by decide +kernel
theorem dX8_thousand_16 : decode cX8_thousand 16 = .ok (.ladd, 1) := by decide +kernel
theorem dX8_thousand_17 : decode cX8_thousand 17 = .ok (.lreturn, 1) := by decide +kernel
theorem dX8_noneGone_0 : decode cX8_noneGone 0 = .ok (.iconst 0, 1) := by decide +kernel
theorem dX8_noneGone_1 : decode cX8_noneGone 1 = .ok (.istore_n 1, 1) := by decide +kernel
theorem dX8_noneGone_2 : decode cX8_noneGone 2 = .ok (.iload_n 1, 1) := by decide +kernel
theorem dX8_noneGone_3 : decode cX8_noneGone 3 = .ok (.bipush 48, 2) := by decide +kernel
theorem dX8_noneGone_5 : decode cX8_noneGone 5 = .ok (.if_icmp .ge 16, 3) := by decide +kernel
theorem dX8_noneGone_8 : decode cX8_noneGone 8 = .ok (.aload_n 0, 1) := by decide +kernel
theorem dX8_noneGone_9 : decode cX8_noneGone 9 = .ok (.getfield 24, 3) := by decide +kernel
theorem dX8_noneGone_12 : decode cX8_noneGone 12 = .ok (.iload_n 1, 1) := by decide +kernel
theorem dX8_noneGone_13 : decode cX8_noneGone 13 = .ok (.iconst 0, 1) := by decide +kernel
theorem dX8_noneGone_14 : decode cX8_noneGone 14 = .ok (.bastore, 1) := by decide +kernel
theorem dX8_noneGone_15 : decode cX8_noneGone 15 = .ok (.iinc 1 1, 3) := by decide +kernel
theorem dX8_noneGone_18 : decode cX8_noneGone 18 = .ok (.goto (-16), 3) := by decide +kernel
theorem dX8_noneGone_21 : decode cX8_noneGone 21 = .ok (.return_, 1) := by decide +kernel
theorem dX8_tension_0 : decode cX8_tension 0 = .ok (.aload_n 0, 1) := by decide +kernel
theorem dX8_tension_1 : decode cX8_tension 1 = .ok (.iload_n 1, 1) := by decide +kernel
theorem dX8_tension_2 : decode cX8_tension 2 = .ok (.invokevirtual 136, 3) := by decide +kernel
theorem dX8_tension_5 : decode cX8_tension 5 = .ok (.ifCond .eq 19, 3) := by decide +kernel
theorem dX8_tension_8 : decode cX8_tension 8 = .ok (.iload_n 2, 1) := by decide +kernel
theorem dX8_tension_9 : decode cX8_tension 9 = .ok (.invokestatic 94, 3) := by decide +kernel
theorem dX8_tension_12 : decode cX8_tension 12 = .ok (.ifCond .eq 12, 3) := by decide +kernel
theorem dX8_tension_15 : decode cX8_tension 15 = .ok (.iload_n 3, 1) := by decide +kernel
theorem dX8_tension_16 : decode cX8_tension 16 = .ok (.iconst 0, 1) := by decide +kernel
theorem dX8_tension_17 : decode cX8_tension 17 = .ok (.iconst 1, 1) := by decide +kernel
theorem dX8_tension_18 : decode cX8_tension 18 = .ok (.invokestatic 83, 3) := by decide +kernel
theorem dX8_tension_21 : decode cX8_tension 21 = .ok (.ifCond .ne 7, 3) := by decide +kernel
theorem dX8_tension_24 : decode cX8_tension 24 = .ok (.ldc2_w 139, 3) := by decide +kernel
theorem dX8_tension_27 : decode cX8_tension 27 = .ok (.lreturn, 1) := by decide +kernel
theorem dX8_tension_28 : decode cX8_tension 28 = .ok (.aload_n 0, 1) := by decide +kernel
theorem dX8_tension_29 : decode cX8_tension 29 = .ok (.invokevirtual 141, 3) := by decide +kernel
theorem dX8_tension_32 : decode cX8_tension 32 = .ok (.aload_n 0, 1) := by decide +kernel
theorem dX8_tension_33 : decode cX8_tension 33 = .ok (.iload_n 1, 1) := by decide +kernel
theorem dX8_tension_34 : decode cX8_tension 34 = .ok (.iload_n 3, 1) := by decide +kernel
theorem dX8_tension_35 : decode cX8_tension 35 = .ok (.iload_n 2, 1) := by decide +kernel
theorem dX8_tension_36 : decode cX8_tension 36 = .ok (.bipush 8, 2) := by decide +kernel
theorem dX8_tension_38 : decode cX8_tension 38 = .ok (.idiv, 1) := by decide +kernel
theorem dX8_tension_39 : decode cX8_tension 39 = .ok (.invokevirtual 144, 3) := by decide +kernel
theorem dX8_tension_42 : decode cX8_tension 42 = .ok (.pop, 1) := by decide +kernel
theorem dX8_tension_43 : decode cX8_tension 43 = .ok (.aload_n 0, 1) := by decide +kernel
theorem dX8_tension_44 : decode cX8_tension 44 = .ok (.iload_n 2, 1) := by decide +kernel
theorem dX8_tension_45 : decode cX8_tension 45 = .ok (.iconst 1, 1) := by decide +kernel
theorem dX8_tension_46 : decode cX8_tension 46 = .ok (.invokevirtual 147, 3) := by decide +kernel
theorem dX8_tension_49 : decode cX8_tension 49 = .ok (.aload_n 0, 1) := by decide +kernel
theorem dX8_tension_50 : decode cX8_tension 50 = .ok (.getfield 133, 3) := by decide +kernel
theorem dX8_tension_53 : decode cX8_tension 53 = .ok (.aload_n 0, 1) := by decide +kernel
theorem dX8_tension_54 : decode cX8_tension 54 = .ok (.getfield 128, 3) := by decide +kernel
theorem dX8_tension_57 : decode cX8_tension 57 = .ok (.invokestatic 151, 3) := by decide +kernel
theorem dX8_tension_60 : decode cX8_tension 60 = .ok (.lreturn, 1) := by decide +kernel
theorem dX8_blows_0 : decode cX8_blows 0 = .ok (.aload_n 0, 1) := by decide +kernel
theorem dX8_blows_1 : decode cX8_blows 1 = .ok (.invokevirtual 141, 3) := by decide +kernel
theorem dX8_blows_4 : decode cX8_blows 4 = .ok (.aload_n 0, 1) := by decide +kernel
theorem dX8_blows_5 : decode cX8_blows 5 = .ok (.iconst 0, 1) := by decide +kernel
theorem dX8_blows_6 : decode cX8_blows 6 = .ok (.putfield 155, 3) := by decide +kernel
theorem dX8_blows_9 : decode cX8_blows 9 = .ok (.aload_n 0, 1) := by decide +kernel
theorem dX8_blows_10 : decode cX8_blows 10 = .ok (.iconst (-1), 1) := by decide +kernel
theorem dX8_blows_11 : decode cX8_blows 11 = .ok (.putfield 158, 3) := by decide +kernel
theorem dX8_blows_14 : decode cX8_blows 14 = .ok (.iconst 1, 1) := by decide +kernel
theorem dX8_blows_15 : decode cX8_blows 15 = .ok (.istore_n 3, 1) := by decide +kernel
theorem dX8_blows_16 : decode cX8_blows 16 = .ok (.iload_n 3, 1) := by decide +kernel
theorem dX8_blows_17 : decode cX8_blows 17 = .ok (.ifCond .eq 235, 3) := by decide +kernel
theorem dX8_blows_20 : decode cX8_blows 20 = .ok (.iconst (-1), 1) := by decide +kernel
theorem dX8_blows_21 : decode cX8_blows 21 = .ok (.istore 4, 2) := by decide +kernel
theorem dX8_blows_23 : decode cX8_blows 23 = .ok (.lconst 0, 1) := by decide +kernel
theorem dX8_blows_24 : decode cX8_blows 24 = .ok (.lstore 5, 2) := by decide +kernel
theorem dX8_blows_26 : decode cX8_blows 26 = .ok (.iconst 5, 1) := by decide +kernel
theorem dX8_blows_27 : decode cX8_blows 27 = .ok (.istore 7, 2) := by decide +kernel
theorem dX8_blows_29 : decode cX8_blows 29 = .ok (.iload 7, 2) := by decide +kernel
theorem dX8_blows_31 : decode cX8_blows 31 = .ok (.ifCond .lt 26, 3) := by decide +kernel
theorem dX8_blows_34 : decode cX8_blows 34 = .ok (.aload_n 0, 1) := by decide +kernel
theorem dX8_blows_35 : decode cX8_blows 35 = .ok (.iload_n 1, 1) := by decide +kernel
theorem dX8_blows_36 : decode cX8_blows 36 = .ok (.iload_n 2, 1) := by decide +kernel
theorem dX8_blows_37 : decode cX8_blows 37 = .ok (.iload 7, 2) := by decide +kernel
theorem dX8_blows_39 : decode cX8_blows 39 = .ok (.invokevirtual 144, 3) := by decide +kernel
theorem dX8_blows_42 : decode cX8_blows 42 = .ok (.ifCond .ne 9, 3) := by decide +kernel
theorem dX8_blows_45 : decode cX8_blows 45 = .ok (.aload_n 0, 1) := by decide +kernel
theorem dX8_blows_46 : decode cX8_blows 46 = .ok (.iload 7, 2) := by decide +kernel
theorem dX8_blows_48 : decode cX8_blows 48 = .ok (.putfield 158, 3) := by decide +kernel
theorem dX8_blows_51 : decode cX8_blows 51 = .ok (.iinc 7 (-1), 3) := by decide +kernel
theorem dX8_blows_54 : decode cX8_blows 54 = .ok (.goto (-25), 3) := by decide +kernel
theorem dX8_blows_57 : decode cX8_blows 57 = .ok (.iconst 0, 1) := by decide +kernel
theorem dX8_blows_58 : decode cX8_blows 58 = .ok (.istore 7, 2) := by decide +kernel
theorem dX8_blows_60 : decode cX8_blows 60 = .ok (.iload 7, 2) := by decide +kernel
theorem dX8_blows_62 : decode cX8_blows 62 = .ok (.bipush 6, 2) := by decide +kernel
theorem dX8_blows_64 : decode cX8_blows 64 = .ok (.if_icmp .ge 137, 3) := by decide +kernel
theorem dX8_blows_67 : decode cX8_blows 67 = .ok (.aload_n 0, 1) := by decide +kernel
theorem dX8_blows_68 : decode cX8_blows 68 = .ok (.getfield 158, 3) := by decide +kernel
theorem dX8_blows_71 : decode cX8_blows 71 = .ok (.iconst (-1), 1) := by decide +kernel
theorem dX8_blows_72 : decode cX8_blows 72 = .ok (.if_icmp .ne 129, 3) := by decide +kernel
theorem dX8_blows_75 : decode cX8_blows 75 = .ok (.aload_n 0, 1) := by decide +kernel
theorem dX8_blows_76 : decode cX8_blows 76 = .ok (.iload_n 1, 1) := by decide +kernel
theorem dX8_blows_77 : decode cX8_blows 77 = .ok (.iload_n 2, 1) := by decide +kernel
theorem dX8_blows_78 : decode cX8_blows 78 = .ok (.iload 7, 2) := by decide +kernel
theorem dX8_blows_80 : decode cX8_blows 80 = .ok (.invokevirtual 144, 3) := by decide +kernel
theorem dX8_blows_83 : decode cX8_blows 83 = .ok (.pop, 1) := by decide +kernel
theorem dX8_blows_84 : decode cX8_blows 84 = .ok (.bipush 8, 2) := by decide +kernel
theorem dX8_blows_86 : decode cX8_blows 86 = .ok (.iload 7, 2) := by decide +kernel
theorem dX8_blows_88 : decode cX8_blows 88 = .ok (.imul, 1) := by decide +kernel
theorem dX8_blows_89 : decode cX8_blows 89 = .ok (.istore 8, 2) := by decide +kernel
theorem dX8_blows_91 : decode cX8_blows 91 = .ok (.iload 8, 2) := by decide +kernel
theorem dX8_blows_93 : decode cX8_blows 93 = .ok (.bipush 8, 2) := by decide +kernel
theorem dX8_blows_95 : decode cX8_blows 95 = .ok (.iload 7, 2) := by decide +kernel
theorem dX8_blows_97 : decode cX8_blows 97 = .ok (.imul, 1) := by decide +kernel
theorem dX8_blows_98 : decode cX8_blows 98 = .ok (.bipush 8, 2) := by decide +kernel
theorem dX8_blows_100 : decode cX8_blows 100 = .ok (.iadd, 1) := by decide +kernel
theorem dX8_blows_101 : decode cX8_blows 101 = .ok (.if_icmp .ge 94, 3) := by decide +kernel
theorem dX8_blows_104 : decode cX8_blows 104 = .ok (.aload_n 0, 1) := by decide +kernel
theorem dX8_blows_105 : decode cX8_blows 105 = .ok (.getfield 24, 3) := by decide +kernel
theorem dX8_blows_108 : decode cX8_blows 108 = .ok (.iload 8, 2) := by decide +kernel
theorem dX8_blows_110 : decode cX8_blows 110 = .ok (.baload, 1) := by decide +kernel
theorem dX8_blows_111 : decode cX8_blows 111 = .ok (.ifCond .eq 6, 3) := by decide +kernel
theorem dX8_blows_114 : decode cX8_blows 114 = .ok (.goto 75, 3) := by decide +kernel
theorem dX8_blows_117 : decode cX8_blows 117 = .ok (.aload_n 0, 1) := by decide +kernel
theorem dX8_blows_118 : decode cX8_blows 118 = .ok (.iload 8, 2) := by decide +kernel
theorem dX8_blows_120 : decode cX8_blows 120 = .ok (.iconst 1, 1) := by decide +kernel
theorem dX8_blows_121 : decode cX8_blows 121 = .ok (.invokevirtual 147, 3) := by decide +kernel
theorem dX8_blows_124 : decode cX8_blows 124 = .ok (.aload_n 0, 1) := by decide +kernel
theorem dX8_blows_125 : decode cX8_blows 125 = .ok (.getfield 133, 3) := by decide +kernel
theorem dX8_blows_128 : decode cX8_blows 128 = .ok (.aload_n 0, 1) := by decide +kernel
theorem dX8_blows_129 : decode cX8_blows 129 = .ok (.iload 8, 2) := by decide +kernel
theorem dX8_blows_131 : decode cX8_blows 131 = .ok (.invokevirtual 103, 3) := by decide +kernel
theorem dX8_blows_134 : decode cX8_blows 134 = .ok (.i2l, 1) := by decide +kernel
theorem dX8_blows_135 : decode cX8_blows 135 = .ok (.aload_n 0, 1) := by decide +kernel
theorem dX8_blows_136 : decode cX8_blows 136 = .ok (.getfield 128, 3) := by decide +kernel
theorem dX8_blows_139 : decode cX8_blows 139 = .ok (.lmul, 1) := by decide +kernel
theorem dX8_blows_140 : decode cX8_blows 140 = .ok (.lsub, 1) := by decide +kernel
theorem dX8_blows_141 : decode cX8_blows 141 = .ok (.lstore 9, 2) := by decide +kernel
theorem dX8_blows_143 : decode cX8_blows 143 = .ok (.lload 9, 2) := by decide +kernel
theorem dX8_blows_145 : decode cX8_blows 145 = .ok (.lconst 0, 1) := by decide +kernel
theorem dX8_blows_146 : decode cX8_blows 146 = .ok (.lcmp, 1) := by decide +kernel
theorem dX8_blows_147 : decode cX8_blows 147 = .ok (.ifCond .gt 6, 3) := by decide +kernel
theorem dX8_blows_150 : decode cX8_blows 150 = .ok (.goto 39, 3) := by decide +kernel
theorem dX8_blows_153 : decode cX8_blows 153 = .ok (.lload 9, 2) := by decide +kernel
theorem dX8_blows_155 : decode cX8_blows 155 = .ok (.aload_n 0, 1) := by decide +kernel
theorem dX8_blows_156 : decode cX8_blows 156 = .ok (.getfield 128, 3) := by decide +kernel
theorem dX8_blows_159 : decode cX8_blows 159 = .ok (.invokestatic 151, 3) := by decide +kernel
theorem dX8_blows_162 : decode cX8_blows 162 = .ok (.lstore 11, 2) := by decide +kernel
theorem dX8_blows_164 : decode cX8_blows 164 = .ok (.iload 4, 2) := by decide +kernel
theorem dX8_blows_166 : decode cX8_blows 166 = .ok (.iconst (-1), 1) := by decide +kernel
theorem dX8_blows_167 : decode cX8_blows 167 = .ok (.if_icmp .eq 14, 3) := by decide +kernel
theorem dX8_blows_170 : decode cX8_blows 170 = .ok (.lload 11, 2) := by decide +kernel
theorem dX8_blows_172 : decode cX8_blows 172 = .ok (.lload 5, 2) := by decide +kernel
theorem dX8_blows_174 : decode cX8_blows 174 = .ok (.lcmp, 1) := by decide +kernel
theorem dX8_blows_175 : decode cX8_blows 175 = .ok (.ifCond .gt 6, 3) := by decide +kernel
theorem dX8_blows_178 : decode cX8_blows 178 = .ok (.goto 11, 3) := by decide +kernel
theorem dX8_blows_181 : decode cX8_blows 181 = .ok (.iload 8, 2) := by decide +kernel
theorem dX8_blows_183 : decode cX8_blows 183 = .ok (.istore 4, 2) := by decide +kernel
theorem dX8_blows_185 : decode cX8_blows 185 = .ok (.lload 11, 2) := by decide +kernel
theorem dX8_blows_187 : decode cX8_blows 187 = .ok (.lstore 5, 2) := by decide +kernel
theorem dX8_blows_189 : decode cX8_blows 189 = .ok (.iinc 8 1, 3) := by decide +kernel
theorem dX8_blows_192 : decode cX8_blows 192 = .ok (.goto (-101), 3) := by decide +kernel
theorem dX8_blows_195 : decode cX8_blows 195 = .ok (.iinc 7 1, 3) := by decide +kernel
theorem dX8_blows_198 : decode cX8_blows 198 = .ok (.goto (-138), 3) := by decide +kernel
theorem dX8_blows_201 : decode cX8_blows 201 = .ok (.iload 4, 2) := by decide +kernel
theorem dX8_blows_203 : decode cX8_blows 203 = .ok (.iconst (-1), 1) := by decide +kernel
theorem dX8_blows_204 : decode cX8_blows 204 = .ok (.if_icmp .eq 7, 3) := by decide +kernel
theorem dX8_blows_207 : decode cX8_blows 207 = .ok (.iconst 1, 1) := by decide +kernel
theorem dX8_blows_208 : decode cX8_blows 208 = .ok (.goto 4, 3) := by decide +kernel
theorem dX8_blows_211 : decode cX8_blows 211 = .ok (.iconst 0, 1) := by decide +kernel
theorem dX8_blows_212 : decode cX8_blows 212 = .ok (.istore_n 3, 1) := by decide +kernel
theorem dX8_blows_213 : decode cX8_blows 213 = .ok (.iload_n 3, 1) := by decide +kernel
theorem dX8_blows_214 : decode cX8_blows 214 = .ok (.ifCond .ne 6, 3) := by decide +kernel
theorem dX8_blows_217 : decode cX8_blows 217 = .ok (.goto (-201), 3) := by decide +kernel
theorem dX8_blows_220 : decode cX8_blows 220 = .ok (.aload_n 0, 1) := by decide +kernel
theorem dX8_blows_221 : decode cX8_blows 221 = .ok (.getfield 24, 3) := by decide +kernel
theorem dX8_blows_224 : decode cX8_blows 224 = .ok (.iload 4, 2) := by decide +kernel
theorem dX8_blows_226 : decode cX8_blows 226 = .ok (.iconst 1, 1) := by decide +kernel
theorem dX8_blows_227 : decode cX8_blows 227 = .ok (.bastore, 1) := by decide +kernel
theorem dX8_blows_228 : decode cX8_blows 228 = .ok (.aload_n 0, 1) := by decide +kernel
theorem dX8_blows_229 : decode cX8_blows 229 = .ok (.getfield 34, 3) := by decide +kernel
theorem dX8_blows_232 : decode cX8_blows 232 = .ok (.aload_n 0, 1) := by decide +kernel
theorem dX8_blows_233 : decode cX8_blows 233 = .ok (.getfield 155, 3) := by decide +kernel
theorem dX8_blows_236 : decode cX8_blows 236 = .ok (.iload 4, 2) := by decide +kernel
theorem dX8_blows_238 : decode cX8_blows 238 = .ok (.iastore, 1) := by decide +kernel
theorem dX8_blows_239 : decode cX8_blows 239 = .ok (.aload_n 0, 1) := by decide +kernel
theorem dX8_blows_240 : decode cX8_blows 240 = .ok (.dup, 1) := by decide +kernel
theorem dX8_blows_241 : decode cX8_blows 241 = .ok (.getfield 155, 3) := by decide +kernel
theorem dX8_blows_244 : decode cX8_blows 244 = .ok (.iconst 1, 1) := by decide +kernel
theorem dX8_blows_245 : decode cX8_blows 245 = .ok (.iadd, 1) := by decide +kernel
theorem dX8_blows_246 : decode cX8_blows 246 = .ok (.putfield 155, 3) := by decide +kernel
theorem dX8_blows_249 : decode cX8_blows 249 = .ok (.goto (-233), 3) := by decide +kernel
theorem dX8_blows_252 : decode cX8_blows 252 = .ok (.return_, 1) := by decide +kernel
theorem dX8_goes_0 : decode cX8_goes 0 = .ok (.aload_n 0, 1) := by decide +kernel
theorem dX8_goes_1 : decode cX8_goes 1 = .ok (.iload_n 1, 1) := by decide +kernel
theorem dX8_goes_2 : decode cX8_goes 2 = .ok (.invokevirtual 136, 3) := by decide +kernel
theorem dX8_goes_5 : decode cX8_goes 5 = .ok (.ifCond .eq 17, 3) := by decide +kernel
theorem dX8_goes_8 : decode cX8_goes 8 = .ok (.iload_n 2, 1) := by decide +kernel
theorem dX8_goes_9 : decode cX8_goes 9 = .ok (.iconst 0, 1) := by decide +kernel
theorem dX8_goes_10 : decode cX8_goes 10 = .ok (.iconst 1, 1) := by decide +kernel
theorem dX8_goes_11 : decode cX8_goes 11 = .ok (.invokestatic 83, 3) := by decide +kernel
theorem dX8_goes_14 : decode cX8_goes 14 = .ok (.ifCond .eq 8, 3) := by decide +kernel
theorem dX8_goes_17 : decode cX8_goes 17 = .ok (.iload_n 3, 1) := by decide +kernel
theorem dX8_goes_18 : decode cX8_goes 18 = .ok (.iconst (-1), 1) := by decide +kernel
theorem dX8_goes_19 : decode cX8_goes 19 = .ok (.if_icmp .ge 5, 3) := by decide +kernel
theorem dX8_goes_22 : decode cX8_goes 22 = .ok (.iconst (-1), 1) := by decide +kernel
theorem dX8_goes_23 : decode cX8_goes 23 = .ok (.ireturn, 1) := by decide +kernel
theorem dX8_goes_24 : decode cX8_goes 24 = .ok (.aload_n 0, 1) := by decide +kernel
theorem dX8_goes_25 : decode cX8_goes 25 = .ok (.iload_n 1, 1) := by decide +kernel
theorem dX8_goes_26 : decode cX8_goes 26 = .ok (.iload_n 2, 1) := by decide +kernel
theorem dX8_goes_27 : decode cX8_goes 27 = .ok (.invokevirtual 161, 3) := by decide +kernel
theorem dX8_goes_30 : decode cX8_goes 30 = .ok (.iload_n 3, 1) := by decide +kernel
theorem dX8_goes_31 : decode cX8_goes 31 = .ok (.iconst (-1), 1) := by decide +kernel
theorem dX8_goes_32 : decode cX8_goes 32 = .ok (.if_icmp .ne 10, 3) := by decide +kernel
theorem dX8_goes_35 : decode cX8_goes 35 = .ok (.aload_n 0, 1) := by decide +kernel
theorem dX8_goes_36 : decode cX8_goes 36 = .ok (.getfield 155, 3) := by decide +kernel
theorem dX8_goes_39 : decode cX8_goes 39 = .ok (.goto 21, 3) := by decide +kernel
theorem dX8_goes_42 : decode cX8_goes 42 = .ok (.iload_n 3, 1) := by decide +kernel
theorem dX8_goes_43 : decode cX8_goes 43 = .ok (.aload_n 0, 1) := by decide +kernel
theorem dX8_goes_44 : decode cX8_goes 44 = .ok (.getfield 155, 3) := by decide +kernel
theorem dX8_goes_47 : decode cX8_goes 47 = .ok (.if_icmp .ge 12, 3) := by decide +kernel
theorem dX8_goes_50 : decode cX8_goes 50 = .ok (.aload_n 0, 1) := by decide +kernel
theorem dX8_goes_51 : decode cX8_goes 51 = .ok (.getfield 34, 3) := by decide +kernel
theorem dX8_goes_54 : decode cX8_goes 54 = .ok (.iload_n 3, 1) := by decide +kernel
theorem dX8_goes_55 : decode cX8_goes 55 = .ok (.iaload, 1) := by decide +kernel
theorem dX8_goes_56 : decode cX8_goes 56 = .ok (.goto 4, 3) := by decide +kernel
theorem dX8_goes_59 : decode cX8_goes 59 = .ok (.iconst (-1), 1) := by decide +kernel
theorem dX8_goes_60 : decode cX8_goes 60 = .ok (.ireturn, 1) := by decide +kernel
theorem dX8_falls_0 : decode cX8_falls 0 = .ok (.aload_n 0, 1) := by decide +kernel
theorem dX8_falls_1 : decode cX8_falls 1 = .ok (.iload_n 1, 1) := by decide +kernel
theorem dX8_falls_2 : decode cX8_falls 2 = .ok (.invokevirtual 136, 3) := by decide +kernel
theorem dX8_falls_5 : decode cX8_falls 5 = .ok (.ifCond .eq 12, 3) := by decide +kernel
theorem dX8_falls_8 : decode cX8_falls 8 = .ok (.iload_n 2, 1) := by decide +kernel
theorem dX8_falls_9 : decode cX8_falls 9 = .ok (.iconst 0, 1) := by decide +kernel
theorem dX8_falls_10 : decode cX8_falls 10 = .ok (.iconst 1, 1) := by decide +kernel
theorem dX8_falls_11 : decode cX8_falls 11 = .ok (.invokestatic 83, 3) := by decide +kernel
theorem dX8_falls_14 : decode cX8_falls 14 = .ok (.ifCond .ne 5, 3) := by decide +kernel
theorem dX8_falls_17 : decode cX8_falls 17 = .ok (.iconst (-1), 1) := by decide +kernel
theorem dX8_falls_18 : decode cX8_falls 18 = .ok (.ireturn, 1) := by decide +kernel
theorem dX8_falls_19 : decode cX8_falls 19 = .ok (.aload_n 0, 1) := by decide +kernel
theorem dX8_falls_20 : decode cX8_falls 20 = .ok (.iload_n 1, 1) := by decide +kernel
theorem dX8_falls_21 : decode cX8_falls 21 = .ok (.iload_n 2, 1) := by decide +kernel
theorem dX8_falls_22 : decode cX8_falls 22 = .ok (.invokevirtual 161, 3) := by decide +kernel
theorem dX8_falls_25 : decode cX8_falls 25 = .ok (.aload_n 0, 1) := by decide +kernel
theorem dX8_falls_26 : decode cX8_falls 26 = .ok (.getfield 158, 3) := by decide +kernel
theorem dX8_falls_29 : decode cX8_falls 29 = .ok (.ireturn, 1) := by decide +kernel
theorem dX8_feed_0 : decode cX8_feed 0 = .ok (.aload_n 0, 1) := by decide +kernel
theorem dX8_feed_1 : decode cX8_feed 1 = .ok (.getfield 165, 3) := by decide +kernel
theorem dX8_feed_4 : decode cX8_feed 4 = .ok (.bipush 20, 2) := by decide +kernel
theorem dX8_feed_6 : decode cX8_feed 6 = .ok (.iadd, 1) := by decide +kernel
theorem dX8_feed_7 : decode cX8_feed 7 = .ok (.sipush 400, 3) := by decide +kernel
theorem dX8_feed_10 : decode cX8_feed 10 = .ok (.if_icmp .le 5, 3) := by decide +kernel
theorem dX8_feed_13 : decode cX8_feed 13 = .ok (.iconst (-1), 1) := by decide +kernel
theorem dX8_feed_14 : decode cX8_feed 14 = .ok (.ireturn, 1) := by decide +kernel
theorem dX8_feed_15 : decode cX8_feed 15 = .ok (.aload_n 0, 1) := by decide +kernel
theorem dX8_feed_16 : decode cX8_feed 16 = .ok (.getfield 44, 3) := by decide +kernel
theorem dX8_feed_19 : decode cX8_feed 19 = .ok (.iconst 0, 1) := by decide +kernel
theorem dX8_feed_20 : decode cX8_feed 20 = .ok (.iload_n 1, 1) := by decide +kernel
theorem dX8_feed_21 : decode cX8_feed 21 = .ok (.iastore, 1) := by decide +kernel
theorem dX8_feed_22 : decode cX8_feed 22 = .ok (.aload_n 0, 1) := by decide +kernel
theorem dX8_feed_23 : decode cX8_feed 23 = .ok (.getfield 44, 3) := by decide +kernel
theorem dX8_feed_26 : decode cX8_feed 26 = .ok (.iconst 1, 1) := by decide +kernel
theorem dX8_feed_27 : decode cX8_feed 27 = .ok (.iload_n 2, 1) := by decide +kernel
theorem dX8_feed_28 : decode cX8_feed 28 = .ok (.iastore, 1) := by decide +kernel
theorem dX8_feed_29 : decode cX8_feed 29 = .ok (.aload_n 0, 1) := by decide +kernel
theorem dX8_feed_30 : decode cX8_feed 30 = .ok (.getfield 44, 3) := by decide +kernel
theorem dX8_feed_33 : decode cX8_feed 33 = .ok (.iconst 2, 1) := by decide +kernel
theorem dX8_feed_34 : decode cX8_feed 34 = .ok (.iload_n 3, 1) := by decide +kernel
theorem dX8_feed_35 : decode cX8_feed 35 = .ok (.iastore, 1) := by decide +kernel
theorem dX8_feed_36 : decode cX8_feed 36 = .ok (.aload_n 0, 1) := by decide +kernel
theorem dX8_feed_37 : decode cX8_feed 37 = .ok (.getfield 44, 3) := by decide +kernel
theorem dX8_feed_40 : decode cX8_feed 40 = .ok (.iconst 3, 1) := by decide +kernel
theorem dX8_feed_41 : decode cX8_feed 41 = .ok (.iload 4, 2) := by decide +kernel
theorem dX8_feed_43 : decode cX8_feed 43 = .ok (.iastore, 1) := by decide +kernel
theorem dX8_feed_44 : decode cX8_feed 44 = .ok (.aload_n 0, 1) := by decide +kernel
theorem dX8_feed_45 : decode cX8_feed 45 = .ok (.getfield 44, 3) := by decide +kernel
theorem dX8_feed_48 : decode cX8_feed 48 = .ok (.iconst 4, 1) := by decide +kernel
theorem dX8_feed_49 : decode cX8_feed 49 = .ok (.iload 5, 2) := by decide +kernel
theorem dX8_feed_51 : decode cX8_feed 51 = .ok (.iastore, 1) := by decide +kernel
theorem dX8_feed_52 : decode cX8_feed 52 = .ok (.iconst 0, 1) := by decide +kernel
theorem dX8_feed_53 : decode cX8_feed 53 = .ok (.istore 6, 2) := by decide +kernel
theorem dX8_feed_55 : decode cX8_feed 55 = .ok (.iload 6, 2) := by decide +kernel
theorem dX8_feed_57 : decode cX8_feed 57 = .ok (.bipush 20, 2) := by decide +kernel
theorem dX8_feed_59 : decode cX8_feed 59 = .ok (.if_icmp .ge 42, 3) := by decide +kernel
theorem dX8_feed_62 : decode cX8_feed 62 = .ok (.aload_n 0, 1) := by decide +kernel
theorem dX8_feed_63 : decode cX8_feed 63 = .ok (.getfield 41, 3) := by decide +kernel
theorem dX8_feed_66 : decode cX8_feed 66 = .ok (.aload_n 0, 1) := by decide +kernel
theorem dX8_feed_67 : decode cX8_feed 67 = .ok (.getfield 165, 3) := by decide +kernel
theorem dX8_feed_70 : decode cX8_feed 70 = .ok (.iload 6, 2) := by decide +kernel
theorem dX8_feed_72 : decode cX8_feed 72 = .ok (.iadd, 1) := by decide +kernel
theorem dX8_feed_73 : decode cX8_feed 73 = .ok (.aload_n 0, 1) := by decide +kernel
theorem dX8_feed_74 : decode cX8_feed 74 = .ok (.getfield 44, 3) := by decide +kernel
theorem dX8_feed_77 : decode cX8_feed 77 = .ok (.iload 6, 2) := by decide +kernel
theorem dX8_feed_79 : decode cX8_feed 79 = .ok (.iconst 4, 1) := by decide +kernel
theorem dX8_feed_80 : decode cX8_feed 80 = .ok (.idiv, 1) := by decide +kernel
theorem dX8_feed_81 : decode cX8_feed 81 = .ok (.iaload, 1) := by decide +kernel
theorem dX8_feed_82 : decode cX8_feed 82 = .ok (.bipush 24, 2) := by decide +kernel
theorem dX8_feed_84 : decode cX8_feed 84 = .ok (.bipush 8, 2) := by decide +kernel
theorem dX8_feed_86 : decode cX8_feed 86 = .ok (.iload 6, 2) := by decide +kernel
theorem dX8_feed_88 : decode cX8_feed 88 = .ok (.iconst 4, 1) := by decide +kernel
theorem dX8_feed_89 : decode cX8_feed 89 = .ok (.irem, 1) := by decide +kernel
theorem dX8_feed_90 : decode cX8_feed 90 = .ok (.imul, 1) := by decide +kernel
theorem dX8_feed_91 : decode cX8_feed 91 = .ok (.isub, 1) := by decide +kernel
theorem dX8_feed_92 : decode cX8_feed 92 = .ok (.ishr, 1) := by decide +kernel
theorem dX8_feed_93 : decode cX8_feed 93 = .ok (.i2b, 1) := by decide +kernel
theorem dX8_feed_94 : decode cX8_feed 94 = .ok (.bastore, 1) := by decide +kernel
theorem dX8_feed_95 : decode cX8_feed 95 = .ok (.iinc 6 1, 3) := by decide +kernel
theorem dX8_feed_98 : decode cX8_feed 98 = .ok (.goto (-43), 3) := by decide +kernel
theorem dX8_feed_101 : decode cX8_feed 101 = .ok (.aload_n 0, 1) := by decide +kernel
theorem dX8_feed_102 : decode cX8_feed 102 = .ok (.dup, 1) := by decide +kernel
theorem dX8_feed_103 : decode cX8_feed 103 = .ok (.getfield 165, 3) := by decide +kernel
theorem dX8_feed_106 : decode cX8_feed 106 = .ok (.bipush 20, 2) := by decide +kernel
theorem dX8_feed_108 : decode cX8_feed 108 = .ok (.iadd, 1) := by decide +kernel
theorem dX8_feed_109 : decode cX8_feed 109 = .ok (.putfield 165, 3) := by decide +kernel
theorem dX8_feed_112 : decode cX8_feed 112 = .ok (.aload_n 0, 1) := by decide +kernel
theorem dX8_feed_113 : decode cX8_feed 113 = .ok (.getfield 165, 3) := by decide +kernel
theorem dX8_feed_116 : decode cX8_feed 116 = .ok (.ireturn, 1) := by decide +kernel
theorem dX8_end_0 : decode cX8_end 0 = .ok (.iload_n 1, 1) := by decide +kernel
theorem dX8_end_1 : decode cX8_end 1 = .ok (.iconst 0, 1) := by decide +kernel
theorem dX8_end_2 : decode cX8_end 2 = .ok (.aload_n 0, 1) := by decide +kernel
theorem dX8_end_3 : decode cX8_end 3 = .ok (.getfield 165, 3) := by decide +kernel
theorem dX8_end_6 : decode cX8_end 6 = .ok (.invokestatic 83, 3) := by decide +kernel
theorem dX8_end_9 : decode cX8_end 9 = .ok (.ifCond .ne 5, 3) := by decide +kernel
theorem dX8_end_12 : decode cX8_end 12 = .ok (.iconst (-1), 1) := by decide +kernel
theorem dX8_end_13 : decode cX8_end 13 = .ok (.ireturn, 1) := by decide +kernel
theorem dX8_end_14 : decode cX8_end 14 = .ok (.aload_n 0, 1) := by decide +kernel
theorem dX8_end_15 : decode cX8_end 15 = .ok (.iload_n 1, 1) := by decide +kernel
theorem dX8_end_16 : decode cX8_end 16 = .ok (.putfield 165, 3) := by decide +kernel
theorem dX8_end_19 : decode cX8_end 19 = .ok (.iload_n 1, 1) := by decide +kernel
theorem dX8_end_20 : decode cX8_end 20 = .ok (.ireturn, 1) := by decide +kernel
theorem dX8_isSmall_0 : decode cX8_isSmall 0 = .ok (.iload_n 0, 1) := by decide +kernel
theorem dX8_isSmall_1 : decode cX8_isSmall 1 = .ok (.bipush 97, 2) := by decide +kernel
theorem dX8_isSmall_3 : decode cX8_isSmall 3 = .ok (.if_icmp .lt 13, 3) := by decide +kernel
theorem dX8_isSmall_6 : decode cX8_isSmall 6 = .ok (.iload_n 0, 1) := by decide +kernel
theorem dX8_isSmall_7 : decode cX8_isSmall 7 = .ok (.bipush 122, 2) := by decide +kernel
theorem dX8_isSmall_9 : decode cX8_isSmall 9 = .ok (.if_icmp .gt 7, 3) := by decide +kernel
theorem dX8_isSmall_12 : decode cX8_isSmall 12 = .ok (.iconst 1, 1) := by decide +kernel
theorem dX8_isSmall_13 : decode cX8_isSmall 13 = .ok (.goto 4, 3) := by decide +kernel
theorem dX8_isSmall_16 : decode cX8_isSmall 16 = .ok (.iconst 0, 1) := by decide +kernel
theorem dX8_isSmall_17 : decode cX8_isSmall 17 = .ok (.ireturn, 1) := by decide +kernel
theorem dX8_isDigit_0 : decode cX8_isDigit 0 = .ok (.iload_n 0, 1) := by decide +kernel
theorem dX8_isDigit_1 : decode cX8_isDigit 1 = .ok (.bipush 48, 2) := by decide +kernel
theorem dX8_isDigit_3 : decode cX8_isDigit 3 = .ok (.if_icmp .lt 13, 3) := by decide +kernel
theorem dX8_isDigit_6 : decode cX8_isDigit 6 = .ok (.iload_n 0, 1) := by decide +kernel
theorem dX8_isDigit_7 : decode cX8_isDigit 7 = .ok (.bipush 57, 2) := by decide +kernel
theorem dX8_isDigit_9 : decode cX8_isDigit 9 = .ok (.if_icmp .gt 7, 3) := by decide +kernel
theorem dX8_isDigit_12 : decode cX8_isDigit 12 = .ok (.iconst 1, 1) := by decide +kernel
theorem dX8_isDigit_13 : decode cX8_isDigit 13 = .ok (.goto 4, 3) := by decide +kernel
theorem dX8_isDigit_16 : decode cX8_isDigit 16 = .ok (.iconst 0, 1) := by decide +kernel
theorem dX8_isDigit_17 : decode cX8_isDigit 17 = .ok (.ireturn, 1) := by decide +kernel
theorem dX8_wordOf_0 : decode cX8_wordOf 0 = .ok (.iconst 1, 1) := by decide +kernel
theorem dX8_wordOf_1 : decode cX8_wordOf 1 = .ok (.istore_n 3, 1) := by decide +kernel
theorem dX8_wordOf_2 : decode cX8_wordOf 2 = .ok (.iconst 0, 1) := by decide +kernel
theorem dX8_wordOf_3 : decode cX8_wordOf 3 = .ok (.istore 4, 2) := by decide +kernel
theorem dX8_wordOf_5 : decode cX8_wordOf 5 = .ok (.iload 4, 2) := by decide +kernel
theorem dX8_wordOf_7 : decode cX8_wordOf 7 = .ok (.aload_n 0, 1) := by decide +kernel
theorem dX8_wordOf_8 : decode cX8_wordOf 8 = .ok (.getfield 37, 3) := by decide +kernel
theorem dX8_wordOf_11 : decode cX8_wordOf 11 = .ok (.arraylength, 1) := by decide +kernel
theorem dX8_wordOf_12 : decode cX8_wordOf 12 = .ok (.if_icmp .ge 114, 3) := by decide +kernel
theorem dX8_wordOf_15 : decode cX8_wordOf 15 = .ok (.iconst 0, 1) := by decide +kernel
theorem dX8_wordOf_16 : decode cX8_wordOf 16 = .ok (.istore 5, 2) := by decide +kernel
theorem dX8_wordOf_18 : decode cX8_wordOf 18 = .ok (.aload_n 0, 1) := by decide +kernel
theorem dX8_wordOf_19 : decode cX8_wordOf 19 = .ok (.getfield 37, 3) := by decide +kernel
theorem dX8_wordOf_22 : decode cX8_wordOf 22 = .ok (.iload 4, 2) := by decide +kernel
theorem dX8_wordOf_24 : decode cX8_wordOf 24 = .ok (.iload 5, 2) := by decide +kernel
theorem dX8_wordOf_26 : decode cX8_wordOf 26 = .ok (.iadd, 1) := by decide +kernel
theorem dX8_wordOf_27 : decode cX8_wordOf 27 = .ok (.baload, 1) := by decide +kernel
theorem dX8_wordOf_28 : decode cX8_wordOf 28 = .ok (.bipush 32, 2) := by decide +kernel
theorem dX8_wordOf_30 : decode cX8_wordOf 30 = .ok (.if_icmp .eq 9, 3) := by decide +kernel
theorem dX8_wordOf_33 : decode cX8_wordOf 33 = .ok (.iinc 5 1, 3) := by decide +kernel
theorem dX8_wordOf_36 : decode cX8_wordOf 36 = .ok (.goto (-18), 3) := by decide +kernel
theorem dX8_wordOf_39 : decode cX8_wordOf 39 = .ok (.iload 5, 2) := by decide +kernel
theorem dX8_wordOf_41 : decode cX8_wordOf 41 = .ok (.iload_n 2, 1) := by decide +kernel
theorem dX8_wordOf_42 : decode cX8_wordOf 42 = .ok (.iload_n 1, 1) := by decide +kernel
theorem dX8_wordOf_43 : decode cX8_wordOf 43 = .ok (.isub, 1) := by decide +kernel
theorem dX8_wordOf_44 : decode cX8_wordOf 44 = .ok (.if_icmp .ne 7, 3) := by decide +kernel
theorem dX8_wordOf_47 : decode cX8_wordOf 47 = .ok (.iconst 1, 1) := by decide +kernel
theorem dX8_wordOf_48 : decode cX8_wordOf 48 = .ok (.goto 4, 3) := by decide +kernel
theorem dX8_wordOf_51 : decode cX8_wordOf 51 = .ok (.iconst 0, 1) := by decide +kernel
theorem dX8_wordOf_52 : decode cX8_wordOf 52 = .ok (.istore 6, 2) := by decide +kernel
theorem dX8_wordOf_54 : decode cX8_wordOf 54 = .ok (.iconst 0, 1) := by decide +kernel
theorem dX8_wordOf_55 : decode cX8_wordOf 55 = .ok (.istore 7, 2) := by decide +kernel
theorem dX8_wordOf_57 : decode cX8_wordOf 57 = .ok (.iload 7, 2) := by decide +kernel
theorem dX8_wordOf_59 : decode cX8_wordOf 59 = .ok (.iload 5, 2) := by decide +kernel
theorem dX8_wordOf_61 : decode cX8_wordOf 61 = .ok (.if_icmp .ge 43, 3) := by decide +kernel
theorem dX8_wordOf_64 : decode cX8_wordOf 64 = .ok (.iload 6, 2) := by decide +kernel
theorem dX8_wordOf_66 : decode cX8_wordOf 66 = .ok (.ifCond .eq 38, 3) := by decide +kernel
theorem dX8_wordOf_69 : decode cX8_wordOf 69 = .ok (.aload_n 0, 1) := by decide +kernel
theorem dX8_wordOf_70 : decode cX8_wordOf 70 = .ok (.getfield 37, 3) := by decide +kernel
theorem dX8_wordOf_73 : decode cX8_wordOf 73 = .ok (.iload 4, 2) := by decide +kernel
theorem dX8_wordOf_75 : decode cX8_wordOf 75 = .ok (.iload 7, 2) := by decide +kernel
theorem dX8_wordOf_77 : decode cX8_wordOf 77 = .ok (.iadd, 1) := by decide +kernel
theorem dX8_wordOf_78 : decode cX8_wordOf 78 = .ok (.baload, 1) := by decide +kernel
theorem dX8_wordOf_79 : decode cX8_wordOf 79 = .ok (.aload_n 0, 1) := by decide +kernel
theorem dX8_wordOf_80 : decode cX8_wordOf 80 = .ok (.getfield 41, 3) := by decide +kernel
theorem dX8_wordOf_83 : decode cX8_wordOf 83 = .ok (.iload_n 1, 1) := by decide +kernel
theorem dX8_wordOf_84 : decode cX8_wordOf 84 = .ok (.iload 7, 2) := by decide +kernel
theorem dX8_wordOf_86 : decode cX8_wordOf 86 = .ok (.iadd, 1) := by decide +kernel
theorem dX8_wordOf_87 : decode cX8_wordOf 87 = .ok (.baload, 1) := by decide +kernel
theorem dX8_wordOf_88 : decode cX8_wordOf 88 = .ok (.if_icmp .ne 7, 3) := by decide +kernel
theorem dX8_wordOf_91 : decode cX8_wordOf 91 = .ok (.iconst 1, 1) := by decide +kernel
theorem dX8_wordOf_92 : decode cX8_wordOf 92 = .ok (.goto 4, 3) := by decide +kernel
theorem dX8_wordOf_95 : decode cX8_wordOf 95 = .ok (.iconst 0, 1) := by decide +kernel
theorem dX8_wordOf_96 : decode cX8_wordOf 96 = .ok (.istore 6, 2) := by decide +kernel
theorem dX8_wordOf_98 : decode cX8_wordOf 98 = .ok (.iinc 7 1, 3) := by decide +kernel
theorem dX8_wordOf_101 : decode cX8_wordOf 101 = .ok (.goto (-44), 3) := by decide +kernel
theorem dX8_wordOf_104 : decode cX8_wordOf 104 = .ok (.iload 6, 2) := by decide +kernel
theorem dX8_wordOf_106 : decode cX8_wordOf 106 = .ok (.ifCond .eq 5, 3) := by decide +kernel
theorem dX8_wordOf_109 : decode cX8_wordOf 109 = .ok (.iload_n 3, 1) := by decide +kernel
theorem dX8_wordOf_110 : decode cX8_wordOf 110 = .ok (.ireturn, 1) := by decide +kernel
theorem dX8_wordOf_111 : decode cX8_wordOf 111 = .ok (.iload 4, 2) := by decide +kernel
theorem dX8_wordOf_113 : decode cX8_wordOf 113 = .ok (.iload 5, 2) := by decide +kernel
theorem dX8_wordOf_115 : decode cX8_wordOf 115 = .ok (.iconst 1, 1) := by decide +kernel
theorem dX8_wordOf_116 : decode cX8_wordOf 116 = .ok (.iadd, 1) := by decide +kernel
theorem dX8_wordOf_117 : decode cX8_wordOf 117 = .ok (.iadd, 1) := by decide +kernel
theorem dX8_wordOf_118 : decode cX8_wordOf 118 = .ok (.istore 4, 2) := by decide +kernel
theorem dX8_wordOf_120 : decode cX8_wordOf 120 = .ok (.iinc 3 1, 3) := by decide +kernel
theorem dX8_wordOf_123 : decode cX8_wordOf 123 = .ok (.goto (-118), 3) := by decide +kernel
theorem dX8_wordOf_126 : decode cX8_wordOf 126 = .ok (.iconst 0, 1) := by decide +kernel
theorem dX8_wordOf_127 : decode cX8_wordOf 127 = .ok (.ireturn, 1) := by decide +kernel
theorem dX8_cuts_0 : decode cX8_cuts 0 = .ok (.aload_n 0, 1) := by decide +kernel
theorem dX8_cuts_1 : decode cX8_cuts 1 = .ok (.iconst 0, 1) := by decide +kernel
theorem dX8_cuts_2 : decode cX8_cuts 2 = .ok (.putfield 168, 3) := by decide +kernel
theorem dX8_cuts_5 : decode cX8_cuts 5 = .ok (.iconst 0, 1) := by decide +kernel
theorem dX8_cuts_6 : decode cX8_cuts 6 = .ok (.istore_n 2, 1) := by decide +kernel
theorem dX8_cuts_7 : decode cX8_cuts 7 = .ok (.iload_n 2, 1) := by decide +kernel
theorem dX8_cuts_8 : decode cX8_cuts 8 = .ok (.iload_n 1, 1) := by decide +kernel
theorem dX8_cuts_9 : decode cX8_cuts 9 = .ok (.if_icmp .ge 254, 3) := by decide +kernel
theorem dX8_cuts_12 : decode cX8_cuts 12 = .ok (.aload_n 0, 1) := by decide +kernel
theorem dX8_cuts_13 : decode cX8_cuts 13 = .ok (.getfield 41, 3) := by decide +kernel
theorem dX8_cuts_16 : decode cX8_cuts 16 = .ok (.iload_n 2, 1) := by decide +kernel
theorem dX8_cuts_17 : decode cX8_cuts 17 = .ok (.baload, 1) := by decide +kernel
theorem dX8_cuts_18 : decode cX8_cuts 18 = .ok (.istore_n 3, 1) := by decide +kernel
theorem dX8_cuts_19 : decode cX8_cuts 19 = .ok (.iload_n 3, 1) := by decide +kernel
theorem dX8_cuts_20 : decode cX8_cuts 20 = .ok (.bipush 32, 2) := by decide +kernel
theorem dX8_cuts_22 : decode cX8_cuts 22 = .ok (.if_icmp .ne 9, 3) := by decide +kernel
theorem dX8_cuts_25 : decode cX8_cuts 25 = .ok (.iinc 2 1, 3) := by decide +kernel
theorem dX8_cuts_28 : decode cX8_cuts 28 = .ok (.goto (-21), 3) := by decide +kernel
theorem dX8_cuts_31 : decode cX8_cuts 31 = .ok (.iload_n 2, 1) := by decide +kernel
theorem dX8_cuts_32 : decode cX8_cuts 32 = .ok (.iconst 1, 1) := by decide +kernel
theorem dX8_cuts_33 : decode cX8_cuts 33 = .ok (.iadd, 1) := by decide +kernel
theorem dX8_cuts_34 : decode cX8_cuts 34 = .ok (.istore 4, 2) := by decide +kernel
theorem dX8_cuts_36 : decode cX8_cuts 36 = .ok (.iload_n 3, 1) := by decide +kernel
theorem dX8_cuts_37 : decode cX8_cuts 37 = .ok (.invokestatic 171, 3) := by decide +kernel
theorem dX8_cuts_40 : decode cX8_cuts 40 = .ok (.ifCond .eq 28, 3) := by decide +kernel
theorem dX8_cuts_43 : decode cX8_cuts 43 = .ok (.iload 4, 2) := by decide +kernel
theorem dX8_cuts_45 : decode cX8_cuts 45 = .ok (.iload_n 1, 1) := by decide +kernel
theorem dX8_cuts_46 : decode cX8_cuts 46 = .ok (.if_icmp .ge 22, 3) := by decide +kernel
theorem dX8_cuts_49 : decode cX8_cuts 49 = .ok (.aload_n 0, 1) := by decide +kernel
theorem dX8_cuts_50 : decode cX8_cuts 50 = .ok (.getfield 41, 3) := by decide +kernel
theorem dX8_cuts_53 : decode cX8_cuts 53 = .ok (.iload 4, 2) := by decide +kernel
theorem dX8_cuts_55 : decode cX8_cuts 55 = .ok (.baload, 1) := by decide +kernel
theorem dX8_cuts_56 : decode cX8_cuts 56 = .ok (.invokestatic 171, 3) := by decide +kernel
theorem dX8_cuts_59 : decode cX8_cuts 59 = .ok (.ifCond .eq 9, 3) := by decide +kernel
theorem dX8_cuts_62 : decode cX8_cuts 62 = .ok (.iinc 4 1, 3) := by decide +kernel
theorem dX8_cuts_65 : decode cX8_cuts 65 = .ok (.goto (-22), 3) := by decide +kernel
theorem dX8_cuts_68 : decode cX8_cuts 68 = .ok (.iload_n 3, 1) := by decide +kernel
theorem dX8_cuts_69 : decode cX8_cuts 69 = .ok (.invokestatic 174, 3) := by decide +kernel
theorem dX8_cuts_72 : decode cX8_cuts 72 = .ok (.ifCond .eq 28, 3) := by decide +kernel
theorem dX8_cuts_75 : decode cX8_cuts 75 = .ok (.iload 4, 2) := by decide +kernel
theorem dX8_cuts_77 : decode cX8_cuts 77 = .ok (.iload_n 1, 1) := by decide +kernel
theorem dX8_cuts_78 : decode cX8_cuts 78 = .ok (.if_icmp .ge 22, 3) := by decide +kernel
theorem dX8_cuts_81 : decode cX8_cuts 81 = .ok (.aload_n 0, 1) := by decide +kernel
theorem dX8_cuts_82 : decode cX8_cuts 82 = .ok (.getfield 41, 3) := by decide +kernel
theorem dX8_cuts_85 : decode cX8_cuts 85 = .ok (.iload 4, 2) := by decide +kernel
theorem dX8_cuts_87 : decode cX8_cuts 87 = .ok (.baload, 1) := by decide +kernel
theorem dX8_cuts_88 : decode cX8_cuts 88 = .ok (.invokestatic 174, 3) := by decide +kernel
theorem dX8_cuts_91 : decode cX8_cuts 91 = .ok (.ifCond .eq 9, 3) := by decide +kernel
theorem dX8_cuts_94 : decode cX8_cuts 94 = .ok (.iinc 4 1, 3) := by decide +kernel
theorem dX8_cuts_97 : decode cX8_cuts 97 = .ok (.goto (-22), 3) := by decide +kernel
theorem dX8_cuts_100 : decode cX8_cuts 100 = .ok (.aload_n 0, 1) := by decide +kernel
theorem dX8_cuts_101 : decode cX8_cuts 101 = .ok (.getfield 56, 3) := by decide +kernel
theorem dX8_cuts_104 : decode cX8_cuts 104 = .ok (.aload_n 0, 1) := by decide +kernel
theorem dX8_cuts_105 : decode cX8_cuts 105 = .ok (.getfield 168, 3) := by decide +kernel
theorem dX8_cuts_108 : decode cX8_cuts 108 = .ok (.iload_n 2, 1) := by decide +kernel
theorem dX8_cuts_109 : decode cX8_cuts 109 = .ok (.iastore, 1) := by decide +kernel
theorem dX8_cuts_110 : decode cX8_cuts 110 = .ok (.aload_n 0, 1) := by decide +kernel
theorem dX8_cuts_111 : decode cX8_cuts 111 = .ok (.getfield 53, 3) := by decide +kernel
theorem dX8_cuts_114 : decode cX8_cuts 114 = .ok (.aload_n 0, 1) := by decide +kernel
theorem dX8_cuts_115 : decode cX8_cuts 115 = .ok (.getfield 168, 3) := by decide +kernel
theorem dX8_cuts_118 : decode cX8_cuts 118 = .ok (.iconst 0, 1) := by decide +kernel
theorem dX8_cuts_119 : decode cX8_cuts 119 = .ok (.iastore, 1) := by decide +kernel
theorem dX8_cuts_120 : decode cX8_cuts 120 = .ok (.aload_n 0, 1) := by decide +kernel
theorem dX8_cuts_121 : decode cX8_cuts 121 = .ok (.getfield 50, 3) := by decide +kernel
theorem dX8_cuts_124 : decode cX8_cuts 124 = .ok (.aload_n 0, 1) := by decide +kernel
theorem dX8_cuts_125 : decode cX8_cuts 125 = .ok (.getfield 168, 3) := by decide +kernel
theorem dX8_cuts_128 : decode cX8_cuts 128 = .ok (.iload_n 3, 1) := by decide +kernel
theorem dX8_cuts_129 : decode cX8_cuts 129 = .ok (.invokestatic 171, 3) := by decide +kernel
theorem dX8_cuts_132 : decode cX8_cuts 132 = .ok (.ifCond .eq 13, 3) := by decide +kernel
theorem dX8_cuts_135 : decode cX8_cuts 135 = .ok (.aload_n 0, 1) := by decide +kernel
theorem dX8_cuts_136 : decode cX8_cuts 136 = .ok (.iload_n 2, 1) := by decide +kernel
theorem dX8_cuts_137 : decode cX8_cuts 137 = .ok (.iload 4, 2) := by decide +kernel
theorem dX8_cuts_139 : decode cX8_cuts 139 = .ok (.invokevirtual 177, 3) := by decide +kernel
theorem dX8_cuts_142 : decode cX8_cuts 142 = .ok (.goto 23, 3) := by decide +kernel
theorem dX8_cuts_145 : decode cX8_cuts 145 = .ok (.iload_n 3, 1) := by decide +kernel
theorem dX8_cuts_146 : decode cX8_cuts 146 = .ok (.invokestatic 174, 3) := by decide +kernel
theorem dX8_cuts_149 : decode cX8_cuts 149 = .ok (.ifCond .eq 8, 3) := by decide +kernel
theorem dX8_cuts_152 : decode cX8_cuts 152 = .ok (.bipush 50, 2) := by decide +kernel
theorem dX8_cuts_154 : decode cX8_cuts 154 = .ok (.goto 11, 3) := by decide +kernel
theorem dX8_cuts_157 : decode cX8_cuts 157 = .ok (.bipush 100, 2) := by decide +kernel
theorem dX8_cuts_159 : decode cX8_cuts 159 = .ok (.iload_n 3, 1) := by decide +kernel
theorem dX8_cuts_160 : decode cX8_cuts 160 = .ok (.sipush 255, 3) := by decide +kernel
theorem dX8_cuts_163 : decode cX8_cuts 163 = .ok (.iand, 1) := by decide +kernel
theorem dX8_cuts_164 : decode cX8_cuts 164 = .ok (.iadd, 1) := by decide +kernel
theorem dX8_cuts_165 : decode cX8_cuts 165 = .ok (.iastore, 1) := by decide +kernel
theorem dX8_cuts_166 : decode cX8_cuts 166 = .ok (.iload_n 2, 1) := by decide +kernel
theorem dX8_cuts_167 : decode cX8_cuts 167 = .ok (.istore 5, 2) := by decide +kernel
theorem dX8_cuts_169 : decode cX8_cuts 169 = .ok (.iload 5, 2) := by decide +kernel
theorem dX8_cuts_171 : decode cX8_cuts 171 = .ok (.iload 4, 2) := by decide +kernel
theorem dX8_cuts_173 : decode cX8_cuts 173 = .ok (.if_icmp .ge 74, 3) := by decide +kernel
theorem dX8_cuts_176 : decode cX8_cuts 176 = .ok (.iload_n 3, 1) := by decide +kernel
theorem dX8_cuts_177 : decode cX8_cuts 177 = .ok (.invokestatic 174, 3) := by decide +kernel
theorem dX8_cuts_180 : decode cX8_cuts 180 = .ok (.ifCond .eq 67, 3) := by decide +kernel
theorem dX8_cuts_183 : decode cX8_cuts 183 = .ok (.aload_n 0, 1) := by decide +kernel
theorem dX8_cuts_184 : decode cX8_cuts 184 = .ok (.getfield 53, 3) := by decide +kernel
theorem dX8_cuts_187 : decode cX8_cuts 187 = .ok (.aload_n 0, 1) := by decide +kernel
theorem dX8_cuts_188 : decode cX8_cuts 188 = .ok (.getfield 168, 3) := by decide +kernel
theorem dX8_cuts_191 : decode cX8_cuts 191 = .ok (.aload_n 0, 1) := by decide +kernel
theorem dX8_cuts_192 : decode cX8_cuts 192 = .ok (.getfield 53, 3) := by decide +kernel
theorem dX8_cuts_195 : decode cX8_cuts 195 = .ok (.aload_n 0, 1) := by decide +kernel
theorem dX8_cuts_196 : decode cX8_cuts 196 = .ok (.getfield 168, 3) := by decide +kernel
theorem dX8_cuts_199 : decode cX8_cuts 199 = .ok (.iaload, 1) := by decide +kernel
theorem dX8_cuts_200 : decode cX8_cuts 200 = .ok (.ldc 102, 2) := by decide +kernel
theorem dX8_cuts_202 : decode cX8_cuts 202 = .ok (.if_icmp .le 15, 3) := by decide +kernel
theorem dX8_cuts_205 : decode cX8_cuts 205 = .ok (.aload_n 0, 1) := by decide +kernel
theorem dX8_cuts_206 : decode cX8_cuts 206 = .ok (.getfield 53, 3) := by decide +kernel
theorem dX8_cuts_209 : decode cX8_cuts 209 = .ok (.aload_n 0, 1) := by decide +kernel
theorem dX8_cuts_210 : decode cX8_cuts 210 = .ok (.getfield 168, 3) := by decide +kernel
theorem dX8_cuts_213 : decode cX8_cuts 213 = .ok (.iaload, 1) := by decide +kernel
theorem dX8_cuts_214 : decode cX8_cuts 214 = .ok (.goto 26, 3) := by decide +kernel
theorem dX8_cuts_217 : decode cX8_cuts 217 = .ok (.bipush 10, 2) := by decide +kernel
theorem dX8_cuts_219 : decode cX8_cuts 219 = .ok (.aload_n 0, 1) := by decide +kernel
theorem dX8_cuts_220 : decode cX8_cuts 220 = .ok (.getfield 53, 3) := by decide +kernel
theorem dX8_cuts_223 : decode cX8_cuts 223 = .ok (.aload_n 0, 1) := by decide +kernel
theorem dX8_cuts_224 : decode cX8_cuts 224 = .ok (.getfield 168, 3) := by decide +kernel
theorem dX8_cuts_227 : decode cX8_cuts 227 = .ok (.iaload, 1) := by decide +kernel
theorem dX8_cuts_228 : decode cX8_cuts 228 = .ok (.imul, 1) := by decide +kernel
theorem dX8_cuts_229 : decode cX8_cuts 229 = .ok (.aload_n 0, 1) := by decide +kernel
theorem dX8_cuts_230 : decode cX8_cuts 230 = .ok (.getfield 41, 3) := by decide +kernel
theorem dX8_cuts_233 : decode cX8_cuts 233 = .ok (.iload 5, 2) := by decide +kernel
theorem dX8_cuts_235 : decode cX8_cuts 235 = .ok (.baload, 1) := by decide +kernel
theorem dX8_cuts_236 : decode cX8_cuts 236 = .ok (.iadd, 1) := by decide +kernel
theorem dX8_cuts_237 : decode cX8_cuts 237 = .ok (.bipush 48, 2) := by decide +kernel
theorem dX8_cuts_239 : decode cX8_cuts 239 = .ok (.isub, 1) := by decide +kernel
theorem dX8_cuts_240 : decode cX8_cuts 240 = .ok (.iastore, 1) := by decide +kernel
theorem dX8_cuts_241 : decode cX8_cuts 241 = .ok (.iinc 5 1, 3) := by decide +kernel
theorem dX8_cuts_244 : decode cX8_cuts 244 = .ok (.goto (-75), 3) := by decide +kernel
theorem dX8_cuts_247 : decode cX8_cuts 247 = .ok (.aload_n 0, 1) := by decide +kernel
theorem dX8_cuts_248 : decode cX8_cuts 248 = .ok (.dup, 1) := by decide +kernel
theorem dX8_cuts_249 : decode cX8_cuts 249 = .ok (.getfield 168, 3) := by decide +kernel
theorem dX8_cuts_252 : decode cX8_cuts 252 = .ok (.iconst 1, 1) := by decide +kernel
theorem dX8_cuts_253 : decode cX8_cuts 253 = .ok (.iadd, 1) := by decide +kernel
theorem dX8_cuts_254 : decode cX8_cuts 254 = .ok (.putfield 168, 3) := by decide +kernel
theorem dX8_cuts_257 : decode cX8_cuts 257 = .ok (.iload 4, 2) := by decide +kernel
theorem dX8_cuts_259 : decode cX8_cuts 259 = .ok (.istore_n 2, 1) := by decide +kernel
theorem dX8_cuts_260 : decode cX8_cuts 260 = .ok (.goto (-253), 3) := by decide +kernel
theorem dX8_cuts_263 : decode cX8_cuts 263 = .ok (.aload_n 0, 1) := by decide +kernel
theorem dX8_cuts_264 : decode cX8_cuts 264 = .ok (.getfield 56, 3) := by decide +kernel
theorem dX8_cuts_267 : decode cX8_cuts 267 = .ok (.aload_n 0, 1) := by decide +kernel
theorem dX8_cuts_268 : decode cX8_cuts 268 = .ok (.getfield 168, 3) := by decide +kernel
theorem dX8_cuts_271 : decode cX8_cuts 271 = .ok (.iload_n 1, 1) := by decide +kernel
theorem dX8_cuts_272 : decode cX8_cuts 272 = .ok (.iastore, 1) := by decide +kernel
theorem dX8_cuts_273 : decode cX8_cuts 273 = .ok (.aload_n 0, 1) := by decide +kernel
theorem dX8_cuts_274 : decode cX8_cuts 274 = .ok (.getfield 50, 3) := by decide +kernel
theorem dX8_cuts_277 : decode cX8_cuts 277 = .ok (.aload_n 0, 1) := by decide +kernel
theorem dX8_cuts_278 : decode cX8_cuts 278 = .ok (.getfield 168, 3) := by decide +kernel
theorem dX8_cuts_281 : decode cX8_cuts 281 = .ok (.iconst 0, 1) := by decide +kernel
theorem dX8_cuts_282 : decode cX8_cuts 282 = .ok (.iastore, 1) := by decide +kernel
theorem dX8_cuts_283 : decode cX8_cuts 283 = .ok (.aload_n 0, 1) := by decide +kernel
theorem dX8_cuts_284 : decode cX8_cuts 284 = .ok (.getfield 53, 3) := by decide +kernel
theorem dX8_cuts_287 : decode cX8_cuts 287 = .ok (.aload_n 0, 1) := by decide +kernel
theorem dX8_cuts_288 : decode cX8_cuts 288 = .ok (.getfield 168, 3) := by decide +kernel
theorem dX8_cuts_291 : decode cX8_cuts 291 = .ok (.iconst 0, 1) := by decide +kernel
theorem dX8_cuts_292 : decode cX8_cuts 292 = .ok (.iastore, 1) := by decide +kernel
theorem dX8_cuts_293 : decode cX8_cuts 293 = .ok (.return_, 1) := by decide +kernel
theorem dX8_fine_0 : decode cX8_fine 0 = .ok (.aload_n 0, 1) := by decide +kernel
theorem dX8_fine_1 : decode cX8_fine 1 = .ok (.getfield 180, 3) := by decide +kernel
theorem dX8_fine_4 : decode cX8_fine 4 = .ok (.iconst (-1), 1) := by decide +kernel
theorem dX8_fine_5 : decode cX8_fine 5 = .ok (.if_icmp .ne 7, 3) := by decide +kernel
theorem dX8_fine_8 : decode cX8_fine 8 = .ok (.iconst 1, 1) := by decide +kernel
theorem dX8_fine_9 : decode cX8_fine 9 = .ok (.goto 4, 3) := by decide +kernel
theorem dX8_fine_12 : decode cX8_fine 12 = .ok (.iconst 0, 1) := by decide +kernel
theorem dX8_fine_13 : decode cX8_fine 13 = .ok (.ireturn, 1) := by decide +kernel
theorem dX8_faults_0 : decode cX8_faults 0 = .ok (.aload_n 0, 1) := by decide +kernel
theorem dX8_faults_1 : decode cX8_faults 1 = .ok (.invokevirtual 183, 3) := by decide +kernel
theorem dX8_faults_4 : decode cX8_faults 4 = .ok (.ifCond .eq 16, 3) := by decide +kernel
theorem dX8_faults_7 : decode cX8_faults 7 = .ok (.aload_n 0, 1) := by decide +kernel
theorem dX8_faults_8 : decode cX8_faults 8 = .ok (.aload_n 0, 1) := by decide +kernel
theorem dX8_faults_9 : decode cX8_faults 9 = .ok (.getfield 56, 3) := by decide +kernel
theorem dX8_faults_12 : decode cX8_faults 12 = .ok (.aload_n 0, 1) := by decide +kernel
theorem dX8_faults_13 : decode cX8_faults 13 = .ok (.getfield 187, 3) := by decide +kernel
theorem dX8_faults_16 : decode cX8_faults 16 = .ok (.iaload, 1) := by decide +kernel
theorem dX8_faults_17 : decode cX8_faults 17 = .ok (.putfield 180, 3) := by decide +kernel
theorem dX8_faults_20 : decode cX8_faults 20 = .ok (.return_, 1) := by decide +kernel
theorem dX8_takes_0 : decode cX8_takes 0 = .ok (.aload_n 0, 1) := by decide +kernel
theorem dX8_takes_1 : decode cX8_takes 1 = .ok (.invokevirtual 183, 3) := by decide +kernel
theorem dX8_takes_4 : decode cX8_takes 4 = .ok (.ifCond .eq 20, 3) := by decide +kernel
theorem dX8_takes_7 : decode cX8_takes 7 = .ok (.aload_n 0, 1) := by decide +kernel
theorem dX8_takes_8 : decode cX8_takes 8 = .ok (.getfield 50, 3) := by decide +kernel
theorem dX8_takes_11 : decode cX8_takes 11 = .ok (.aload_n 0, 1) := by decide +kernel
theorem dX8_takes_12 : decode cX8_takes 12 = .ok (.getfield 187, 3) := by decide +kernel
theorem dX8_takes_15 : decode cX8_takes 15 = .ok (.iaload, 1) := by decide +kernel
theorem dX8_takes_16 : decode cX8_takes 16 = .ok (.iload_n 1, 1) := by decide +kernel
theorem dX8_takes_17 : decode cX8_takes 17 = .ok (.if_icmp .ne 7, 3) := by decide +kernel
theorem dX8_takes_20 : decode cX8_takes 20 = .ok (.iconst 1, 1) := by decide +kernel
theorem dX8_takes_21 : decode cX8_takes 21 = .ok (.goto 4, 3) := by decide +kernel
theorem dX8_takes_24 : decode cX8_takes 24 = .ok (.iconst 0, 1) := by decide +kernel
theorem dX8_takes_25 : decode cX8_takes 25 = .ok (.istore_n 2, 1) := by decide +kernel
theorem dX8_takes_26 : decode cX8_takes 26 = .ok (.iload_n 2, 1) := by decide +kernel
theorem dX8_takes_27 : decode cX8_takes 27 = .ok (.ifCond .eq 13, 3) := by decide +kernel
theorem dX8_takes_30 : decode cX8_takes 30 = .ok (.aload_n 0, 1) := by decide +kernel
theorem dX8_takes_31 : decode cX8_takes 31 = .ok (.dup, 1) := by decide +kernel
theorem dX8_takes_32 : decode cX8_takes 32 = .ok (.getfield 187, 3) := by decide +kernel
theorem dX8_takes_35 : decode cX8_takes 35 = .ok (.iconst 1, 1) := by decide +kernel
theorem dX8_takes_36 : decode cX8_takes 36 = .ok (.iadd, 1) := by decide +kernel
theorem dX8_takes_37 : decode cX8_takes 37 = .ok (.putfield 187, 3) := by decide +kernel
theorem dX8_takes_40 : decode cX8_takes 40 = .ok (.iload_n 2, 1) := by decide +kernel
theorem dX8_takes_41 : decode cX8_takes 41 = .ok (.ireturn, 1) := by decide +kernel
theorem dX8_must_0 : decode cX8_must 0 = .ok (.aload_n 0, 1) := by decide +kernel
theorem dX8_must_1 : decode cX8_must 1 = .ok (.iload_n 1, 1) := by decide +kernel
theorem dX8_must_2 : decode cX8_must 2 = .ok (.invokevirtual 190, 3) := by decide +kernel
theorem dX8_must_5 : decode cX8_must 5 = .ok (.ifCond .ne 7, 3) := by decide +kernel
theorem dX8_must_8 : decode cX8_must 8 = .ok (.aload_n 0, 1) := by decide +kernel
theorem dX8_must_9 : decode cX8_must 9 = .ok (.invokevirtual 193, 3) := by decide +kernel
theorem dX8_must_12 : decode cX8_must 12 = .ok (.return_, 1) := by decide +kernel
theorem dX8_leaf_0 : decode cX8_leaf 0 = .ok (.aload_n 0, 1) := by decide +kernel
theorem dX8_leaf_1 : decode cX8_leaf 1 = .ok (.getfield 196, 3) := by decide +kernel
theorem dX8_leaf_4 : decode cX8_leaf 4 = .ok (.bipush 50, 2) := by decide +kernel
theorem dX8_leaf_6 : decode cX8_leaf 6 = .ok (.if_icmp .ne 7, 3) := by decide +kernel
theorem dX8_leaf_9 : decode cX8_leaf 9 = .ok (.aload_n 0, 1) := by decide +kernel
theorem dX8_leaf_10 : decode cX8_leaf 10 = .ok (.invokevirtual 193, 3) := by decide +kernel
theorem dX8_leaf_13 : decode cX8_leaf 13 = .ok (.aload_n 0, 1) := by decide +kernel
theorem dX8_leaf_14 : decode cX8_leaf 14 = .ok (.dup, 1) := by decide +kernel
theorem dX8_leaf_15 : decode cX8_leaf 15 = .ok (.getfield 196, 3) := by decide +kernel
theorem dX8_leaf_18 : decode cX8_leaf 18 = .ok (.iconst 1, 1) := by decide +kernel
theorem dX8_leaf_19 : decode cX8_leaf 19 = .ok (.iadd, 1) := by decide +kernel
theorem dX8_leaf_20 : decode cX8_leaf 20 = .ok (.putfield 196, 3) := by decide +kernel
theorem dX8_leaf_23 : decode cX8_leaf 23 = .ok (.aload_n 0, 1) := by decide +kernel
theorem dX8_leaf_24 : decode cX8_leaf 24 = .ok (.invokevirtual 183, 3) := by decide +kernel
theorem dX8_leaf_27 : decode cX8_leaf 27 = .ok (.ifCond .eq 13, 3) := by decide +kernel
theorem dX8_leaf_30 : decode cX8_leaf 30 = .ok (.aload_n 0, 1) := by decide +kernel
theorem dX8_leaf_31 : decode cX8_leaf 31 = .ok (.dup, 1) := by decide +kernel
theorem dX8_leaf_32 : decode cX8_leaf 32 = .ok (.getfield 187, 3) := by decide +kernel
theorem dX8_leaf_35 : decode cX8_leaf 35 = .ok (.iconst 1, 1) := by decide +kernel
theorem dX8_leaf_36 : decode cX8_leaf 36 = .ok (.iadd, 1) := by decide +kernel
theorem dX8_leaf_37 : decode cX8_leaf 37 = .ok (.putfield 187, 3) := by decide +kernel
theorem dX8_leaf_40 : decode cX8_leaf 40 = .ok (.return_, 1) := by decide +kernel
theorem dX8_sign_0 : decode cX8_sign 0 = .ok (.bipush 100, 2) := by decide +kernel
theorem dX8_sign_2 : decode cX8_sign 2 = .ok (.iload_n 0, 1) := by decide +kernel
theorem dX8_sign_3 : decode cX8_sign 3 = .ok (.iadd, 1) := by decide +kernel
theorem dX8_sign_4 : decode cX8_sign 4 = .ok (.ireturn, 1) := by decide +kernel
theorem dX8_readClause_0 : decode cX8_readClause 0 = .ok (.aload_n 0, 1) := by decide +kernel
theorem dX8_readClause_1 : decode cX8_readClause 1 = .ok (.iconst 1, 1) := by decide +kernel
theorem dX8_readClause_2 : decode cX8_readClause 2 = .ok (.invokevirtual 190, 3) := by decide +kernel
theorem dX8_readClause_5 : decode cX8_readClause 5 = .ok (.ifCond .ne 11, 3) := by decide +kernel
theorem dX8_readClause_8 : decode cX8_readClause 8 = .ok (.aload_n 0, 1) := by decide +kernel
theorem dX8_readClause_9 : decode cX8_readClause 9 = .ok (.iconst 2, 1) := by decide +kernel
theorem dX8_readClause_10 : decode cX8_readClause 10 = .ok (.invokevirtual 190, 3) := by decide +kernel
theorem dX8_readClause_13 : decode cX8_readClause 13 = .ok (.ifCond .eq 11, 3) := by decide +kernel
theorem dX8_readClause_16 : decode cX8_readClause 16 = .ok (.aload_n 0, 1) := by decide +kernel
theorem dX8_readClause_17 : decode cX8_readClause 17 = .ok (.iconst 0, 1) := by decide +kernel
theorem dX8_readClause_18 : decode cX8_readClause 18 = .ok (.invokevirtual 199, 3) := by decide +kernel
theorem dX8_readClause_21 : decode cX8_readClause 21 = .ok (.goto 8, 3) := by decide +kernel
theorem dX8_readClause_24 : decode cX8_readClause 24 = .ok (.aload_n 0, 1) := by decide +kernel
theorem dX8_readClause_25 : decode cX8_readClause 25 = .ok (.iconst 3, 1) := by decide +kernel
theorem dX8_readClause_26 : decode cX8_readClause 26 = .ok (.invokevirtual 203, 3) := by decide +kernel
theorem dX8_readClause_29 : decode cX8_readClause 29 = .ok (.aload_n 0, 1) := by decide +kernel
theorem dX8_readClause_30 : decode cX8_readClause 30 = .ok (.iconst 4, 1) := by decide +kernel
theorem dX8_readClause_31 : decode cX8_readClause 31 = .ok (.invokevirtual 190, 3) := by decide +kernel
theorem dX8_readClause_34 : decode cX8_readClause 34 = .ok (.ifCond .eq 8, 3) := by decide +kernel
theorem dX8_readClause_37 : decode cX8_readClause 37 = .ok (.aload_n 0, 1) := by decide +kernel
theorem dX8_readClause_38 : decode cX8_readClause 38 = .ok (.iconst 0, 1) := by decide +kernel
theorem dX8_readClause_39 : decode cX8_readClause 39 = .ok (.invokevirtual 206, 3) := by decide +kernel
theorem dX8_readClause_42 : decode cX8_readClause 42 = .ok (.return_, 1) := by decide +kernel
theorem dX8_readTest_0 : decode cX8_readTest 0 = .ok (.aload_n 0, 1) := by decide +kernel
theorem dX8_readTest_1 : decode cX8_readTest 1 = .ok (.iload_n 1, 1) := by decide +kernel
theorem dX8_readTest_2 : decode cX8_readTest 2 = .ok (.invokevirtual 209, 3) := by decide +kernel
theorem dX8_readTest_5 : decode cX8_readTest 5 = .ok (.aload_n 0, 1) := by decide +kernel
theorem dX8_readTest_6 : decode cX8_readTest 6 = .ok (.iconst 5, 1) := by decide +kernel
theorem dX8_readTest_7 : decode cX8_readTest 7 = .ok (.invokevirtual 190, 3) := by decide +kernel
theorem dX8_readTest_10 : decode cX8_readTest 10 = .ok (.ifCond .eq 11, 3) := by decide +kernel
theorem dX8_readTest_13 : decode cX8_readTest 13 = .ok (.aload_n 0, 1) := by decide +kernel
theorem dX8_readTest_14 : decode cX8_readTest 14 = .ok (.iload_n 1, 1) := by decide +kernel
theorem dX8_readTest_15 : decode cX8_readTest 15 = .ok (.invokevirtual 209, 3) := by decide +kernel
theorem dX8_readTest_18 : decode cX8_readTest 18 = .ok (.goto (-13), 3) := by decide +kernel
theorem dX8_readTest_21 : decode cX8_readTest 21 = .ok (.return_, 1) := by decide +kernel
theorem dX8_readBoth_0 : decode cX8_readBoth 0 = .ok (.aload_n 0, 1) := by decide +kernel
theorem dX8_readBoth_1 : decode cX8_readBoth 1 = .ok (.iload_n 1, 1) := by decide +kernel
theorem dX8_readBoth_2 : decode cX8_readBoth 2 = .ok (.invokevirtual 212, 3) := by decide +kernel
theorem dX8_readBoth_5 : decode cX8_readBoth 5 = .ok (.aload_n 0, 1) := by decide +kernel
theorem dX8_readBoth_6 : decode cX8_readBoth 6 = .ok (.bipush 6, 2) := by decide +kernel
theorem dX8_readBoth_8 : decode cX8_readBoth 8 = .ok (.invokevirtual 190, 3) := by decide +kernel
theorem dX8_readBoth_11 : decode cX8_readBoth 11 = .ok (.ifCond .eq 11, 3) := by decide +kernel
theorem dX8_readBoth_14 : decode cX8_readBoth 14 = .ok (.aload_n 0, 1) := by decide +kernel
theorem dX8_readBoth_15 : decode cX8_readBoth 15 = .ok (.iload_n 1, 1) := by decide +kernel
theorem dX8_readBoth_16 : decode cX8_readBoth 16 = .ok (.invokevirtual 212, 3) := by decide +kernel
theorem dX8_readBoth_19 : decode cX8_readBoth 19 = .ok (.goto (-14), 3) := by decide +kernel
theorem dX8_readBoth_22 : decode cX8_readBoth 22 = .ok (.return_, 1) := by decide +kernel
theorem dX8_readPlain_0 : decode cX8_readPlain 0 = .ok (.iconst 1, 1) := by decide +kernel
theorem dX8_readPlain_1 : decode cX8_readPlain 1 = .ok (.istore_n 2, 1) := by decide +kernel
theorem dX8_readPlain_2 : decode cX8_readPlain 2 = .ok (.iload_n 2, 1) := by decide +kernel
theorem dX8_readPlain_3 : decode cX8_readPlain 3 = .ok (.ifCond .eq 13, 3) := by decide +kernel
theorem dX8_readPlain_6 : decode cX8_readPlain 6 = .ok (.aload_n 0, 1) := by decide +kernel
theorem dX8_readPlain_7 : decode cX8_readPlain 7 = .ok (.bipush 7, 2) := by decide +kernel
theorem dX8_readPlain_9 : decode cX8_readPlain 9 = .ok (.invokevirtual 190, 3) := by decide +kernel
theorem dX8_readPlain_12 : decode cX8_readPlain 12 = .ok (.istore_n 2, 1) := by decide +kernel
theorem dX8_readPlain_13 : decode cX8_readPlain 13 = .ok (.goto (-11), 3) := by decide +kernel
theorem dX8_readPlain_16 : decode cX8_readPlain 16 = .ok (.aload_n 0, 1) := by decide +kernel
theorem dX8_readPlain_17 : decode cX8_readPlain 17 = .ok (.invokevirtual 183, 3) := by decide +kernel
theorem dX8_readPlain_20 : decode cX8_readPlain 20 = .ok (.ifCond .ne 4, 3) := by decide +kernel
theorem dX8_readPlain_23 : decode cX8_readPlain 23 = .ok (.return_, 1) := by decide +kernel
theorem dX8_readPlain_24 : decode cX8_readPlain 24 = .ok (.aload_n 0, 1) := by decide +kernel
theorem dX8_readPlain_25 : decode cX8_readPlain 25 = .ok (.getfield 50, 3) := by decide +kernel
theorem dX8_readPlain_28 : decode cX8_readPlain 28 = .ok (.aload_n 0, 1) := by decide +kernel
theorem dX8_readPlain_29 : decode cX8_readPlain 29 = .ok (.getfield 187, 3) := by decide +kernel
theorem dX8_readPlain_32 : decode cX8_readPlain 32 = .ok (.iaload, 1) := by decide +kernel
theorem dX8_readPlain_33 : decode cX8_readPlain 33 = .ok (.istore_n 3, 1) := by decide +kernel
theorem dX8_readPlain_34 : decode cX8_readPlain 34 = .ok (.iload_n 3, 1) := by decide +kernel
theorem dX8_readPlain_35 : decode cX8_readPlain 35 = .ok (.bipush 40, 2) := by decide +kernel
theorem dX8_readPlain_37 : decode cX8_readPlain 37 = .ok (.invokestatic 215, 3) := by decide +kernel
theorem dX8_readPlain_40 : decode cX8_readPlain 40 = .ok (.if_icmp .ne 50, 3) := by decide +kernel
theorem dX8_readPlain_43 : decode cX8_readPlain 43 = .ok (.iload_n 1, 1) := by decide +kernel
theorem dX8_readPlain_44 : decode cX8_readPlain 44 = .ok (.bipush 8, 2) := by decide +kernel
theorem dX8_readPlain_46 : decode cX8_readPlain 46 = .ok (.if_icmp .ne 7, 3) := by decide +kernel
theorem dX8_readPlain_49 : decode cX8_readPlain 49 = .ok (.aload_n 0, 1) := by decide +kernel
theorem dX8_readPlain_50 : decode cX8_readPlain 50 = .ok (.invokevirtual 193, 3) := by decide +kernel
theorem dX8_readPlain_53 : decode cX8_readPlain 53 = .ok (.aload_n 0, 1) := by decide +kernel
theorem dX8_readPlain_54 : decode cX8_readPlain 54 = .ok (.invokevirtual 183, 3) := by decide +kernel
theorem dX8_readPlain_57 : decode cX8_readPlain 57 = .ok (.ifCond .ne 4, 3) := by decide +kernel
theorem dX8_readPlain_60 : decode cX8_readPlain 60 = .ok (.return_, 1) := by decide +kernel
theorem dX8_readPlain_61 : decode cX8_readPlain 61 = .ok (.aload_n 0, 1) := by decide +kernel
theorem dX8_readPlain_62 : decode cX8_readPlain 62 = .ok (.dup, 1) := by decide +kernel
theorem dX8_readPlain_63 : decode cX8_readPlain 63 = .ok (.getfield 187, 3) := by decide +kernel
theorem dX8_readPlain_66 : decode cX8_readPlain 66 = .ok (.iconst 1, 1) := by decide +kernel
theorem dX8_readPlain_67 : decode cX8_readPlain 67 = .ok (.iadd, 1) := by decide +kernel
theorem dX8_readPlain_68 : decode cX8_readPlain 68 = .ok (.putfield 187, 3) := by decide +kernel
theorem dX8_readPlain_71 : decode cX8_readPlain 71 = .ok (.aload_n 0, 1) := by decide +kernel
theorem dX8_readPlain_72 : decode cX8_readPlain 72 = .ok (.iload_n 1, 1) := by decide +kernel
theorem dX8_readPlain_73 : decode cX8_readPlain 73 = .ok (.iconst 1, 1) := by decide +kernel
theorem dX8_readPlain_74 : decode cX8_readPlain 74 = .ok (.iadd, 1) := by decide +kernel
theorem dX8_readPlain_75 : decode cX8_readPlain 75 = .ok (.invokevirtual 206, 3) := by decide +kernel
theorem dX8_readPlain_78 : decode cX8_readPlain 78 = .ok (.aload_n 0, 1) := by decide +kernel
theorem dX8_readPlain_79 : decode cX8_readPlain 79 = .ok (.bipush 41, 2) := by decide +kernel
theorem dX8_readPlain_81 : decode cX8_readPlain 81 = .ok (.invokestatic 215, 3) := by decide +kernel
theorem dX8_readPlain_84 : decode cX8_readPlain 84 = .ok (.invokevirtual 203, 3) := by decide +kernel
theorem dX8_readPlain_87 : decode cX8_readPlain 87 = .ok (.goto 65, 3) := by decide +kernel
theorem dX8_readPlain_90 : decode cX8_readPlain 90 = .ok (.iload_n 3, 1) := by decide +kernel
theorem dX8_readPlain_91 : decode cX8_readPlain 91 = .ok (.bipush 8, 2) := by decide +kernel
theorem dX8_readPlain_93 : decode cX8_readPlain 93 = .ok (.if_icmp .lt 16, 3) := by decide +kernel
theorem dX8_readPlain_96 : decode cX8_readPlain 96 = .ok (.iload_n 3, 1) := by decide +kernel
theorem dX8_readPlain_97 : decode cX8_readPlain 97 = .ok (.bipush 11, 2) := by decide +kernel
theorem dX8_readPlain_99 : decode cX8_readPlain 99 = .ok (.if_icmp .gt 10, 3) := by decide +kernel
theorem dX8_readPlain_102 : decode cX8_readPlain 102 = .ok (.aload_n 0, 1) := by decide +kernel
theorem dX8_readPlain_103 : decode cX8_readPlain 103 = .ok (.invokevirtual 219, 3) := by decide +kernel
theorem dX8_readPlain_106 : decode cX8_readPlain 106 = .ok (.goto 46, 3) := by decide +kernel
theorem dX8_readPlain_109 : decode cX8_readPlain 109 = .ok (.aload_n 0, 1) := by decide +kernel
theorem dX8_readPlain_110 : decode cX8_readPlain 110 = .ok (.iload_n 1, 1) := by decide +kernel
theorem dX8_readPlain_111 : decode cX8_readPlain 111 = .ok (.invokevirtual 199, 3) := by decide +kernel
theorem dX8_readPlain_114 : decode cX8_readPlain 114 = .ok (.aload_n 0, 1) := by decide +kernel
theorem dX8_readPlain_115 : decode cX8_readPlain 115 = .ok (.bipush 60, 2) := by decide +kernel
theorem dX8_readPlain_117 : decode cX8_readPlain 117 = .ok (.invokestatic 215, 3) := by decide +kernel
theorem dX8_readPlain_120 : decode cX8_readPlain 120 = .ok (.invokevirtual 190, 3) := by decide +kernel
theorem dX8_readPlain_123 : decode cX8_readPlain 123 = .ok (.ifCond .ne 24, 3) := by decide +kernel
theorem dX8_readPlain_126 : decode cX8_readPlain 126 = .ok (.aload_n 0, 1) := by decide +kernel
theorem dX8_readPlain_127 : decode cX8_readPlain 127 = .ok (.bipush 62, 2) := by decide +kernel
theorem dX8_readPlain_129 : decode cX8_readPlain 129 = .ok (.invokestatic 215, 3) := by decide +kernel
theorem dX8_readPlain_132 : decode cX8_readPlain 132 = .ok (.invokevirtual 190, 3) := by decide +kernel
theorem dX8_readPlain_135 : decode cX8_readPlain 135 = .ok (.ifCond .ne 12, 3) := by decide +kernel
theorem dX8_readPlain_138 : decode cX8_readPlain 138 = .ok (.aload_n 0, 1) := by decide +kernel
theorem dX8_readPlain_139 : decode cX8_readPlain 139 = .ok (.bipush 61, 2) := by decide +kernel
theorem dX8_readPlain_141 : decode cX8_readPlain 141 = .ok (.invokestatic 215, 3) := by decide +kernel
theorem dX8_readPlain_144 : decode cX8_readPlain 144 = .ok (.invokevirtual 203, 3) := by decide +kernel
theorem dX8_readPlain_147 : decode cX8_readPlain 147 = .ok (.aload_n 0, 1) := by decide +kernel
theorem dX8_readPlain_148 : decode cX8_readPlain 148 = .ok (.iload_n 1, 1) := by decide +kernel
theorem dX8_readPlain_149 : decode cX8_readPlain 149 = .ok (.invokevirtual 199, 3) := by decide +kernel
theorem dX8_readPlain_152 : decode cX8_readPlain 152 = .ok (.return_, 1) := by decide +kernel
theorem dX8_readSum_0 : decode cX8_readSum 0 = .ok (.aload_n 0, 1) := by decide +kernel
theorem dX8_readSum_1 : decode cX8_readSum 1 = .ok (.iload_n 1, 1) := by decide +kernel
theorem dX8_readSum_2 : decode cX8_readSum 2 = .ok (.invokevirtual 222, 3) := by decide +kernel
theorem dX8_readSum_5 : decode cX8_readSum 5 = .ok (.aload_n 0, 1) := by decide +kernel
theorem dX8_readSum_6 : decode cX8_readSum 6 = .ok (.bipush 43, 2) := by decide +kernel
theorem dX8_readSum_8 : decode cX8_readSum 8 = .ok (.invokestatic 215, 3) := by decide +kernel
theorem dX8_readSum_11 : decode cX8_readSum 11 = .ok (.invokevirtual 190, 3) := by decide +kernel
theorem dX8_readSum_14 : decode cX8_readSum 14 = .ok (.ifCond .ne 15, 3) := by decide +kernel
theorem dX8_readSum_17 : decode cX8_readSum 17 = .ok (.aload_n 0, 1) := by decide +kernel
theorem dX8_readSum_18 : decode cX8_readSum 18 = .ok (.bipush 45, 2) := by decide +kernel
theorem dX8_readSum_20 : decode cX8_readSum 20 = .ok (.invokestatic 215, 3) := by decide +kernel
theorem dX8_readSum_23 : decode cX8_readSum 23 = .ok (.invokevirtual 190, 3) := by decide +kernel
theorem dX8_readSum_26 : decode cX8_readSum 26 = .ok (.ifCond .eq 11, 3) := by decide +kernel
theorem dX8_readSum_29 : decode cX8_readSum 29 = .ok (.aload_n 0, 1) := by decide +kernel
theorem dX8_readSum_30 : decode cX8_readSum 30 = .ok (.iload_n 1, 1) := by decide +kernel
theorem dX8_readSum_31 : decode cX8_readSum 31 = .ok (.invokevirtual 222, 3) := by decide +kernel
theorem dX8_readSum_34 : decode cX8_readSum 34 = .ok (.goto (-29), 3) := by decide +kernel
theorem dX8_readSum_37 : decode cX8_readSum 37 = .ok (.return_, 1) := by decide +kernel
theorem dX8_readTerm_0 : decode cX8_readTerm 0 = .ok (.aload_n 0, 1) := by decide +kernel
theorem dX8_readTerm_1 : decode cX8_readTerm 1 = .ok (.iload_n 1, 1) := by decide +kernel
theorem dX8_readTerm_2 : decode cX8_readTerm 2 = .ok (.invokevirtual 225, 3) := by decide +kernel
theorem dX8_readTerm_5 : decode cX8_readTerm 5 = .ok (.aload_n 0, 1) := by decide +kernel
theorem dX8_readTerm_6 : decode cX8_readTerm 6 = .ok (.bipush 42, 2) := by decide +kernel
theorem dX8_readTerm_8 : decode cX8_readTerm 8 = .ok (.invokestatic 215, 3) := by decide +kernel
theorem dX8_readTerm_11 : decode cX8_readTerm 11 = .ok (.invokevirtual 190, 3) := by decide +kernel
theorem dX8_readTerm_14 : decode cX8_readTerm 14 = .ok (.ifCond .ne 15, 3) := by decide +kernel
theorem dX8_readTerm_17 : decode cX8_readTerm 17 = .ok (.aload_n 0, 1) := by decide +kernel
theorem dX8_readTerm_18 : decode cX8_readTerm 18 = .ok (.bipush 47, 2) := by decide +kernel
theorem dX8_readTerm_20 : decode cX8_readTerm 20 = .ok (.invokestatic 215, 3) := by decide +kernel
theorem dX8_readTerm_23 : decode cX8_readTerm 23 = .ok (.invokevirtual 190, 3) := by decide +kernel
theorem dX8_readTerm_26 : decode cX8_readTerm 26 = .ok (.ifCond .eq 11, 3) := by decide +kernel
theorem dX8_readTerm_29 : decode cX8_readTerm 29 = .ok (.aload_n 0, 1) := by decide +kernel
theorem dX8_readTerm_30 : decode cX8_readTerm 30 = .ok (.iload_n 1, 1) := by decide +kernel
theorem dX8_readTerm_31 : decode cX8_readTerm 31 = .ok (.invokevirtual 225, 3) := by decide +kernel
theorem dX8_readTerm_34 : decode cX8_readTerm 34 = .ok (.goto (-29), 3) := by decide +kernel
theorem dX8_readTerm_37 : decode cX8_readTerm 37 = .ok (.return_, 1) := by decide +kernel
theorem dX8_readPart_0 : decode cX8_readPart 0 = .ok (.aload_n 0, 1) := by decide +kernel
theorem dX8_readPart_1 : decode cX8_readPart 1 = .ok (.invokevirtual 183, 3) := by decide +kernel
theorem dX8_readPart_4 : decode cX8_readPart 4 = .ok (.ifCond .ne 4, 3) := by decide +kernel
theorem dX8_readPart_7 : decode cX8_readPart 7 = .ok (.return_, 1) := by decide +kernel
theorem dX8_readPart_8 : decode cX8_readPart 8 = .ok (.aload_n 0, 1) := by decide +kernel
theorem dX8_readPart_9 : decode cX8_readPart 9 = .ok (.getfield 50, 3) := by decide +kernel
theorem dX8_readPart_12 : decode cX8_readPart 12 = .ok (.aload_n 0, 1) := by decide +kernel
theorem dX8_readPart_13 : decode cX8_readPart 13 = .ok (.getfield 187, 3) := by decide +kernel
theorem dX8_readPart_16 : decode cX8_readPart 16 = .ok (.iaload, 1) := by decide +kernel
theorem dX8_readPart_17 : decode cX8_readPart 17 = .ok (.istore_n 2, 1) := by decide +kernel
theorem dX8_readPart_18 : decode cX8_readPart 18 = .ok (.iload_n 2, 1) := by decide +kernel
theorem dX8_readPart_19 : decode cX8_readPart 19 = .ok (.bipush 91, 2) := by decide +kernel
theorem dX8_readPart_21 : decode cX8_readPart 21 = .ok (.invokestatic 215, 3) := by decide +kernel
theorem dX8_readPart_24 : decode cX8_readPart 24 = .ok (.if_icmp .ne 50, 3) := by decide +kernel
theorem dX8_readPart_27 : decode cX8_readPart 27 = .ok (.iload_n 1, 1) := by decide +kernel
theorem dX8_readPart_28 : decode cX8_readPart 28 = .ok (.bipush 8, 2) := by decide +kernel
theorem dX8_readPart_30 : decode cX8_readPart 30 = .ok (.if_icmp .ne 7, 3) := by decide +kernel
theorem dX8_readPart_33 : decode cX8_readPart 33 = .ok (.aload_n 0, 1) := by decide +kernel
theorem dX8_readPart_34 : decode cX8_readPart 34 = .ok (.invokevirtual 193, 3) := by decide +kernel
theorem dX8_readPart_37 : decode cX8_readPart 37 = .ok (.aload_n 0, 1) := by decide +kernel
theorem dX8_readPart_38 : decode cX8_readPart 38 = .ok (.invokevirtual 183, 3) := by decide +kernel
theorem dX8_readPart_41 : decode cX8_readPart 41 = .ok (.ifCond .ne 4, 3) := by decide +kernel
theorem dX8_readPart_44 : decode cX8_readPart 44 = .ok (.return_, 1) := by decide +kernel
theorem dX8_readPart_45 : decode cX8_readPart 45 = .ok (.aload_n 0, 1) := by decide +kernel
theorem dX8_readPart_46 : decode cX8_readPart 46 = .ok (.dup, 1) := by decide +kernel
theorem dX8_readPart_47 : decode cX8_readPart 47 = .ok (.getfield 187, 3) := by decide +kernel
theorem dX8_readPart_50 : decode cX8_readPart 50 = .ok (.iconst 1, 1) := by decide +kernel
theorem dX8_readPart_51 : decode cX8_readPart 51 = .ok (.iadd, 1) := by decide +kernel
theorem dX8_readPart_52 : decode cX8_readPart 52 = .ok (.putfield 187, 3) := by decide +kernel
theorem dX8_readPart_55 : decode cX8_readPart 55 = .ok (.aload_n 0, 1) := by decide +kernel
theorem dX8_readPart_56 : decode cX8_readPart 56 = .ok (.iload_n 1, 1) := by decide +kernel
theorem dX8_readPart_57 : decode cX8_readPart 57 = .ok (.iconst 1, 1) := by decide +kernel
theorem dX8_readPart_58 : decode cX8_readPart 58 = .ok (.iadd, 1) := by decide +kernel
theorem dX8_readPart_59 : decode cX8_readPart 59 = .ok (.invokevirtual 199, 3) := by decide +kernel
theorem dX8_readPart_62 : decode cX8_readPart 62 = .ok (.aload_n 0, 1) := by decide +kernel
theorem dX8_readPart_63 : decode cX8_readPart 63 = .ok (.bipush 93, 2) := by decide +kernel
theorem dX8_readPart_65 : decode cX8_readPart 65 = .ok (.invokestatic 215, 3) := by decide +kernel
theorem dX8_readPart_68 : decode cX8_readPart 68 = .ok (.invokevirtual 203, 3) := by decide +kernel
theorem dX8_readPart_71 : decode cX8_readPart 71 = .ok (.goto 46, 3) := by decide +kernel
theorem dX8_readPart_74 : decode cX8_readPart 74 = .ok (.iload_n 2, 1) := by decide +kernel
theorem dX8_readPart_75 : decode cX8_readPart 75 = .ok (.bipush 50, 2) := by decide +kernel
theorem dX8_readPart_77 : decode cX8_readPart 77 = .ok (.if_icmp .ne 17, 3) := by decide +kernel
theorem dX8_readPart_80 : decode cX8_readPart 80 = .ok (.aload_n 0, 1) := by decide +kernel
theorem dX8_readPart_81 : decode cX8_readPart 81 = .ok (.getfield 53, 3) := by decide +kernel
theorem dX8_readPart_84 : decode cX8_readPart 84 = .ok (.aload_n 0, 1) := by decide +kernel
theorem dX8_readPart_85 : decode cX8_readPart 85 = .ok (.getfield 187, 3) := by decide +kernel
theorem dX8_readPart_88 : decode cX8_readPart 88 = .ok (.iaload, 1) := by decide +kernel
theorem dX8_readPart_89 : decode cX8_readPart 89 = .ok (.ldc 98, 2) := by decide +kernel
theorem dX8_readPart_91 : decode cX8_readPart 91 = .ok (.if_icmp .le 15, 3) := by decide +kernel
theorem dX8_readPart_94 : decode cX8_readPart 94 = .ok (.iload_n 2, 1) := by decide +kernel
theorem dX8_readPart_95 : decode cX8_readPart 95 = .ok (.bipush 12, 2) := by decide +kernel
theorem dX8_readPart_97 : decode cX8_readPart 97 = .ok (.if_icmp .lt 16, 3) := by decide +kernel
theorem dX8_readPart_100 : decode cX8_readPart 100 = .ok (.iload_n 2, 1) := by decide +kernel
theorem dX8_readPart_101 : decode cX8_readPart 101 = .ok (.bipush 21, 2) := by decide +kernel
theorem dX8_readPart_103 : decode cX8_readPart 103 = .ok (.if_icmp .gt 10, 3) := by decide +kernel
theorem dX8_readPart_106 : decode cX8_readPart 106 = .ok (.aload_n 0, 1) := by decide +kernel
theorem dX8_readPart_107 : decode cX8_readPart 107 = .ok (.invokevirtual 219, 3) := by decide +kernel
theorem dX8_readPart_110 : decode cX8_readPart 110 = .ok (.goto 7, 3) := by decide +kernel
theorem dX8_readPart_113 : decode cX8_readPart 113 = .ok (.aload_n 0, 1) := by decide +kernel
theorem dX8_readPart_114 : decode cX8_readPart 114 = .ok (.invokevirtual 193, 3) := by decide +kernel
theorem dX8_readPart_117 : decode cX8_readPart 117 = .ok (.return_, 1) := by decide +kernel
theorem dX8_reads_0 : decode cX8_reads 0 = .ok (.aload_n 0, 1) := by decide +kernel
theorem dX8_reads_1 : decode cX8_reads 1 = .ok (.aload_n 0, 1) := by decide +kernel
theorem dX8_reads_2 : decode cX8_reads 2 = .ok (.getfield 165, 3) := by decide +kernel
theorem dX8_reads_5 : decode cX8_reads 5 = .ok (.invokevirtual 228, 3) := by decide +kernel
theorem dX8_reads_8 : decode cX8_reads 8 = .ok (.aload_n 0, 1) := by decide +kernel
theorem dX8_reads_9 : decode cX8_reads 9 = .ok (.iconst 0, 1) := by decide +kernel
theorem dX8_reads_10 : decode cX8_reads 10 = .ok (.putfield 165, 3) := by decide +kernel
theorem dX8_reads_13 : decode cX8_reads 13 = .ok (.aload_n 0, 1) := by decide +kernel
theorem dX8_reads_14 : decode cX8_reads 14 = .ok (.iconst 0, 1) := by decide +kernel
theorem dX8_reads_15 : decode cX8_reads 15 = .ok (.putfield 187, 3) := by decide +kernel
theorem dX8_reads_18 : decode cX8_reads 18 = .ok (.aload_n 0, 1) := by decide +kernel
theorem dX8_reads_19 : decode cX8_reads 19 = .ok (.iconst 0, 1) := by decide +kernel
theorem dX8_reads_20 : decode cX8_reads 20 = .ok (.putfield 196, 3) := by decide +kernel
theorem dX8_reads_23 : decode cX8_reads 23 = .ok (.aload_n 0, 1) := by decide +kernel
theorem dX8_reads_24 : decode cX8_reads 24 = .ok (.iconst (-1), 1) := by decide +kernel
theorem dX8_reads_25 : decode cX8_reads 25 = .ok (.putfield 180, 3) := by decide +kernel
theorem dX8_reads_28 : decode cX8_reads 28 = .ok (.aload_n 0, 1) := by decide +kernel
theorem dX8_reads_29 : decode cX8_reads 29 = .ok (.invokevirtual 231, 3) := by decide +kernel
theorem dX8_reads_32 : decode cX8_reads 32 = .ok (.iconst 1, 1) := by decide +kernel
theorem dX8_reads_33 : decode cX8_reads 33 = .ok (.istore_n 1, 1) := by decide +kernel
theorem dX8_reads_34 : decode cX8_reads 34 = .ok (.aload_n 0, 1) := by decide +kernel
theorem dX8_reads_35 : decode cX8_reads 35 = .ok (.bipush 59, 2) := by decide +kernel
theorem dX8_reads_37 : decode cX8_reads 37 = .ok (.invokestatic 215, 3) := by decide +kernel
theorem dX8_reads_40 : decode cX8_reads 40 = .ok (.invokevirtual 190, 3) := by decide +kernel
theorem dX8_reads_43 : decode cX8_reads 43 = .ok (.ifCond .eq 30, 3) := by decide +kernel
theorem dX8_reads_46 : decode cX8_reads 46 = .ok (.iload_n 1, 1) := by decide +kernel
theorem dX8_reads_47 : decode cX8_reads 47 = .ok (.bipush 12, 2) := by decide +kernel
theorem dX8_reads_49 : decode cX8_reads 49 = .ok (.if_icmp .ne 7, 3) := by decide +kernel
theorem dX8_reads_52 : decode cX8_reads 52 = .ok (.aload_n 0, 1) := by decide +kernel
theorem dX8_reads_53 : decode cX8_reads 53 = .ok (.invokevirtual 193, 3) := by decide +kernel
theorem dX8_reads_56 : decode cX8_reads 56 = .ok (.aload_n 0, 1) := by decide +kernel
theorem dX8_reads_57 : decode cX8_reads 57 = .ok (.invokevirtual 183, 3) := by decide +kernel
theorem dX8_reads_60 : decode cX8_reads 60 = .ok (.ifCond .eq 7, 3) := by decide +kernel
theorem dX8_reads_63 : decode cX8_reads 63 = .ok (.aload_n 0, 1) := by decide +kernel
theorem dX8_reads_64 : decode cX8_reads 64 = .ok (.invokevirtual 231, 3) := by decide +kernel
theorem dX8_reads_67 : decode cX8_reads 67 = .ok (.iinc 1 1, 3) := by decide +kernel
theorem dX8_reads_70 : decode cX8_reads 70 = .ok (.goto (-36), 3) := by decide +kernel
theorem dX8_reads_73 : decode cX8_reads 73 = .ok (.aload_n 0, 1) := by decide +kernel
theorem dX8_reads_74 : decode cX8_reads 74 = .ok (.invokevirtual 183, 3) := by decide +kernel
theorem dX8_reads_77 : decode cX8_reads 77 = .ok (.ifCond .eq 18, 3) := by decide +kernel
theorem dX8_reads_80 : decode cX8_reads 80 = .ok (.aload_n 0, 1) := by decide +kernel
theorem dX8_reads_81 : decode cX8_reads 81 = .ok (.getfield 187, 3) := by decide +kernel
theorem dX8_reads_84 : decode cX8_reads 84 = .ok (.aload_n 0, 1) := by decide +kernel
theorem dX8_reads_85 : decode cX8_reads 85 = .ok (.getfield 168, 3) := by decide +kernel
theorem dX8_reads_88 : decode cX8_reads 88 = .ok (.if_icmp .ge 7, 3) := by decide +kernel
theorem dX8_reads_91 : decode cX8_reads 91 = .ok (.aload_n 0, 1) := by decide +kernel
theorem dX8_reads_92 : decode cX8_reads 92 = .ok (.invokevirtual 193, 3) := by decide +kernel
theorem dX8_reads_95 : decode cX8_reads 95 = .ok (.aload_n 0, 1) := by decide +kernel
theorem dX8_reads_96 : decode cX8_reads 96 = .ok (.aload_n 0, 1) := by decide +kernel
theorem dX8_reads_97 : decode cX8_reads 97 = .ok (.getfield 180, 3) := by decide +kernel
theorem dX8_reads_100 : decode cX8_reads 100 = .ok (.putfield 47, 3) := by decide +kernel
theorem dX8_reads_103 : decode cX8_reads 103 = .ok (.aload_n 0, 1) := by decide +kernel
theorem dX8_reads_104 : decode cX8_reads 104 = .ok (.invokevirtual 183, 3) := by decide +kernel
theorem dX8_reads_107 : decode cX8_reads 107 = .ok (.ireturn, 1) := by decide +kernel
theorem dX8_rule_0 : decode cX8_rule 0 = .ok (.aload_n 0, 1) := by decide +kernel
theorem dX8_rule_1 : decode cX8_rule 1 = .ok (.getfield 13, 3) := by decide +kernel
theorem dX8_rule_4 : decode cX8_rule 4 = .ok (.sipush 1634, 3) := by decide +kernel
theorem dX8_rule_7 : decode cX8_rule 7 = .ok (.iaload, 1) := by decide +kernel
theorem dX8_rule_8 : decode cX8_rule 8 = .ok (.bipush 8, 2) := by decide +kernel
theorem dX8_rule_10 : decode cX8_rule 10 = .ok (.if_icmp .ne 15, 3) := by decide +kernel
theorem dX8_rule_13 : decode cX8_rule 13 = .ok (.aload_n 0, 1) := by decide +kernel
theorem dX8_rule_14 : decode cX8_rule 14 = .ok (.iconst 0, 1) := by decide +kernel
theorem dX8_rule_15 : decode cX8_rule 15 = .ok (.putfield 165, 3) := by decide +kernel
theorem dX8_rule_18 : decode cX8_rule 18 = .ok (.aload_n 0, 1) := by decide +kernel
theorem dX8_rule_19 : decode cX8_rule 19 = .ok (.bipush (-5), 2) := by decide +kernel
theorem dX8_rule_21 : decode cX8_rule 21 = .ok (.invokevirtual 87, 3) := by decide +kernel
theorem dX8_rule_24 : decode cX8_rule 24 = .ok (.ireturn, 1) := by decide +kernel
theorem dX8_rule_25 : decode cX8_rule 25 = .ok (.aload_n 0, 1) := by decide +kernel
theorem dX8_rule_26 : decode cX8_rule 26 = .ok (.invokevirtual 234, 3) := by decide +kernel
theorem dX8_rule_29 : decode cX8_rule 29 = .ok (.ifCond .ne 10, 3) := by decide +kernel
theorem dX8_rule_32 : decode cX8_rule 32 = .ok (.aload_n 0, 1) := by decide +kernel
theorem dX8_rule_33 : decode cX8_rule 33 = .ok (.bipush (-6), 2) := by decide +kernel
theorem dX8_rule_35 : decode cX8_rule 35 = .ok (.invokevirtual 87, 3) := by decide +kernel
theorem dX8_rule_38 : decode cX8_rule 38 = .ok (.ireturn, 1) := by decide +kernel
theorem dX8_rule_39 : decode cX8_rule 39 = .ok (.aload_n 0, 1) := by decide +kernel
theorem dX8_rule_40 : decode cX8_rule 40 = .ok (.getfield 13, 3) := by decide +kernel
theorem dX8_rule_43 : decode cX8_rule 43 = .ok (.sipush 1634, 3) := by decide +kernel
theorem dX8_rule_46 : decode cX8_rule 46 = .ok (.iaload, 1) := by decide +kernel
theorem dX8_rule_47 : decode cX8_rule 47 = .ok (.istore_n 1, 1) := by decide +kernel
theorem dX8_rule_48 : decode cX8_rule 48 = .ok (.aload_n 0, 1) := by decide +kernel
theorem dX8_rule_49 : decode cX8_rule 49 = .ok (.getfield 13, 3) := by decide +kernel
theorem dX8_rule_52 : decode cX8_rule 52 = .ok (.sipush 1639, 3) := by decide +kernel
theorem dX8_rule_55 : decode cX8_rule 55 = .ok (.iload_n 1, 1) := by decide +kernel
theorem dX8_rule_56 : decode cX8_rule 56 = .ok (.iadd, 1) := by decide +kernel
theorem dX8_rule_57 : decode cX8_rule 57 = .ok (.aload_n 0, 1) := by decide +kernel
theorem dX8_rule_58 : decode cX8_rule 58 = .ok (.getfield 168, 3) := by decide +kernel
theorem dX8_rule_61 : decode cX8_rule 61 = .ok (.iastore, 1) := by decide +kernel
theorem dX8_rule_62 : decode cX8_rule 62 = .ok (.iconst 0, 1) := by decide +kernel
theorem dX8_rule_63 : decode cX8_rule 63 = .ok (.istore_n 2, 1) := by decide +kernel
theorem dX8_rule_64 : decode cX8_rule 64 = .ok (.iload_n 2, 1) := by decide +kernel
theorem dX8_rule_65 : decode cX8_rule 65 = .ok (.aload_n 0, 1) := by decide +kernel
theorem dX8_rule_66 : decode cX8_rule 66 = .ok (.getfield 168, 3) := by decide +kernel
theorem dX8_rule_69 : decode cX8_rule 69 = .ok (.if_icmp .ge 53, 3) := by decide +kernel
theorem dX8_rule_72 : decode cX8_rule 72 = .ok (.aload_n 0, 1) := by decide +kernel
theorem dX8_rule_73 : decode cX8_rule 73 = .ok (.getfield 13, 3) := by decide +kernel
theorem dX8_rule_76 : decode cX8_rule 76 = .ok (.sipush 1647, 3) := by decide +kernel
theorem dX8_rule_79 : decode cX8_rule 79 = .ok (.sipush 400, 3) := by decide +kernel
theorem dX8_rule_82 : decode cX8_rule 82 = .ok (.iload_n 1, 1) := by decide +kernel
theorem dX8_rule_83 : decode cX8_rule 83 = .ok (.imul, 1) := by decide +kernel
theorem dX8_rule_84 : decode cX8_rule 84 = .ok (.iadd, 1) := by decide +kernel
theorem dX8_rule_85 : decode cX8_rule 85 = .ok (.iload_n 2, 1) := by decide +kernel
theorem dX8_rule_86 : decode cX8_rule 86 = .ok (.iadd, 1) := by decide +kernel
theorem dX8_rule_87 : decode cX8_rule 87 = .ok (.aload_n 0, 1) := by decide +kernel
theorem dX8_rule_88 : decode cX8_rule 88 = .ok (.getfield 50, 3) := by decide +kernel
theorem dX8_rule_91 : decode cX8_rule 91 = .ok (.iload_n 2, 1) := by decide +kernel
theorem dX8_rule_92 : decode cX8_rule 92 = .ok (.iaload, 1) := by decide +kernel
theorem dX8_rule_93 : decode cX8_rule 93 = .ok (.iastore, 1) := by decide +kernel
theorem dX8_rule_94 : decode cX8_rule 94 = .ok (.aload_n 0, 1) := by decide +kernel
theorem dX8_rule_95 : decode cX8_rule 95 = .ok (.getfield 13, 3) := by decide +kernel
theorem dX8_rule_98 : decode cX8_rule 98 = .ok (.sipush 4847, 3) := by decide +kernel
theorem dX8_rule_101 : decode cX8_rule 101 = .ok (.sipush 400, 3) := by decide +kernel
theorem dX8_rule_104 : decode cX8_rule 104 = .ok (.iload_n 1, 1) := by decide +kernel
theorem dX8_rule_105 : decode cX8_rule 105 = .ok (.imul, 1) := by decide +kernel
theorem dX8_rule_106 : decode cX8_rule 106 = .ok (.iadd, 1) := by decide +kernel
theorem dX8_rule_107 : decode cX8_rule 107 = .ok (.iload_n 2, 1) := by decide +kernel
theorem dX8_rule_108 : decode cX8_rule 108 = .ok (.iadd, 1) := by decide +kernel
theorem dX8_rule_109 : decode cX8_rule 109 = .ok (.aload_n 0, 1) := by decide +kernel
theorem dX8_rule_110 : decode cX8_rule 110 = .ok (.getfield 53, 3) := by decide +kernel
theorem dX8_rule_113 : decode cX8_rule 113 = .ok (.iload_n 2, 1) := by decide +kernel
theorem dX8_rule_114 : decode cX8_rule 114 = .ok (.iaload, 1) := by decide +kernel
theorem dX8_rule_115 : decode cX8_rule 115 = .ok (.iastore, 1) := by decide +kernel
theorem dX8_rule_116 : decode cX8_rule 116 = .ok (.iinc 2 1, 3) := by decide +kernel
theorem dX8_rule_119 : decode cX8_rule 119 = .ok (.goto (-55), 3) := by decide +kernel
theorem dX8_rule_122 : decode cX8_rule 122 = .ok (.aload_n 0, 1) := by decide +kernel
theorem dX8_rule_123 : decode cX8_rule 123 = .ok (.getfield 13, 3) := by decide +kernel
theorem dX8_rule_126 : decode cX8_rule 126 = .ok (.sipush 1634, 3) := by decide +kernel
theorem dX8_rule_129 : decode cX8_rule 129 = .ok (.dup2, 1) := by decide +kernel
theorem dX8_rule_130 : decode cX8_rule 130 = .ok (.iaload, 1) := by decide +kernel
theorem dX8_rule_131 : decode cX8_rule 131 = .ok (.iconst 1, 1) := by decide +kernel
theorem dX8_rule_132 : decode cX8_rule 132 = .ok (.iadd, 1) := by decide +kernel
theorem dX8_rule_133 : decode cX8_rule 133 = .ok (.iastore, 1) := by decide +kernel
theorem dX8_rule_134 : decode cX8_rule 134 = .ok (.aload_n 0, 1) := by decide +kernel
theorem dX8_rule_135 : decode cX8_rule 135 = .ok (.iload_n 1, 1) := by decide +kernel
theorem dX8_rule_136 : decode cX8_rule 136 = .ok (.invokevirtual 91, 3) := by decide +kernel
theorem dX8_rule_139 : decode cX8_rule 139 = .ok (.ireturn, 1) := by decide +kernel
theorem dX8_fault_0 : decode cX8_fault 0 = .ok (.aload_n 0, 1) := by decide +kernel
theorem dX8_fault_1 : decode cX8_fault 1 = .ok (.getfield 47, 3) := by decide +kernel
theorem dX8_fault_4 : decode cX8_fault 4 = .ok (.ireturn, 1) := by decide +kernel
theorem dX8_codeAt_0 : decode cX8_codeAt 0 = .ok (.iload_n 1, 1) := by decide +kernel
theorem dX8_codeAt_1 : decode cX8_codeAt 1 = .ok (.aload_n 0, 1) := by decide +kernel
theorem dX8_codeAt_2 : decode cX8_codeAt 2 = .ok (.getfield 237, 3) := by decide +kernel
theorem dX8_codeAt_5 : decode cX8_codeAt 5 = .ok (.if_icmp .ge 16, 3) := by decide +kernel
theorem dX8_codeAt_8 : decode cX8_codeAt 8 = .ok (.aload_n 0, 1) := by decide +kernel
theorem dX8_codeAt_9 : decode cX8_codeAt 9 = .ok (.getfield 13, 3) := by decide +kernel
theorem dX8_codeAt_12 : decode cX8_codeAt 12 = .ok (.sipush 1647, 3) := by decide +kernel
theorem dX8_codeAt_15 : decode cX8_codeAt 15 = .ok (.iload_n 1, 1) := by decide +kernel
theorem dX8_codeAt_16 : decode cX8_codeAt 16 = .ok (.iadd, 1) := by decide +kernel
theorem dX8_codeAt_17 : decode cX8_codeAt 17 = .ok (.iaload, 1) := by decide +kernel
theorem dX8_codeAt_18 : decode cX8_codeAt 18 = .ok (.goto 4, 3) := by decide +kernel
theorem dX8_codeAt_21 : decode cX8_codeAt 21 = .ok (.iconst 0, 1) := by decide +kernel
theorem dX8_codeAt_22 : decode cX8_codeAt 22 = .ok (.ireturn, 1) := by decide +kernel
theorem dX8_passes_0 : decode cX8_passes 0 = .ok (.aload_n 0, 1) := by decide +kernel
theorem dX8_passes_1 : decode cX8_passes 1 = .ok (.aload_n 0, 1) := by decide +kernel
theorem dX8_passes_2 : decode cX8_passes 2 = .ok (.getfield 240, 3) := by decide +kernel
theorem dX8_passes_5 : decode cX8_passes 5 = .ok (.invokevirtual 243, 3) := by decide +kernel
theorem dX8_passes_8 : decode cX8_passes 8 = .ok (.iload_n 1, 1) := by decide +kernel
theorem dX8_passes_9 : decode cX8_passes 9 = .ok (.if_icmp .ne 7, 3) := by decide +kernel
theorem dX8_passes_12 : decode cX8_passes 12 = .ok (.iconst 1, 1) := by decide +kernel
theorem dX8_passes_13 : decode cX8_passes 13 = .ok (.goto 4, 3) := by decide +kernel
theorem dX8_passes_16 : decode cX8_passes 16 = .ok (.iconst 0, 1) := by decide +kernel
theorem dX8_passes_17 : decode cX8_passes 17 = .ok (.istore_n 2, 1) := by decide +kernel
theorem dX8_passes_18 : decode cX8_passes 18 = .ok (.iload_n 2, 1) := by decide +kernel
theorem dX8_passes_19 : decode cX8_passes 19 = .ok (.ifCond .eq 13, 3) := by decide +kernel
theorem dX8_passes_22 : decode cX8_passes 22 = .ok (.aload_n 0, 1) := by decide +kernel
theorem dX8_passes_23 : decode cX8_passes 23 = .ok (.dup, 1) := by decide +kernel
theorem dX8_passes_24 : decode cX8_passes 24 = .ok (.getfield 240, 3) := by decide +kernel
theorem dX8_passes_27 : decode cX8_passes 27 = .ok (.iconst 1, 1) := by decide +kernel
theorem dX8_passes_28 : decode cX8_passes 28 = .ok (.iadd, 1) := by decide +kernel
theorem dX8_passes_29 : decode cX8_passes 29 = .ok (.putfield 240, 3) := by decide +kernel
theorem dX8_passes_32 : decode cX8_passes 32 = .ok (.iload_n 2, 1) := by decide +kernel
theorem dX8_passes_33 : decode cX8_passes 33 = .ok (.ireturn, 1) := by decide +kernel
theorem dX8_bounded_0 : decode cX8_bounded 0 = .ok (.iload_n 3, 1) := by decide +kernel
theorem dX8_bounded_1 : decode cX8_bounded 1 = .ok (.ifCond .eq 24, 3) := by decide +kernel
theorem dX8_bounded_4 : decode cX8_bounded 4 = .ok (.lload_n 1, 1) := by decide +kernel
theorem dX8_bounded_5 : decode cX8_bounded 5 = .ok (.ldc2_w 246, 3) := by decide +kernel
theorem dX8_bounded_8 : decode cX8_bounded 8 = .ok (.lcmp, 1) := by decide +kernel
theorem dX8_bounded_9 : decode cX8_bounded 9 = .ok (.ifCond .gt 11, 3) := by decide +kernel
theorem dX8_bounded_12 : decode cX8_bounded 12 = .ok (.lload_n 1, 1) := by decide +kernel
theorem dX8_bounded_13 : decode cX8_bounded 13 = .ok (.ldc2_w 248, 3) := by decide +kernel
theorem dX8_bounded_16 : decode cX8_bounded 16 = .ok (.lcmp, 1) := by decide +kernel
theorem dX8_bounded_17 : decode cX8_bounded 17 = .ok (.ifCond .ge 8, 3) := by decide +kernel
theorem dX8_bounded_20 : decode cX8_bounded 20 = .ok (.aload_n 0, 1) := by decide +kernel
theorem dX8_bounded_21 : decode cX8_bounded 21 = .ok (.iconst 1, 1) := by decide +kernel
theorem dX8_bounded_22 : decode cX8_bounded 22 = .ok (.putfield 250, 3) := by decide +kernel
theorem dX8_bounded_25 : decode cX8_bounded 25 = .ok (.aload_n 0, 1) := by decide +kernel
theorem dX8_bounded_26 : decode cX8_bounded 26 = .ok (.getfield 250, 3) := by decide +kernel
theorem dX8_bounded_29 : decode cX8_bounded 29 = .ok (.ifCond .eq 7, 3) := by decide +kernel
theorem dX8_bounded_32 : decode cX8_bounded 32 = .ok (.lconst 0, 1) := by decide +kernel
theorem dX8_bounded_33 : decode cX8_bounded 33 = .ok (.goto 4, 3) := by decide +kernel
theorem dX8_bounded_36 : decode cX8_bounded 36 = .ok (.lload_n 1, 1) := by decide +kernel
theorem dX8_bounded_37 : decode cX8_bounded 37 = .ok (.lreturn, 1) := by decide +kernel
theorem dX8_sumOf_0 : decode cX8_sumOf 0 = .ok (.aload_n 0, 1) := by decide +kernel
theorem dX8_sumOf_1 : decode cX8_sumOf 1 = .ok (.iload_n 1, 1) := by decide +kernel
theorem dX8_sumOf_2 : decode cX8_sumOf 2 = .ok (.invokevirtual 254, 3) := by decide +kernel
theorem dX8_sumOf_5 : decode cX8_sumOf 5 = .ok (.lstore_n 2, 1) := by decide +kernel
theorem dX8_sumOf_6 : decode cX8_sumOf 6 = .ok (.aload_n 0, 1) := by decide +kernel
theorem dX8_sumOf_7 : decode cX8_sumOf 7 = .ok (.aload_n 0, 1) := by decide +kernel
theorem dX8_sumOf_8 : decode cX8_sumOf 8 = .ok (.getfield 240, 3) := by decide +kernel
theorem dX8_sumOf_11 : decode cX8_sumOf 11 = .ok (.invokevirtual 243, 3) := by decide +kernel
theorem dX8_sumOf_14 : decode cX8_sumOf 14 = .ok (.bipush 43, 2) := by decide +kernel
theorem dX8_sumOf_16 : decode cX8_sumOf 16 = .ok (.invokestatic 215, 3) := by decide +kernel
theorem dX8_sumOf_19 : decode cX8_sumOf 19 = .ok (.if_icmp .eq 19, 3) := by decide +kernel
theorem dX8_sumOf_22 : decode cX8_sumOf 22 = .ok (.aload_n 0, 1) := by decide +kernel
theorem dX8_sumOf_23 : decode cX8_sumOf 23 = .ok (.aload_n 0, 1) := by decide +kernel
theorem dX8_sumOf_24 : decode cX8_sumOf 24 = .ok (.getfield 240, 3) := by decide +kernel
theorem dX8_sumOf_27 : decode cX8_sumOf 27 = .ok (.invokevirtual 243, 3) := by decide +kernel
theorem dX8_sumOf_30 : decode cX8_sumOf 30 = .ok (.bipush 45, 2) := by decide +kernel
theorem dX8_sumOf_32 : decode cX8_sumOf 32 = .ok (.invokestatic 215, 3) := by decide +kernel
theorem dX8_sumOf_35 : decode cX8_sumOf 35 = .ok (.if_icmp .ne 68, 3) := by decide +kernel
theorem dX8_sumOf_38 : decode cX8_sumOf 38 = .ok (.aload_n 0, 1) := by decide +kernel
theorem dX8_sumOf_39 : decode cX8_sumOf 39 = .ok (.aload_n 0, 1) := by decide +kernel
theorem dX8_sumOf_40 : decode cX8_sumOf 40 = .ok (.getfield 240, 3) := by decide +kernel
theorem dX8_sumOf_43 : decode cX8_sumOf 43 = .ok (.invokevirtual 243, 3) := by decide +kernel
theorem dX8_sumOf_46 : decode cX8_sumOf 46 = .ok (.bipush 43, 2) := by decide +kernel
theorem dX8_sumOf_48 : decode cX8_sumOf 48 = .ok (.invokestatic 215, 3) := by decide +kernel
theorem dX8_sumOf_51 : decode cX8_sumOf 51 = .ok (.if_icmp .ne 7, 3) := by decide +kernel
theorem dX8_sumOf_54 : decode cX8_sumOf 54 = .ok (.iconst 1, 1) := by decide +kernel
theorem dX8_sumOf_55 : decode cX8_sumOf 55 = .ok (.goto 4, 3) := by decide +kernel
theorem dX8_sumOf_58 : decode cX8_sumOf 58 = .ok (.iconst 0, 1) := by decide +kernel
theorem dX8_sumOf_59 : decode cX8_sumOf 59 = .ok (.istore 4, 2) := by decide +kernel
theorem dX8_sumOf_61 : decode cX8_sumOf 61 = .ok (.aload_n 0, 1) := by decide +kernel
theorem dX8_sumOf_62 : decode cX8_sumOf 62 = .ok (.dup, 1) := by decide +kernel
theorem dX8_sumOf_63 : decode cX8_sumOf 63 = .ok (.getfield 240, 3) := by decide +kernel
theorem dX8_sumOf_66 : decode cX8_sumOf 66 = .ok (.iconst 1, 1) := by decide +kernel
theorem dX8_sumOf_67 : decode cX8_sumOf 67 = .ok (.iadd, 1) := by decide +kernel
theorem dX8_sumOf_68 : decode cX8_sumOf 68 = .ok (.putfield 240, 3) := by decide +kernel
theorem dX8_sumOf_71 : decode cX8_sumOf 71 = .ok (.aload_n 0, 1) := by decide +kernel
theorem dX8_sumOf_72 : decode cX8_sumOf 72 = .ok (.iload_n 1, 1) := by decide +kernel
theorem dX8_sumOf_73 : decode cX8_sumOf 73 = .ok (.invokevirtual 254, 3) := by decide +kernel
theorem dX8_sumOf_76 : decode cX8_sumOf 76 = .ok (.lstore 5, 2) := by decide +kernel
theorem dX8_sumOf_78 : decode cX8_sumOf 78 = .ok (.aload_n 0, 1) := by decide +kernel
theorem dX8_sumOf_79 : decode cX8_sumOf 79 = .ok (.iload 4, 2) := by decide +kernel
theorem dX8_sumOf_81 : decode cX8_sumOf 81 = .ok (.ifCond .eq 10, 3) := by decide +kernel
theorem dX8_sumOf_84 : decode cX8_sumOf 84 = .ok (.lload_n 2, 1) := by decide +kernel
theorem dX8_sumOf_85 : decode cX8_sumOf 85 = .ok (.lload 5, 2) := by decide +kernel
theorem dX8_sumOf_87 : decode cX8_sumOf 87 = .ok (.ladd, 1) := by decide +kernel
theorem dX8_sumOf_88 : decode cX8_sumOf 88 = .ok (.goto 7, 3) := by decide +kernel
theorem dX8_sumOf_91 : decode cX8_sumOf 91 = .ok (.lload_n 2, 1) := by decide +kernel
theorem dX8_sumOf_92 : decode cX8_sumOf 92 = .ok (.lload 5, 2) := by decide +kernel
theorem dX8_sumOf_94 : decode cX8_sumOf 94 = .ok (.lsub, 1) := by decide +kernel
theorem dX8_sumOf_95 : decode cX8_sumOf 95 = .ok (.iload_n 1, 1) := by decide +kernel
theorem dX8_sumOf_96 : decode cX8_sumOf 96 = .ok (.invokevirtual 258, 3) := by decide +kernel
theorem dX8_sumOf_99 : decode cX8_sumOf 99 = .ok (.lstore_n 2, 1) := by decide +kernel
theorem dX8_sumOf_100 : decode cX8_sumOf 100 = .ok (.goto (-94), 3) := by decide +kernel
theorem dX8_sumOf_103 : decode cX8_sumOf 103 = .ok (.lload_n 2, 1) := by decide +kernel
theorem dX8_sumOf_104 : decode cX8_sumOf 104 = .ok (.lreturn, 1) := by decide +kernel
theorem dX8_termOf_0 : decode cX8_termOf 0 = .ok (.aload_n 0, 1) := by decide +kernel
theorem dX8_termOf_1 : decode cX8_termOf 1 = .ok (.iload_n 1, 1) := by decide +kernel
theorem dX8_termOf_2 : decode cX8_termOf 2 = .ok (.invokevirtual 262, 3) := by decide +kernel
theorem dX8_termOf_5 : decode cX8_termOf 5 = .ok (.lstore_n 2, 1) := by decide +kernel
theorem dX8_termOf_6 : decode cX8_termOf 6 = .ok (.aload_n 0, 1) := by decide +kernel
theorem dX8_termOf_7 : decode cX8_termOf 7 = .ok (.aload_n 0, 1) := by decide +kernel
theorem dX8_termOf_8 : decode cX8_termOf 8 = .ok (.getfield 240, 3) := by decide +kernel
theorem dX8_termOf_11 : decode cX8_termOf 11 = .ok (.invokevirtual 243, 3) := by decide +kernel
theorem dX8_termOf_14 : decode cX8_termOf 14 = .ok (.bipush 42, 2) := by decide +kernel
theorem dX8_termOf_16 : decode cX8_termOf 16 = .ok (.invokestatic 215, 3) := by decide +kernel
theorem dX8_termOf_19 : decode cX8_termOf 19 = .ok (.if_icmp .eq 19, 3) := by decide +kernel
theorem dX8_termOf_22 : decode cX8_termOf 22 = .ok (.aload_n 0, 1) := by decide +kernel
theorem dX8_termOf_23 : decode cX8_termOf 23 = .ok (.aload_n 0, 1) := by decide +kernel
theorem dX8_termOf_24 : decode cX8_termOf 24 = .ok (.getfield 240, 3) := by decide +kernel
theorem dX8_termOf_27 : decode cX8_termOf 27 = .ok (.invokevirtual 243, 3) := by decide +kernel
theorem dX8_termOf_30 : decode cX8_termOf 30 = .ok (.bipush 47, 2) := by decide +kernel
theorem dX8_termOf_32 : decode cX8_termOf 32 = .ok (.invokestatic 215, 3) := by decide +kernel
theorem dX8_termOf_35 : decode cX8_termOf 35 = .ok (.if_icmp .ne 103, 3) := by decide +kernel
theorem dX8_termOf_38 : decode cX8_termOf 38 = .ok (.aload_n 0, 1) := by decide +kernel
theorem dX8_termOf_39 : decode cX8_termOf 39 = .ok (.aload_n 0, 1) := by decide +kernel
theorem dX8_termOf_40 : decode cX8_termOf 40 = .ok (.getfield 240, 3) := by decide +kernel
theorem dX8_termOf_43 : decode cX8_termOf 43 = .ok (.invokevirtual 243, 3) := by decide +kernel
theorem dX8_termOf_46 : decode cX8_termOf 46 = .ok (.bipush 42, 2) := by decide +kernel
theorem dX8_termOf_48 : decode cX8_termOf 48 = .ok (.invokestatic 215, 3) := by decide +kernel
theorem dX8_termOf_51 : decode cX8_termOf 51 = .ok (.if_icmp .ne 7, 3) := by decide +kernel
theorem dX8_termOf_54 : decode cX8_termOf 54 = .ok (.iconst 1, 1) := by decide +kernel
theorem dX8_termOf_55 : decode cX8_termOf 55 = .ok (.goto 4, 3) := by decide +kernel
theorem dX8_termOf_58 : decode cX8_termOf 58 = .ok (.iconst 0, 1) := by decide +kernel
theorem dX8_termOf_59 : decode cX8_termOf 59 = .ok (.istore 4, 2) := by decide +kernel
theorem dX8_termOf_61 : decode cX8_termOf 61 = .ok (.aload_n 0, 1) := by decide +kernel
theorem dX8_termOf_62 : decode cX8_termOf 62 = .ok (.dup, 1) := by decide +kernel
theorem dX8_termOf_63 : decode cX8_termOf 63 = .ok (.getfield 240, 3) := by decide +kernel
theorem dX8_termOf_66 : decode cX8_termOf 66 = .ok (.iconst 1, 1) := by decide +kernel
theorem dX8_termOf_67 : decode cX8_termOf 67 = .ok (.iadd, 1) := by decide +kernel
theorem dX8_termOf_68 : decode cX8_termOf 68 = .ok (.putfield 240, 3) := by decide +kernel
theorem dX8_termOf_71 : decode cX8_termOf 71 = .ok (.aload_n 0, 1) := by decide +kernel
theorem dX8_termOf_72 : decode cX8_termOf 72 = .ok (.iload_n 1, 1) := by decide +kernel
theorem dX8_termOf_73 : decode cX8_termOf 73 = .ok (.invokevirtual 262, 3) := by decide +kernel
theorem dX8_termOf_76 : decode cX8_termOf 76 = .ok (.lstore 5, 2) := by decide +kernel
theorem dX8_termOf_78 : decode cX8_termOf 78 = .ok (.iload 4, 2) := by decide +kernel
theorem dX8_termOf_80 : decode cX8_termOf 80 = .ok (.ifCond .ne 33, 3) := by decide +kernel
theorem dX8_termOf_83 : decode cX8_termOf 83 = .ok (.lload 5, 2) := by decide +kernel
theorem dX8_termOf_85 : decode cX8_termOf 85 = .ok (.lconst 0, 1) := by decide +kernel
theorem dX8_termOf_86 : decode cX8_termOf 86 = .ok (.lcmp, 1) := by decide +kernel
theorem dX8_termOf_87 : decode cX8_termOf 87 = .ok (.ifCond .ne 26, 3) := by decide +kernel
theorem dX8_termOf_90 : decode cX8_termOf 90 = .ok (.aload_n 0, 1) := by decide +kernel
theorem dX8_termOf_91 : decode cX8_termOf 91 = .ok (.aload_n 0, 1) := by decide +kernel
theorem dX8_termOf_92 : decode cX8_termOf 92 = .ok (.getfield 250, 3) := by decide +kernel
theorem dX8_termOf_95 : decode cX8_termOf 95 = .ok (.ifCond .ne 7, 3) := by decide +kernel
theorem dX8_termOf_98 : decode cX8_termOf 98 = .ok (.iload_n 1, 1) := by decide +kernel
theorem dX8_termOf_99 : decode cX8_termOf 99 = .ok (.ifCond .eq 7, 3) := by decide +kernel
theorem dX8_termOf_102 : decode cX8_termOf 102 = .ok (.iconst 1, 1) := by decide +kernel
theorem dX8_termOf_103 : decode cX8_termOf 103 = .ok (.goto 4, 3) := by decide +kernel
theorem dX8_termOf_106 : decode cX8_termOf 106 = .ok (.iconst 0, 1) := by decide +kernel
theorem dX8_termOf_107 : decode cX8_termOf 107 = .ok (.putfield 250, 3) := by decide +kernel
theorem dX8_termOf_110 : decode cX8_termOf 110 = .ok (.lconst 1, 1) := by decide +kernel
theorem dX8_termOf_111 : decode cX8_termOf 111 = .ok (.lstore 5, 2) := by decide +kernel
theorem dX8_termOf_113 : decode cX8_termOf 113 = .ok (.aload_n 0, 1) := by decide +kernel
theorem dX8_termOf_114 : decode cX8_termOf 114 = .ok (.iload 4, 2) := by decide +kernel
theorem dX8_termOf_116 : decode cX8_termOf 116 = .ok (.ifCond .eq 10, 3) := by decide +kernel
theorem dX8_termOf_119 : decode cX8_termOf 119 = .ok (.lload_n 2, 1) := by decide +kernel
theorem dX8_termOf_120 : decode cX8_termOf 120 = .ok (.lload 5, 2) := by decide +kernel
theorem dX8_termOf_122 : decode cX8_termOf 122 = .ok (.lmul, 1) := by decide +kernel
theorem dX8_termOf_123 : decode cX8_termOf 123 = .ok (.goto 7, 3) := by decide +kernel
theorem dX8_termOf_126 : decode cX8_termOf 126 = .ok (.lload_n 2, 1) := by decide +kernel
theorem dX8_termOf_127 : decode cX8_termOf 127 = .ok (.lload 5, 2) := by decide +kernel
theorem dX8_termOf_129 : decode cX8_termOf 129 = .ok (.ldiv, 1) := by decide +kernel
theorem dX8_termOf_130 : decode cX8_termOf 130 = .ok (.iload_n 1, 1) := by decide +kernel
theorem dX8_termOf_131 : decode cX8_termOf 131 = .ok (.invokevirtual 258, 3) := by decide +kernel
theorem dX8_termOf_134 : decode cX8_termOf 134 = .ok (.lstore_n 2, 1) := by decide +kernel
theorem dX8_termOf_135 : decode cX8_termOf 135 = .ok (.goto (-129), 3) := by decide +kernel
theorem dX8_termOf_138 : decode cX8_termOf 138 = .ok (.lload_n 2, 1) := by decide +kernel
theorem dX8_termOf_139 : decode cX8_termOf 139 = .ok (.lreturn, 1) := by decide +kernel
theorem dX8_partOf_0 : decode cX8_partOf 0 = .ok (.aload_n 0, 1) := by decide +kernel
theorem dX8_partOf_1 : decode cX8_partOf 1 = .ok (.bipush 91, 2) := by decide +kernel
theorem dX8_partOf_3 : decode cX8_partOf 3 = .ok (.invokestatic 215, 3) := by decide +kernel
theorem dX8_partOf_6 : decode cX8_partOf 6 = .ok (.invokevirtual 265, 3) := by decide +kernel
theorem dX8_partOf_9 : decode cX8_partOf 9 = .ok (.ifCond .eq 21, 3) := by decide +kernel
theorem dX8_partOf_12 : decode cX8_partOf 12 = .ok (.aload_n 0, 1) := by decide +kernel
theorem dX8_partOf_13 : decode cX8_partOf 13 = .ok (.iload_n 1, 1) := by decide +kernel
theorem dX8_partOf_14 : decode cX8_partOf 14 = .ok (.invokevirtual 268, 3) := by decide +kernel
theorem dX8_partOf_17 : decode cX8_partOf 17 = .ok (.lstore_n 2, 1) := by decide +kernel
theorem dX8_partOf_18 : decode cX8_partOf 18 = .ok (.aload_n 0, 1) := by decide +kernel
theorem dX8_partOf_19 : decode cX8_partOf 19 = .ok (.dup, 1) := by decide +kernel
theorem dX8_partOf_20 : decode cX8_partOf 20 = .ok (.getfield 240, 3) := by decide +kernel
theorem dX8_partOf_23 : decode cX8_partOf 23 = .ok (.iconst 1, 1) := by decide +kernel
theorem dX8_partOf_24 : decode cX8_partOf 24 = .ok (.iadd, 1) := by decide +kernel
theorem dX8_partOf_25 : decode cX8_partOf 25 = .ok (.putfield 240, 3) := by decide +kernel
theorem dX8_partOf_28 : decode cX8_partOf 28 = .ok (.lload_n 2, 1) := by decide +kernel
theorem dX8_partOf_29 : decode cX8_partOf 29 = .ok (.lreturn, 1) := by decide +kernel
theorem dX8_partOf_30 : decode cX8_partOf 30 = .ok (.aload_n 0, 1) := by decide +kernel
theorem dX8_partOf_31 : decode cX8_partOf 31 = .ok (.aload_n 0, 1) := by decide +kernel
theorem dX8_partOf_32 : decode cX8_partOf 32 = .ok (.getfield 240, 3) := by decide +kernel
theorem dX8_partOf_35 : decode cX8_partOf 35 = .ok (.invokevirtual 243, 3) := by decide +kernel
theorem dX8_partOf_38 : decode cX8_partOf 38 = .ok (.istore_n 2, 1) := by decide +kernel
theorem dX8_partOf_39 : decode cX8_partOf 39 = .ok (.aload_n 0, 1) := by decide +kernel
theorem dX8_partOf_40 : decode cX8_partOf 40 = .ok (.dup, 1) := by decide +kernel
theorem dX8_partOf_41 : decode cX8_partOf 41 = .ok (.getfield 240, 3) := by decide +kernel
theorem dX8_partOf_44 : decode cX8_partOf 44 = .ok (.iconst 1, 1) := by decide +kernel
theorem dX8_partOf_45 : decode cX8_partOf 45 = .ok (.iadd, 1) := by decide +kernel
theorem dX8_partOf_46 : decode cX8_partOf 46 = .ok (.putfield 240, 3) := by decide +kernel
theorem dX8_partOf_49 : decode cX8_partOf 49 = .ok (.iload_n 1, 1) := by decide +kernel
theorem dX8_partOf_50 : decode cX8_partOf 50 = .ok (.ifCond .eq 10, 3) := by decide +kernel
theorem dX8_partOf_53 : decode cX8_partOf 53 = .ok (.aload_n 0, 1) := by decide +kernel
theorem dX8_partOf_54 : decode cX8_partOf 54 = .ok (.getfield 250, 3) := by decide +kernel
theorem dX8_partOf_57 : decode cX8_partOf 57 = .ok (.ifCond .eq 5, 3) := by decide +kernel
theorem dX8_partOf_60 : decode cX8_partOf 60 = .ok (.lconst 0, 1) := by decide +kernel
theorem dX8_partOf_61 : decode cX8_partOf 61 = .ok (.lreturn, 1) := by decide +kernel
theorem dX8_partOf_62 : decode cX8_partOf 62 = .ok (.iload_n 2, 1) := by decide +kernel
theorem dX8_partOf_63 : decode cX8_partOf 63 = .ok (.bipush 50, 2) := by decide +kernel
theorem dX8_partOf_65 : decode cX8_partOf 65 = .ok (.if_icmp .ne 22, 3) := by decide +kernel
theorem dX8_partOf_68 : decode cX8_partOf 68 = .ok (.aload_n 0, 1) := by decide +kernel
theorem dX8_partOf_69 : decode cX8_partOf 69 = .ok (.getfield 13, 3) := by decide +kernel
theorem dX8_partOf_72 : decode cX8_partOf 72 = .ok (.sipush 4847, 3) := by decide +kernel
theorem dX8_partOf_75 : decode cX8_partOf 75 = .ok (.aload_n 0, 1) := by decide +kernel
theorem dX8_partOf_76 : decode cX8_partOf 76 = .ok (.getfield 240, 3) := by decide +kernel
theorem dX8_partOf_79 : decode cX8_partOf 79 = .ok (.iadd, 1) := by decide +kernel
theorem dX8_partOf_80 : decode cX8_partOf 80 = .ok (.iconst 1, 1) := by decide +kernel
theorem dX8_partOf_81 : decode cX8_partOf 81 = .ok (.isub, 1) := by decide +kernel
theorem dX8_partOf_82 : decode cX8_partOf 82 = .ok (.iaload, 1) := by decide +kernel
theorem dX8_partOf_83 : decode cX8_partOf 83 = .ok (.i2l, 1) := by decide +kernel
theorem dX8_partOf_84 : decode cX8_partOf 84 = .ok (.goto 12, 3) := by decide +kernel
theorem dX8_partOf_87 : decode cX8_partOf 87 = .ok (.aload_n 0, 1) := by decide +kernel
theorem dX8_partOf_88 : decode cX8_partOf 88 = .ok (.getfield 59, 3) := by decide +kernel
theorem dX8_partOf_91 : decode cX8_partOf 91 = .ok (.iload_n 2, 1) := by decide +kernel
theorem dX8_partOf_92 : decode cX8_partOf 92 = .ok (.bipush 12, 2) := by decide +kernel
theorem dX8_partOf_94 : decode cX8_partOf 94 = .ok (.isub, 1) := by decide +kernel
theorem dX8_partOf_95 : decode cX8_partOf 95 = .ok (.laload, 1) := by decide +kernel
theorem dX8_partOf_96 : decode cX8_partOf 96 = .ok (.lreturn, 1) := by decide +kernel
theorem dX8_testOf_0 : decode cX8_testOf 0 = .ok (.aload_n 0, 1) := by decide +kernel
theorem dX8_testOf_1 : decode cX8_testOf 1 = .ok (.iload_n 1, 1) := by decide +kernel
theorem dX8_testOf_2 : decode cX8_testOf 2 = .ok (.invokevirtual 271, 3) := by decide +kernel
theorem dX8_testOf_5 : decode cX8_testOf 5 = .ok (.istore_n 2, 1) := by decide +kernel
theorem dX8_testOf_6 : decode cX8_testOf 6 = .ok (.aload_n 0, 1) := by decide +kernel
theorem dX8_testOf_7 : decode cX8_testOf 7 = .ok (.iconst 5, 1) := by decide +kernel
theorem dX8_testOf_8 : decode cX8_testOf 8 = .ok (.invokevirtual 265, 3) := by decide +kernel
theorem dX8_testOf_11 : decode cX8_testOf 11 = .ok (.ifCond .eq 38, 3) := by decide +kernel
theorem dX8_testOf_14 : decode cX8_testOf 14 = .ok (.aload_n 0, 1) := by decide +kernel
theorem dX8_testOf_15 : decode cX8_testOf 15 = .ok (.iload_n 1, 1) := by decide +kernel
theorem dX8_testOf_16 : decode cX8_testOf 16 = .ok (.ifCond .eq 11, 3) := by decide +kernel
theorem dX8_testOf_19 : decode cX8_testOf 19 = .ok (.iload_n 2, 1) := by decide +kernel
theorem dX8_testOf_20 : decode cX8_testOf 20 = .ok (.ifCond .ne 7, 3) := by decide +kernel
theorem dX8_testOf_23 : decode cX8_testOf 23 = .ok (.iconst 1, 1) := by decide +kernel
theorem dX8_testOf_24 : decode cX8_testOf 24 = .ok (.goto 4, 3) := by decide +kernel
theorem dX8_testOf_27 : decode cX8_testOf 27 = .ok (.iconst 0, 1) := by decide +kernel
theorem dX8_testOf_28 : decode cX8_testOf 28 = .ok (.invokevirtual 271, 3) := by decide +kernel
theorem dX8_testOf_31 : decode cX8_testOf 31 = .ok (.istore_n 3, 1) := by decide +kernel
theorem dX8_testOf_32 : decode cX8_testOf 32 = .ok (.iload_n 2, 1) := by decide +kernel
theorem dX8_testOf_33 : decode cX8_testOf 33 = .ok (.ifCond .ne 7, 3) := by decide +kernel
theorem dX8_testOf_36 : decode cX8_testOf 36 = .ok (.iload_n 3, 1) := by decide +kernel
theorem dX8_testOf_37 : decode cX8_testOf 37 = .ok (.ifCond .eq 7, 3) := by decide +kernel
theorem dX8_testOf_40 : decode cX8_testOf 40 = .ok (.iconst 1, 1) := by decide +kernel
theorem dX8_testOf_41 : decode cX8_testOf 41 = .ok (.goto 4, 3) := by decide +kernel
theorem dX8_testOf_44 : decode cX8_testOf 44 = .ok (.iconst 0, 1) := by decide +kernel
theorem dX8_testOf_45 : decode cX8_testOf 45 = .ok (.istore_n 2, 1) := by decide +kernel
theorem dX8_testOf_46 : decode cX8_testOf 46 = .ok (.goto (-40), 3) := by decide +kernel
theorem dX8_testOf_49 : decode cX8_testOf 49 = .ok (.iload_n 2, 1) := by decide +kernel
theorem dX8_testOf_50 : decode cX8_testOf 50 = .ok (.ireturn, 1) := by decide +kernel
theorem dX8_bothOf_0 : decode cX8_bothOf 0 = .ok (.aload_n 0, 1) := by decide +kernel
theorem dX8_bothOf_1 : decode cX8_bothOf 1 = .ok (.iload_n 1, 1) := by decide +kernel
theorem dX8_bothOf_2 : decode cX8_bothOf 2 = .ok (.invokevirtual 275, 3) := by decide +kernel
theorem dX8_bothOf_5 : decode cX8_bothOf 5 = .ok (.istore_n 2, 1) := by decide +kernel
theorem dX8_bothOf_6 : decode cX8_bothOf 6 = .ok (.aload_n 0, 1) := by decide +kernel
theorem dX8_bothOf_7 : decode cX8_bothOf 7 = .ok (.bipush 6, 2) := by decide +kernel
theorem dX8_bothOf_9 : decode cX8_bothOf 9 = .ok (.invokevirtual 265, 3) := by decide +kernel
theorem dX8_bothOf_12 : decode cX8_bothOf 12 = .ok (.ifCond .eq 38, 3) := by decide +kernel
theorem dX8_bothOf_15 : decode cX8_bothOf 15 = .ok (.aload_n 0, 1) := by decide +kernel
theorem dX8_bothOf_16 : decode cX8_bothOf 16 = .ok (.iload_n 1, 1) := by decide +kernel
theorem dX8_bothOf_17 : decode cX8_bothOf 17 = .ok (.ifCond .eq 11, 3) := by decide +kernel
theorem dX8_bothOf_20 : decode cX8_bothOf 20 = .ok (.iload_n 2, 1) := by decide +kernel
theorem dX8_bothOf_21 : decode cX8_bothOf 21 = .ok (.ifCond .eq 7, 3) := by decide +kernel
theorem dX8_bothOf_24 : decode cX8_bothOf 24 = .ok (.iconst 1, 1) := by decide +kernel
theorem dX8_bothOf_25 : decode cX8_bothOf 25 = .ok (.goto 4, 3) := by decide +kernel
theorem dX8_bothOf_28 : decode cX8_bothOf 28 = .ok (.iconst 0, 1) := by decide +kernel
theorem dX8_bothOf_29 : decode cX8_bothOf 29 = .ok (.invokevirtual 275, 3) := by decide +kernel
theorem dX8_bothOf_32 : decode cX8_bothOf 32 = .ok (.istore_n 3, 1) := by decide +kernel
theorem dX8_bothOf_33 : decode cX8_bothOf 33 = .ok (.iload_n 2, 1) := by decide +kernel
theorem dX8_bothOf_34 : decode cX8_bothOf 34 = .ok (.ifCond .eq 11, 3) := by decide +kernel
theorem dX8_bothOf_37 : decode cX8_bothOf 37 = .ok (.iload_n 3, 1) := by decide +kernel
theorem dX8_bothOf_38 : decode cX8_bothOf 38 = .ok (.ifCond .eq 7, 3) := by decide +kernel
theorem dX8_bothOf_41 : decode cX8_bothOf 41 = .ok (.iconst 1, 1) := by decide +kernel
theorem dX8_bothOf_42 : decode cX8_bothOf 42 = .ok (.goto 4, 3) := by decide +kernel
theorem dX8_bothOf_45 : decode cX8_bothOf 45 = .ok (.iconst 0, 1) := by decide +kernel
theorem dX8_bothOf_46 : decode cX8_bothOf 46 = .ok (.istore_n 2, 1) := by decide +kernel
theorem dX8_bothOf_47 : decode cX8_bothOf 47 = .ok (.goto (-41), 3) := by decide +kernel
theorem dX8_bothOf_50 : decode cX8_bothOf 50 = .ok (.iload_n 2, 1) := by decide +kernel
theorem dX8_bothOf_51 : decode cX8_bothOf 51 = .ok (.ireturn, 1) := by decide +kernel
theorem dX8_plainOf_0 : decode cX8_plainOf 0 = .ok (.iconst 0, 1) := by decide +kernel
theorem dX8_plainOf_1 : decode cX8_plainOf 1 = .ok (.istore_n 2, 1) := by decide +kernel
theorem dX8_plainOf_2 : decode cX8_plainOf 2 = .ok (.aload_n 0, 1) := by decide +kernel
theorem dX8_plainOf_3 : decode cX8_plainOf 3 = .ok (.bipush 7, 2) := by decide +kernel
theorem dX8_plainOf_5 : decode cX8_plainOf 5 = .ok (.invokevirtual 265, 3) := by decide +kernel
theorem dX8_plainOf_8 : decode cX8_plainOf 8 = .ok (.ifCond .eq 16, 3) := by decide +kernel
theorem dX8_plainOf_11 : decode cX8_plainOf 11 = .ok (.iload_n 2, 1) := by decide +kernel
theorem dX8_plainOf_12 : decode cX8_plainOf 12 = .ok (.ifCond .ne 7, 3) := by decide +kernel
theorem dX8_plainOf_15 : decode cX8_plainOf 15 = .ok (.iconst 1, 1) := by decide +kernel
theorem dX8_plainOf_16 : decode cX8_plainOf 16 = .ok (.goto 4, 3) := by decide +kernel
theorem dX8_plainOf_19 : decode cX8_plainOf 19 = .ok (.iconst 0, 1) := by decide +kernel
theorem dX8_plainOf_20 : decode cX8_plainOf 20 = .ok (.istore_n 2, 1) := by decide +kernel
theorem dX8_plainOf_21 : decode cX8_plainOf 21 = .ok (.goto (-19), 3) := by decide +kernel
theorem dX8_plainOf_24 : decode cX8_plainOf 24 = .ok (.aload_n 0, 1) := by decide +kernel
theorem dX8_plainOf_25 : decode cX8_plainOf 25 = .ok (.iload_n 1, 1) := by decide +kernel
theorem dX8_plainOf_26 : decode cX8_plainOf 26 = .ok (.invokevirtual 278, 3) := by decide +kernel
theorem dX8_plainOf_29 : decode cX8_plainOf 29 = .ok (.iload_n 2, 1) := by decide +kernel
theorem dX8_plainOf_30 : decode cX8_plainOf 30 = .ok (.if_icmp .eq 7, 3) := by decide +kernel
theorem dX8_plainOf_33 : decode cX8_plainOf 33 = .ok (.iconst 1, 1) := by decide +kernel
theorem dX8_plainOf_34 : decode cX8_plainOf 34 = .ok (.goto 4, 3) := by decide +kernel
theorem dX8_plainOf_37 : decode cX8_plainOf 37 = .ok (.iconst 0, 1) := by decide +kernel
theorem dX8_plainOf_38 : decode cX8_plainOf 38 = .ok (.ireturn, 1) := by decide +kernel
theorem dX8_positiveOf_0 : decode cX8_positiveOf 0 = .ok (.aload_n 0, 1) := by decide +kernel
theorem dX8_positiveOf_1 : decode cX8_positiveOf 1 = .ok (.bipush 40, 2) := by decide +kernel
theorem dX8_positiveOf_3 : decode cX8_positiveOf 3 = .ok (.invokestatic 215, 3) := by decide +kernel
theorem dX8_positiveOf_6 : decode cX8_positiveOf 6 = .ok (.invokevirtual 265, 3) := by decide +kernel
theorem dX8_positiveOf_9 : decode cX8_positiveOf 9 = .ok (.ifCond .eq 21, 3) := by decide +kernel
theorem dX8_positiveOf_12 : decode cX8_positiveOf 12 = .ok (.aload_n 0, 1) := by decide +kernel
theorem dX8_positiveOf_13 : decode cX8_positiveOf 13 = .ok (.iload_n 1, 1) := by decide +kernel
theorem dX8_positiveOf_14 : decode cX8_positiveOf 14 = .ok (.invokevirtual 281, 3) := by decide +kernel
theorem dX8_positiveOf_17 : decode cX8_positiveOf 17 = .ok (.istore_n 2, 1) := by decide +kernel
theorem dX8_positiveOf_18 : decode cX8_positiveOf 18 = .ok (.aload_n 0, 1) := by decide +kernel
theorem dX8_positiveOf_19 : decode cX8_positiveOf 19 = .ok (.dup, 1) := by decide +kernel
theorem dX8_positiveOf_20 : decode cX8_positiveOf 20 = .ok (.getfield 240, 3) := by decide +kernel
theorem dX8_positiveOf_23 : decode cX8_positiveOf 23 = .ok (.iconst 1, 1) := by decide +kernel
theorem dX8_positiveOf_24 : decode cX8_positiveOf 24 = .ok (.iadd, 1) := by decide +kernel
theorem dX8_positiveOf_25 : decode cX8_positiveOf 25 = .ok (.putfield 240, 3) := by decide +kernel
theorem dX8_positiveOf_28 : decode cX8_positiveOf 28 = .ok (.iload_n 2, 1) := by decide +kernel
theorem dX8_positiveOf_29 : decode cX8_positiveOf 29 = .ok (.ireturn, 1) := by decide +kernel
theorem dX8_positiveOf_30 : decode cX8_positiveOf 30 = .ok (.aload_n 0, 1) := by decide +kernel
theorem dX8_positiveOf_31 : decode cX8_positiveOf 31 = .ok (.aload_n 0, 1) := by decide +kernel
theorem dX8_positiveOf_32 : decode cX8_positiveOf 32 = .ok (.getfield 240, 3) := by decide +kernel
theorem dX8_positiveOf_35 : decode cX8_positiveOf 35 = .ok (.invokevirtual 243, 3) := by decide +kernel
theorem dX8_positiveOf_38 : decode cX8_positiveOf 38 = .ok (.istore_n 2, 1) := by decide +kernel
theorem dX8_positiveOf_39 : decode cX8_positiveOf 39 = .ok (.iload_n 2, 1) := by decide +kernel
theorem dX8_positiveOf_40 : decode cX8_positiveOf 40 = .ok (.bipush 8, 2) := by decide +kernel
theorem dX8_positiveOf_42 : decode cX8_positiveOf 42 = .ok (.if_icmp .lt 48, 3) := by decide +kernel
theorem dX8_positiveOf_45 : decode cX8_positiveOf 45 = .ok (.iload_n 2, 1) := by decide +kernel
theorem dX8_positiveOf_46 : decode cX8_positiveOf 46 = .ok (.bipush 11, 2) := by decide +kernel
theorem dX8_positiveOf_48 : decode cX8_positiveOf 48 = .ok (.if_icmp .gt 42, 3) := by decide +kernel
theorem dX8_positiveOf_51 : decode cX8_positiveOf 51 = .ok (.aload_n 0, 1) := by decide +kernel
theorem dX8_positiveOf_52 : decode cX8_positiveOf 52 = .ok (.dup, 1) := by decide +kernel
theorem dX8_positiveOf_53 : decode cX8_positiveOf 53 = .ok (.getfield 240, 3) := by decide +kernel
theorem dX8_positiveOf_56 : decode cX8_positiveOf 56 = .ok (.iconst 1, 1) := by decide +kernel
theorem dX8_positiveOf_57 : decode cX8_positiveOf 57 = .ok (.iadd, 1) := by decide +kernel
theorem dX8_positiveOf_58 : decode cX8_positiveOf 58 = .ok (.putfield 240, 3) := by decide +kernel
theorem dX8_positiveOf_61 : decode cX8_positiveOf 61 = .ok (.iload_n 1, 1) := by decide +kernel
theorem dX8_positiveOf_62 : decode cX8_positiveOf 62 = .ok (.ifCond .eq 26, 3) := by decide +kernel
theorem dX8_positiveOf_65 : decode cX8_positiveOf 65 = .ok (.aload_n 0, 1) := by decide +kernel
theorem dX8_positiveOf_66 : decode cX8_positiveOf 66 = .ok (.getfield 250, 3) := by decide +kernel
theorem dX8_positiveOf_69 : decode cX8_positiveOf 69 = .ok (.ifCond .ne 19, 3) := by decide +kernel
theorem dX8_positiveOf_72 : decode cX8_positiveOf 72 = .ok (.aload_n 0, 1) := by decide +kernel
theorem dX8_positiveOf_73 : decode cX8_positiveOf 73 = .ok (.getfield 62, 3) := by decide +kernel
theorem dX8_positiveOf_76 : decode cX8_positiveOf 76 = .ok (.iload_n 2, 1) := by decide +kernel
theorem dX8_positiveOf_77 : decode cX8_positiveOf 77 = .ok (.bipush 8, 2) := by decide +kernel
theorem dX8_positiveOf_79 : decode cX8_positiveOf 79 = .ok (.isub, 1) := by decide +kernel
theorem dX8_positiveOf_80 : decode cX8_positiveOf 80 = .ok (.baload, 1) := by decide +kernel
theorem dX8_positiveOf_81 : decode cX8_positiveOf 81 = .ok (.ifCond .eq 7, 3) := by decide +kernel
theorem dX8_positiveOf_84 : decode cX8_positiveOf 84 = .ok (.iconst 1, 1) := by decide +kernel
theorem dX8_positiveOf_85 : decode cX8_positiveOf 85 = .ok (.goto 4, 3) := by decide +kernel
theorem dX8_positiveOf_88 : decode cX8_positiveOf 88 = .ok (.iconst 0, 1) := by decide +kernel
theorem dX8_positiveOf_89 : decode cX8_positiveOf 89 = .ok (.ireturn, 1) := by decide +kernel
theorem dX8_positiveOf_90 : decode cX8_positiveOf 90 = .ok (.aload_n 0, 1) := by decide +kernel
theorem dX8_positiveOf_91 : decode cX8_positiveOf 91 = .ok (.iload_n 1, 1) := by decide +kernel
theorem dX8_positiveOf_92 : decode cX8_positiveOf 92 = .ok (.invokevirtual 268, 3) := by decide +kernel
theorem dX8_positiveOf_95 : decode cX8_positiveOf 95 = .ok (.lstore_n 3, 1) := by decide +kernel
theorem dX8_positiveOf_96 : decode cX8_positiveOf 96 = .ok (.aload_n 0, 1) := by decide +kernel
theorem dX8_positiveOf_97 : decode cX8_positiveOf 97 = .ok (.aload_n 0, 1) := by decide +kernel
theorem dX8_positiveOf_98 : decode cX8_positiveOf 98 = .ok (.getfield 240, 3) := by decide +kernel
theorem dX8_positiveOf_101 : decode cX8_positiveOf 101 = .ok (.invokevirtual 243, 3) := by decide +kernel
theorem dX8_positiveOf_104 : decode cX8_positiveOf 104 = .ok (.istore 5, 2) := by decide +kernel
theorem dX8_positiveOf_106 : decode cX8_positiveOf 106 = .ok (.aload_n 0, 1) := by decide +kernel
theorem dX8_positiveOf_107 : decode cX8_positiveOf 107 = .ok (.dup, 1) := by decide +kernel
theorem dX8_positiveOf_108 : decode cX8_positiveOf 108 = .ok (.getfield 240, 3) := by decide +kernel
theorem dX8_positiveOf_111 : decode cX8_positiveOf 111 = .ok (.iconst 1, 1) := by decide +kernel
theorem dX8_positiveOf_112 : decode cX8_positiveOf 112 = .ok (.iadd, 1) := by decide +kernel
theorem dX8_positiveOf_113 : decode cX8_positiveOf 113 = .ok (.putfield 240, 3) := by decide +kernel
theorem dX8_positiveOf_116 : decode cX8_positiveOf 116 = .ok (.aload_n 0, 1) := by decide +kernel
theorem dX8_positiveOf_117 : decode cX8_positiveOf 117 = .ok (.iload_n 1, 1) := by decide +kernel
theorem dX8_positiveOf_118 : decode cX8_positiveOf 118 = .ok (.invokevirtual 268, 3) := by decide +kernel
theorem dX8_positiveOf_121 : decode cX8_positiveOf 121 = .ok (.lstore 6, 2) := by decide +kernel
theorem dX8_positiveOf_123 : decode cX8_positiveOf 123 = .ok (.iload_n 1, 1) := by decide +kernel
theorem dX8_positiveOf_124 : decode cX8_positiveOf 124 = .ok (.ifCond .eq 61, 3) := by decide +kernel
theorem dX8_positiveOf_127 : decode cX8_positiveOf 127 = .ok (.aload_n 0, 1) := by decide +kernel
theorem dX8_positiveOf_128 : decode cX8_positiveOf 128 = .ok (.getfield 250, 3) := by decide +kernel
theorem dX8_positiveOf_131 : decode cX8_positiveOf 131 = .ok (.ifCond .ne 54, 3) := by decide +kernel
theorem dX8_positiveOf_134 : decode cX8_positiveOf 134 = .ok (.iload 5, 2) := by decide +kernel
theorem dX8_positiveOf_136 : decode cX8_positiveOf 136 = .ok (.bipush 60, 2) := by decide +kernel
theorem dX8_positiveOf_138 : decode cX8_positiveOf 138 = .ok (.invokestatic 215, 3) := by decide +kernel
theorem dX8_positiveOf_141 : decode cX8_positiveOf 141 = .ok (.if_icmp .ne 13, 3) := by decide +kernel
theorem dX8_positiveOf_144 : decode cX8_positiveOf 144 = .ok (.lload_n 3, 1) := by decide +kernel
theorem dX8_positiveOf_145 : decode cX8_positiveOf 145 = .ok (.lload 6, 2) := by decide +kernel
theorem dX8_positiveOf_147 : decode cX8_positiveOf 147 = .ok (.lcmp, 1) := by decide +kernel
theorem dX8_positiveOf_148 : decode cX8_positiveOf 148 = .ok (.ifCond .ge 37, 3) := by decide +kernel
theorem dX8_positiveOf_151 : decode cX8_positiveOf 151 = .ok (.goto 30, 3) := by decide +kernel
theorem dX8_positiveOf_154 : decode cX8_positiveOf 154 = .ok (.iload 5, 2) := by decide +kernel
theorem dX8_positiveOf_156 : decode cX8_positiveOf 156 = .ok (.bipush 62, 2) := by decide +kernel
theorem dX8_positiveOf_158 : decode cX8_positiveOf 158 = .ok (.invokestatic 215, 3) := by decide +kernel
theorem dX8_positiveOf_161 : decode cX8_positiveOf 161 = .ok (.if_icmp .ne 13, 3) := by decide +kernel
theorem dX8_positiveOf_164 : decode cX8_positiveOf 164 = .ok (.lload_n 3, 1) := by decide +kernel
theorem dX8_positiveOf_165 : decode cX8_positiveOf 165 = .ok (.lload 6, 2) := by decide +kernel
theorem dX8_positiveOf_167 : decode cX8_positiveOf 167 = .ok (.lcmp, 1) := by decide +kernel
theorem dX8_positiveOf_168 : decode cX8_positiveOf 168 = .ok (.ifCond .le 17, 3) := by decide +kernel
theorem dX8_positiveOf_171 : decode cX8_positiveOf 171 = .ok (.goto 10, 3) := by decide +kernel
theorem dX8_positiveOf_174 : decode cX8_positiveOf 174 = .ok (.lload_n 3, 1) := by decide +kernel
theorem dX8_positiveOf_175 : decode cX8_positiveOf 175 = .ok (.lload 6, 2) := by decide +kernel
theorem dX8_positiveOf_177 : decode cX8_positiveOf 177 = .ok (.lcmp, 1) := by decide +kernel
theorem dX8_positiveOf_178 : decode cX8_positiveOf 178 = .ok (.ifCond .ne 7, 3) := by decide +kernel
theorem dX8_positiveOf_181 : decode cX8_positiveOf 181 = .ok (.iconst 1, 1) := by decide +kernel
theorem dX8_positiveOf_182 : decode cX8_positiveOf 182 = .ok (.goto 4, 3) := by decide +kernel
theorem dX8_positiveOf_185 : decode cX8_positiveOf 185 = .ok (.iconst 0, 1) := by decide +kernel
theorem dX8_positiveOf_186 : decode cX8_positiveOf 186 = .ok (.ireturn, 1) := by decide +kernel
theorem dX8_asks_0 : decode cX8_asks 0 = .ok (.aload_n 0, 1) := by decide +kernel
theorem dX8_asks_1 : decode cX8_asks 1 = .ok (.sipush 400, 3) := by decide +kernel
theorem dX8_asks_4 : decode cX8_asks 4 = .ok (.iload_n 1, 1) := by decide +kernel
theorem dX8_asks_5 : decode cX8_asks 5 = .ok (.imul, 1) := by decide +kernel
theorem dX8_asks_6 : decode cX8_asks 6 = .ok (.putfield 240, 3) := by decide +kernel
theorem dX8_asks_9 : decode cX8_asks 9 = .ok (.aload_n 0, 1) := by decide +kernel
theorem dX8_asks_10 : decode cX8_asks 10 = .ok (.aload_n 0, 1) := by decide +kernel
theorem dX8_asks_11 : decode cX8_asks 11 = .ok (.getfield 240, 3) := by decide +kernel
theorem dX8_asks_14 : decode cX8_asks 14 = .ok (.aload_n 0, 1) := by decide +kernel
theorem dX8_asks_15 : decode cX8_asks 15 = .ok (.getfield 13, 3) := by decide +kernel
theorem dX8_asks_18 : decode cX8_asks 18 = .ok (.sipush 1639, 3) := by decide +kernel
theorem dX8_asks_21 : decode cX8_asks 21 = .ok (.iload_n 1, 1) := by decide +kernel
theorem dX8_asks_22 : decode cX8_asks 22 = .ok (.iadd, 1) := by decide +kernel
theorem dX8_asks_23 : decode cX8_asks 23 = .ok (.iaload, 1) := by decide +kernel
theorem dX8_asks_24 : decode cX8_asks 24 = .ok (.iadd, 1) := by decide +kernel
theorem dX8_asks_25 : decode cX8_asks 25 = .ok (.putfield 237, 3) := by decide +kernel
theorem dX8_asks_28 : decode cX8_asks 28 = .ok (.aload_n 0, 1) := by decide +kernel
theorem dX8_asks_29 : decode cX8_asks 29 = .ok (.iconst 0, 1) := by decide +kernel
theorem dX8_asks_30 : decode cX8_asks 30 = .ok (.putfield 284, 3) := by decide +kernel
theorem dX8_asks_33 : decode cX8_asks 33 = .ok (.aload_n 0, 1) := by decide +kernel
theorem dX8_asks_34 : decode cX8_asks 34 = .ok (.iconst 0, 1) := by decide +kernel
theorem dX8_asks_35 : decode cX8_asks 35 = .ok (.putfield 287, 3) := by decide +kernel
theorem dX8_asks_38 : decode cX8_asks 38 = .ok (.aload_n 0, 1) := by decide +kernel
theorem dX8_asks_39 : decode cX8_asks 39 = .ok (.iconst 0, 1) := by decide +kernel
theorem dX8_asks_40 : decode cX8_asks 40 = .ok (.putfield 290, 3) := by decide +kernel
theorem dX8_asks_43 : decode cX8_asks 43 = .ok (.aload_n 0, 1) := by decide +kernel
theorem dX8_asks_44 : decode cX8_asks 44 = .ok (.getfield 240, 3) := by decide +kernel
theorem dX8_asks_47 : decode cX8_asks 47 = .ok (.aload_n 0, 1) := by decide +kernel
theorem dX8_asks_48 : decode cX8_asks 48 = .ok (.getfield 237, 3) := by decide +kernel
theorem dX8_asks_51 : decode cX8_asks 51 = .ok (.if_icmp .ge 204, 3) := by decide +kernel
theorem dX8_asks_54 : decode cX8_asks 54 = .ok (.aload_n 0, 1) := by decide +kernel
theorem dX8_asks_55 : decode cX8_asks 55 = .ok (.iconst 0, 1) := by decide +kernel
theorem dX8_asks_56 : decode cX8_asks 56 = .ok (.putfield 250, 3) := by decide +kernel
theorem dX8_asks_59 : decode cX8_asks 59 = .ok (.aload_n 0, 1) := by decide +kernel
theorem dX8_asks_60 : decode cX8_asks 60 = .ok (.aload_n 0, 1) := by decide +kernel
theorem dX8_asks_61 : decode cX8_asks 61 = .ok (.getfield 240, 3) := by decide +kernel
theorem dX8_asks_64 : decode cX8_asks 64 = .ok (.invokevirtual 243, 3) := by decide +kernel
theorem dX8_asks_67 : decode cX8_asks 67 = .ok (.istore_n 2, 1) := by decide +kernel
theorem dX8_asks_68 : decode cX8_asks 68 = .ok (.aload_n 0, 1) := by decide +kernel
theorem dX8_asks_69 : decode cX8_asks 69 = .ok (.dup, 1) := by decide +kernel
theorem dX8_asks_70 : decode cX8_asks 70 = .ok (.getfield 240, 3) := by decide +kernel
theorem dX8_asks_73 : decode cX8_asks 73 = .ok (.iconst 1, 1) := by decide +kernel
theorem dX8_asks_74 : decode cX8_asks 74 = .ok (.iadd, 1) := by decide +kernel
theorem dX8_asks_75 : decode cX8_asks 75 = .ok (.putfield 240, 3) := by decide +kernel
theorem dX8_asks_78 : decode cX8_asks 78 = .ok (.iload_n 2, 1) := by decide +kernel
theorem dX8_asks_79 : decode cX8_asks 79 = .ok (.iconst 3, 1) := by decide +kernel
theorem dX8_asks_80 : decode cX8_asks 80 = .ok (.if_icmp .ne 7, 3) := by decide +kernel
theorem dX8_asks_83 : decode cX8_asks 83 = .ok (.lconst 0, 1) := by decide +kernel
theorem dX8_asks_84 : decode cX8_asks 84 = .ok (.goto 8, 3) := by decide +kernel
theorem dX8_asks_87 : decode cX8_asks 87 = .ok (.aload_n 0, 1) := by decide +kernel
theorem dX8_asks_88 : decode cX8_asks 88 = .ok (.iconst 1, 1) := by decide +kernel
theorem dX8_asks_89 : decode cX8_asks 89 = .ok (.invokevirtual 268, 3) := by decide +kernel
theorem dX8_asks_92 : decode cX8_asks 92 = .ok (.lstore_n 3, 1) := by decide +kernel
theorem dX8_asks_93 : decode cX8_asks 93 = .ok (.aload_n 0, 1) := by decide +kernel
theorem dX8_asks_94 : decode cX8_asks 94 = .ok (.getfield 250, 3) := by decide +kernel
theorem dX8_asks_97 : decode cX8_asks 97 = .ok (.istore 5, 2) := by decide +kernel
theorem dX8_asks_99 : decode cX8_asks 99 = .ok (.aload_n 0, 1) := by decide +kernel
theorem dX8_asks_100 : decode cX8_asks 100 = .ok (.iconst 0, 1) := by decide +kernel
theorem dX8_asks_101 : decode cX8_asks 101 = .ok (.putfield 250, 3) := by decide +kernel
theorem dX8_asks_104 : decode cX8_asks 104 = .ok (.aload_n 0, 1) := by decide +kernel
theorem dX8_asks_105 : decode cX8_asks 105 = .ok (.iconst 4, 1) := by decide +kernel
theorem dX8_asks_106 : decode cX8_asks 106 = .ok (.invokevirtual 265, 3) := by decide +kernel
theorem dX8_asks_109 : decode cX8_asks 109 = .ok (.ifCond .eq 11, 3) := by decide +kernel
theorem dX8_asks_112 : decode cX8_asks 112 = .ok (.aload_n 0, 1) := by decide +kernel
theorem dX8_asks_113 : decode cX8_asks 113 = .ok (.iconst 1, 1) := by decide +kernel
theorem dX8_asks_114 : decode cX8_asks 114 = .ok (.invokevirtual 281, 3) := by decide +kernel
theorem dX8_asks_117 : decode cX8_asks 117 = .ok (.ifCond .eq 7, 3) := by decide +kernel
theorem dX8_asks_120 : decode cX8_asks 120 = .ok (.iconst 1, 1) := by decide +kernel
theorem dX8_asks_121 : decode cX8_asks 121 = .ok (.goto 4, 3) := by decide +kernel
theorem dX8_asks_124 : decode cX8_asks 124 = .ok (.iconst 0, 1) := by decide +kernel
theorem dX8_asks_125 : decode cX8_asks 125 = .ok (.istore 6, 2) := by decide +kernel
theorem dX8_asks_127 : decode cX8_asks 127 = .ok (.iload 6, 2) := by decide +kernel
theorem dX8_asks_129 : decode cX8_asks 129 = .ok (.ifCond .eq 19, 3) := by decide +kernel
theorem dX8_asks_132 : decode cX8_asks 132 = .ok (.aload_n 0, 1) := by decide +kernel
theorem dX8_asks_133 : decode cX8_asks 133 = .ok (.getfield 250, 3) := by decide +kernel
theorem dX8_asks_136 : decode cX8_asks 136 = .ok (.ifCond .ne 12, 3) := by decide +kernel
theorem dX8_asks_139 : decode cX8_asks 139 = .ok (.iload 5, 2) := by decide +kernel
theorem dX8_asks_141 : decode cX8_asks 141 = .ok (.ifCond .ne 7, 3) := by decide +kernel
theorem dX8_asks_144 : decode cX8_asks 144 = .ok (.iconst 1, 1) := by decide +kernel
theorem dX8_asks_145 : decode cX8_asks 145 = .ok (.goto 4, 3) := by decide +kernel
theorem dX8_asks_148 : decode cX8_asks 148 = .ok (.iconst 0, 1) := by decide +kernel
theorem dX8_asks_149 : decode cX8_asks 149 = .ok (.istore 6, 2) := by decide +kernel
theorem dX8_asks_151 : decode cX8_asks 151 = .ok (.aload_n 0, 1) := by decide +kernel
theorem dX8_asks_152 : decode cX8_asks 152 = .ok (.dup, 1) := by decide +kernel
theorem dX8_asks_153 : decode cX8_asks 153 = .ok (.getfield 240, 3) := by decide +kernel
theorem dX8_asks_156 : decode cX8_asks 156 = .ok (.iconst 1, 1) := by decide +kernel
theorem dX8_asks_157 : decode cX8_asks 157 = .ok (.iadd, 1) := by decide +kernel
theorem dX8_asks_158 : decode cX8_asks 158 = .ok (.putfield 240, 3) := by decide +kernel
theorem dX8_asks_161 : decode cX8_asks 161 = .ok (.iload 6, 2) := by decide +kernel
theorem dX8_asks_163 : decode cX8_asks 163 = .ok (.ifCond .ne 6, 3) := by decide +kernel
theorem dX8_asks_166 : decode cX8_asks 166 = .ok (.goto (-123), 3) := by decide +kernel
theorem dX8_asks_169 : decode cX8_asks 169 = .ok (.iload_n 2, 1) := by decide +kernel
theorem dX8_asks_170 : decode cX8_asks 170 = .ok (.iconst 1, 1) := by decide +kernel
theorem dX8_asks_171 : decode cX8_asks 171 = .ok (.if_icmp .ne 8, 3) := by decide +kernel
theorem dX8_asks_174 : decode cX8_asks 174 = .ok (.aload_n 0, 1) := by decide +kernel
theorem dX8_asks_175 : decode cX8_asks 175 = .ok (.lload_n 3, 1) := by decide +kernel
theorem dX8_asks_176 : decode cX8_asks 176 = .ok (.putfield 293, 3) := by decide +kernel
theorem dX8_asks_179 : decode cX8_asks 179 = .ok (.iload_n 2, 1) := by decide +kernel
theorem dX8_asks_180 : decode cX8_asks 180 = .ok (.iconst 2, 1) := by decide +kernel
theorem dX8_asks_181 : decode cX8_asks 181 = .ok (.if_icmp .ne 8, 3) := by decide +kernel
theorem dX8_asks_184 : decode cX8_asks 184 = .ok (.aload_n 0, 1) := by decide +kernel
theorem dX8_asks_185 : decode cX8_asks 185 = .ok (.lload_n 3, 1) := by decide +kernel
theorem dX8_asks_186 : decode cX8_asks 186 = .ok (.putfield 296, 3) := by decide +kernel
theorem dX8_asks_189 : decode cX8_asks 189 = .ok (.aload_n 0, 1) := by decide +kernel
theorem dX8_asks_190 : decode cX8_asks 190 = .ok (.aload_n 0, 1) := by decide +kernel
theorem dX8_asks_191 : decode cX8_asks 191 = .ok (.getfield 284, 3) := by decide +kernel
theorem dX8_asks_194 : decode cX8_asks 194 = .ok (.ifCond .ne 8, 3) := by decide +kernel
theorem dX8_asks_197 : decode cX8_asks 197 = .ok (.iload_n 2, 1) := by decide +kernel
theorem dX8_asks_198 : decode cX8_asks 198 = .ok (.iconst 1, 1) := by decide +kernel
theorem dX8_asks_199 : decode cX8_asks 199 = .ok (.if_icmp .ne 7, 3) := by decide +kernel
theorem dX8_asks_202 : decode cX8_asks 202 = .ok (.iconst 1, 1) := by decide +kernel
theorem dX8_asks_203 : decode cX8_asks 203 = .ok (.goto 4, 3) := by decide +kernel
theorem dX8_asks_206 : decode cX8_asks 206 = .ok (.iconst 0, 1) := by decide +kernel
theorem dX8_asks_207 : decode cX8_asks 207 = .ok (.putfield 284, 3) := by decide +kernel
theorem dX8_asks_210 : decode cX8_asks 210 = .ok (.aload_n 0, 1) := by decide +kernel
theorem dX8_asks_211 : decode cX8_asks 211 = .ok (.aload_n 0, 1) := by decide +kernel
theorem dX8_asks_212 : decode cX8_asks 212 = .ok (.getfield 287, 3) := by decide +kernel
theorem dX8_asks_215 : decode cX8_asks 215 = .ok (.ifCond .ne 8, 3) := by decide +kernel
theorem dX8_asks_218 : decode cX8_asks 218 = .ok (.iload_n 2, 1) := by decide +kernel
theorem dX8_asks_219 : decode cX8_asks 219 = .ok (.iconst 2, 1) := by decide +kernel
theorem dX8_asks_220 : decode cX8_asks 220 = .ok (.if_icmp .ne 7, 3) := by decide +kernel
theorem dX8_asks_223 : decode cX8_asks 223 = .ok (.iconst 1, 1) := by decide +kernel
theorem dX8_asks_224 : decode cX8_asks 224 = .ok (.goto 4, 3) := by decide +kernel
theorem dX8_asks_227 : decode cX8_asks 227 = .ok (.iconst 0, 1) := by decide +kernel
theorem dX8_asks_228 : decode cX8_asks 228 = .ok (.putfield 287, 3) := by decide +kernel
theorem dX8_asks_231 : decode cX8_asks 231 = .ok (.aload_n 0, 1) := by decide +kernel
theorem dX8_asks_232 : decode cX8_asks 232 = .ok (.aload_n 0, 1) := by decide +kernel
theorem dX8_asks_233 : decode cX8_asks 233 = .ok (.getfield 290, 3) := by decide +kernel
theorem dX8_asks_236 : decode cX8_asks 236 = .ok (.ifCond .ne 8, 3) := by decide +kernel
theorem dX8_asks_239 : decode cX8_asks 239 = .ok (.iload_n 2, 1) := by decide +kernel
theorem dX8_asks_240 : decode cX8_asks 240 = .ok (.iconst 3, 1) := by decide +kernel
theorem dX8_asks_241 : decode cX8_asks 241 = .ok (.if_icmp .ne 7, 3) := by decide +kernel
theorem dX8_asks_244 : decode cX8_asks 244 = .ok (.iconst 1, 1) := by decide +kernel
theorem dX8_asks_245 : decode cX8_asks 245 = .ok (.goto 4, 3) := by decide +kernel
theorem dX8_asks_248 : decode cX8_asks 248 = .ok (.iconst 0, 1) := by decide +kernel
theorem dX8_asks_249 : decode cX8_asks 249 = .ok (.putfield 290, 3) := by decide +kernel
theorem dX8_asks_252 : decode cX8_asks 252 = .ok (.goto (-209), 3) := by decide +kernel
theorem dX8_asks_255 : decode cX8_asks 255 = .ok (.return_, 1) := by decide +kernel
theorem dX8_asksJoint_0 : decode cX8_asksJoint 0 = .ok (.aload_n 0, 1) := by decide +kernel
theorem dX8_asksJoint_1 : decode cX8_asksJoint 1 = .ok (.invokevirtual 141, 3) := by decide +kernel
theorem dX8_asksJoint_4 : decode cX8_asksJoint 4 = .ok (.aload_n 0, 1) := by decide +kernel
theorem dX8_asksJoint_5 : decode cX8_asksJoint 5 = .ok (.iload_n 3, 1) := by decide +kernel
theorem dX8_asksJoint_6 : decode cX8_asksJoint 6 = .ok (.iconst 1, 1) := by decide +kernel
theorem dX8_asksJoint_7 : decode cX8_asksJoint 7 = .ok (.iload_n 1, 1) := by decide +kernel
theorem dX8_asksJoint_8 : decode cX8_asksJoint 8 = .ok (.bipush 8, 2) := by decide +kernel
theorem dX8_asksJoint_10 : decode cX8_asksJoint 10 = .ok (.idiv, 1) := by decide +kernel
theorem dX8_asksJoint_11 : decode cX8_asksJoint 11 = .ok (.invokevirtual 144, 3) := by decide +kernel
theorem dX8_asksJoint_14 : decode cX8_asksJoint 14 = .ok (.pop, 1) := by decide +kernel
theorem dX8_asksJoint_15 : decode cX8_asksJoint 15 = .ok (.aload_n 0, 1) := by decide +kernel
theorem dX8_asksJoint_16 : decode cX8_asksJoint 16 = .ok (.iload_n 1, 1) := by decide +kernel
theorem dX8_asksJoint_17 : decode cX8_asksJoint 17 = .ok (.iconst 0, 1) := by decide +kernel
theorem dX8_asksJoint_18 : decode cX8_asksJoint 18 = .ok (.invokevirtual 147, 3) := by decide +kernel
theorem dX8_asksJoint_21 : decode cX8_asksJoint 21 = .ok (.iconst 0, 1) := by decide +kernel
theorem dX8_asksJoint_22 : decode cX8_asksJoint 22 = .ok (.istore 4, 2) := by decide +kernel
theorem dX8_asksJoint_24 : decode cX8_asksJoint 24 = .ok (.iload 4, 2) := by decide +kernel
theorem dX8_asksJoint_26 : decode cX8_asksJoint 26 = .ok (.bipush 10, 2) := by decide +kernel
theorem dX8_asksJoint_28 : decode cX8_asksJoint 28 = .ok (.if_icmp .ge 17, 3) := by decide +kernel
theorem dX8_asksJoint_31 : decode cX8_asksJoint 31 = .ok (.aload_n 0, 1) := by decide +kernel
theorem dX8_asksJoint_32 : decode cX8_asksJoint 32 = .ok (.getfield 59, 3) := by decide +kernel
theorem dX8_asksJoint_35 : decode cX8_asksJoint 35 = .ok (.iload 4, 2) := by decide +kernel
theorem dX8_asksJoint_37 : decode cX8_asksJoint 37 = .ok (.lconst 0, 1) := by decide +kernel
theorem dX8_asksJoint_38 : decode cX8_asksJoint 38 = .ok (.lastore, 1) := by decide +kernel
theorem dX8_asksJoint_39 : decode cX8_asksJoint 39 = .ok (.iinc 4 1, 3) := by decide +kernel
theorem dX8_asksJoint_42 : decode cX8_asksJoint 42 = .ok (.goto (-18), 3) := by decide +kernel
theorem dX8_asksJoint_45 : decode cX8_asksJoint 45 = .ok (.aload_n 0, 1) := by decide +kernel
theorem dX8_asksJoint_46 : decode cX8_asksJoint 46 = .ok (.getfield 59, 3) := by decide +kernel
theorem dX8_asksJoint_49 : decode cX8_asksJoint 49 = .ok (.iconst 0, 1) := by decide +kernel
theorem dX8_asksJoint_50 : decode cX8_asksJoint 50 = .ok (.aload_n 0, 1) := by decide +kernel
theorem dX8_asksJoint_51 : decode cX8_asksJoint 51 = .ok (.getfield 133, 3) := by decide +kernel
theorem dX8_asksJoint_54 : decode cX8_asksJoint 54 = .ok (.aload_n 0, 1) := by decide +kernel
theorem dX8_asksJoint_55 : decode cX8_asksJoint 55 = .ok (.getfield 128, 3) := by decide +kernel
theorem dX8_asksJoint_58 : decode cX8_asksJoint 58 = .ok (.ldiv, 1) := by decide +kernel
theorem dX8_asksJoint_59 : decode cX8_asksJoint 59 = .ok (.lastore, 1) := by decide +kernel
theorem dX8_asksJoint_60 : decode cX8_asksJoint 60 = .ok (.aload_n 0, 1) := by decide +kernel
theorem dX8_asksJoint_61 : decode cX8_asksJoint 61 = .ok (.getfield 59, 3) := by decide +kernel
theorem dX8_asksJoint_64 : decode cX8_asksJoint 64 = .ok (.iconst 1, 1) := by decide +kernel
theorem dX8_asksJoint_65 : decode cX8_asksJoint 65 = .ok (.aload_n 0, 1) := by decide +kernel
theorem dX8_asksJoint_66 : decode cX8_asksJoint 66 = .ok (.getfield 13, 3) := by decide +kernel
theorem dX8_asksJoint_69 : decode cX8_asksJoint 69 = .ok (.sipush 150, 3) := by decide +kernel
theorem dX8_asksJoint_72 : decode cX8_asksJoint 72 = .ok (.iload_n 1, 1) := by decide +kernel
theorem dX8_asksJoint_73 : decode cX8_asksJoint 73 = .ok (.bipush 8, 2) := by decide +kernel
theorem dX8_asksJoint_75 : decode cX8_asksJoint 75 = .ok (.idiv, 1) := by decide +kernel
theorem dX8_asksJoint_76 : decode cX8_asksJoint 76 = .ok (.iadd, 1) := by decide +kernel
theorem dX8_asksJoint_77 : decode cX8_asksJoint 77 = .ok (.iaload, 1) := by decide +kernel
theorem dX8_asksJoint_78 : decode cX8_asksJoint 78 = .ok (.i2l, 1) := by decide +kernel
theorem dX8_asksJoint_79 : decode cX8_asksJoint 79 = .ok (.lastore, 1) := by decide +kernel
theorem dX8_asksJoint_80 : decode cX8_asksJoint 80 = .ok (.aload_n 0, 1) := by decide +kernel
theorem dX8_asksJoint_81 : decode cX8_asksJoint 81 = .ok (.getfield 59, 3) := by decide +kernel
theorem dX8_asksJoint_84 : decode cX8_asksJoint 84 = .ok (.iconst 2, 1) := by decide +kernel
theorem dX8_asksJoint_85 : decode cX8_asksJoint 85 = .ok (.iload_n 1, 1) := by decide +kernel
theorem dX8_asksJoint_86 : decode cX8_asksJoint 86 = .ok (.bipush 8, 2) := by decide +kernel
theorem dX8_asksJoint_88 : decode cX8_asksJoint 88 = .ok (.idiv, 1) := by decide +kernel
theorem dX8_asksJoint_89 : decode cX8_asksJoint 89 = .ok (.i2l, 1) := by decide +kernel
theorem dX8_asksJoint_90 : decode cX8_asksJoint 90 = .ok (.lastore, 1) := by decide +kernel
theorem dX8_asksJoint_91 : decode cX8_asksJoint 91 = .ok (.aload_n 0, 1) := by decide +kernel
theorem dX8_asksJoint_92 : decode cX8_asksJoint 92 = .ok (.getfield 59, 3) := by decide +kernel
theorem dX8_asksJoint_95 : decode cX8_asksJoint 95 = .ok (.iconst 3, 1) := by decide +kernel
theorem dX8_asksJoint_96 : decode cX8_asksJoint 96 = .ok (.iload_n 1, 1) := by decide +kernel
theorem dX8_asksJoint_97 : decode cX8_asksJoint 97 = .ok (.iconst 2, 1) := by decide +kernel
theorem dX8_asksJoint_98 : decode cX8_asksJoint 98 = .ok (.idiv, 1) := by decide +kernel
theorem dX8_asksJoint_99 : decode cX8_asksJoint 99 = .ok (.iconst 4, 1) := by decide +kernel
theorem dX8_asksJoint_100 : decode cX8_asksJoint 100 = .ok (.irem, 1) := by decide +kernel
theorem dX8_asksJoint_101 : decode cX8_asksJoint 101 = .ok (.i2l, 1) := by decide +kernel
theorem dX8_asksJoint_102 : decode cX8_asksJoint 102 = .ok (.lastore, 1) := by decide +kernel
theorem dX8_asksJoint_103 : decode cX8_asksJoint 103 = .ok (.aload_n 0, 1) := by decide +kernel
theorem dX8_asksJoint_104 : decode cX8_asksJoint 104 = .ok (.getfield 59, 3) := by decide +kernel
theorem dX8_asksJoint_107 : decode cX8_asksJoint 107 = .ok (.iconst 4, 1) := by decide +kernel
theorem dX8_asksJoint_108 : decode cX8_asksJoint 108 = .ok (.iload_n 2, 1) := by decide +kernel
theorem dX8_asksJoint_109 : decode cX8_asksJoint 109 = .ok (.i2l, 1) := by decide +kernel
theorem dX8_asksJoint_110 : decode cX8_asksJoint 110 = .ok (.lastore, 1) := by decide +kernel
theorem dX8_asksJoint_111 : decode cX8_asksJoint 111 = .ok (.aload_n 0, 1) := by decide +kernel
theorem dX8_asksJoint_112 : decode cX8_asksJoint 112 = .ok (.getfield 59, 3) := by decide +kernel
theorem dX8_asksJoint_115 : decode cX8_asksJoint 115 = .ok (.iconst 5, 1) := by decide +kernel
theorem dX8_asksJoint_116 : decode cX8_asksJoint 116 = .ok (.aload_n 0, 1) := by decide +kernel
theorem dX8_asksJoint_117 : decode cX8_asksJoint 117 = .ok (.iload_n 1, 1) := by decide +kernel
theorem dX8_asksJoint_118 : decode cX8_asksJoint 118 = .ok (.invokevirtual 103, 3) := by decide +kernel
theorem dX8_asksJoint_121 : decode cX8_asksJoint 121 = .ok (.i2l, 1) := by decide +kernel
theorem dX8_asksJoint_122 : decode cX8_asksJoint 122 = .ok (.lastore, 1) := by decide +kernel
theorem dX8_asksJoint_123 : decode cX8_asksJoint 123 = .ok (.aload_n 0, 1) := by decide +kernel
theorem dX8_asksJoint_124 : decode cX8_asksJoint 124 = .ok (.getfield 59, 3) := by decide +kernel
theorem dX8_asksJoint_127 : decode cX8_asksJoint 127 = .ok (.bipush 6, 2) := by decide +kernel
theorem dX8_asksJoint_129 : decode cX8_asksJoint 129 = .ok (.aload_n 0, 1) := by decide +kernel
theorem dX8_asksJoint_130 : decode cX8_asksJoint 130 = .ok (.iconst 3, 1) := by decide +kernel
theorem dX8_asksJoint_131 : decode cX8_asksJoint 131 = .ok (.invokevirtual 99, 3) := by decide +kernel
theorem dX8_asksJoint_134 : decode cX8_asksJoint 134 = .ok (.i2l, 1) := by decide +kernel
theorem dX8_asksJoint_135 : decode cX8_asksJoint 135 = .ok (.lastore, 1) := by decide +kernel
theorem dX8_asksJoint_136 : decode cX8_asksJoint 136 = .ok (.aload_n 0, 1) := by decide +kernel
theorem dX8_asksJoint_137 : decode cX8_asksJoint 137 = .ok (.getfield 62, 3) := by decide +kernel
theorem dX8_asksJoint_140 : decode cX8_asksJoint 140 = .ok (.iconst 0, 1) := by decide +kernel
theorem dX8_asksJoint_141 : decode cX8_asksJoint 141 = .ok (.aload_n 0, 1) := by decide +kernel
theorem dX8_asksJoint_142 : decode cX8_asksJoint 142 = .ok (.getfield 13, 3) := by decide +kernel
theorem dX8_asksJoint_145 : decode cX8_asksJoint 145 = .ok (.bipush 48, 2) := by decide +kernel
theorem dX8_asksJoint_147 : decode cX8_asksJoint 147 = .ok (.iload_n 1, 1) := by decide +kernel
theorem dX8_asksJoint_148 : decode cX8_asksJoint 148 = .ok (.iadd, 1) := by decide +kernel
theorem dX8_asksJoint_149 : decode cX8_asksJoint 149 = .ok (.iaload, 1) := by decide +kernel
theorem dX8_asksJoint_150 : decode cX8_asksJoint 150 = .ok (.ifCond .ne 7, 3) := by decide +kernel
theorem dX8_asksJoint_153 : decode cX8_asksJoint 153 = .ok (.iconst 1, 1) := by decide +kernel
theorem dX8_asksJoint_154 : decode cX8_asksJoint 154 = .ok (.goto 4, 3) := by decide +kernel
theorem dX8_asksJoint_157 : decode cX8_asksJoint 157 = .ok (.iconst 0, 1) := by decide +kernel
theorem dX8_asksJoint_158 : decode cX8_asksJoint 158 = .ok (.bastore, 1) := by decide +kernel
theorem dX8_asksJoint_159 : decode cX8_asksJoint 159 = .ok (.aload_n 0, 1) := by decide +kernel
theorem dX8_asksJoint_160 : decode cX8_asksJoint 160 = .ok (.getfield 62, 3) := by decide +kernel
theorem dX8_asksJoint_163 : decode cX8_asksJoint 163 = .ok (.iconst 1, 1) := by decide +kernel
theorem dX8_asksJoint_164 : decode cX8_asksJoint 164 = .ok (.aload_n 0, 1) := by decide +kernel
theorem dX8_asksJoint_165 : decode cX8_asksJoint 165 = .ok (.getfield 13, 3) := by decide +kernel
theorem dX8_asksJoint_168 : decode cX8_asksJoint 168 = .ok (.bipush 48, 2) := by decide +kernel
theorem dX8_asksJoint_170 : decode cX8_asksJoint 170 = .ok (.iload_n 1, 1) := by decide +kernel
theorem dX8_asksJoint_171 : decode cX8_asksJoint 171 = .ok (.iadd, 1) := by decide +kernel
theorem dX8_asksJoint_172 : decode cX8_asksJoint 172 = .ok (.iaload, 1) := by decide +kernel
theorem dX8_asksJoint_173 : decode cX8_asksJoint 173 = .ok (.iconst 1, 1) := by decide +kernel
theorem dX8_asksJoint_174 : decode cX8_asksJoint 174 = .ok (.if_icmp .ne 7, 3) := by decide +kernel
theorem dX8_asksJoint_177 : decode cX8_asksJoint 177 = .ok (.iconst 1, 1) := by decide +kernel
theorem dX8_asksJoint_178 : decode cX8_asksJoint 178 = .ok (.goto 4, 3) := by decide +kernel
theorem dX8_asksJoint_181 : decode cX8_asksJoint 181 = .ok (.iconst 0, 1) := by decide +kernel
theorem dX8_asksJoint_182 : decode cX8_asksJoint 182 = .ok (.bastore, 1) := by decide +kernel
theorem dX8_asksJoint_183 : decode cX8_asksJoint 183 = .ok (.aload_n 0, 1) := by decide +kernel
theorem dX8_asksJoint_184 : decode cX8_asksJoint 184 = .ok (.getfield 62, 3) := by decide +kernel
theorem dX8_asksJoint_187 : decode cX8_asksJoint 187 = .ok (.iconst 2, 1) := by decide +kernel
theorem dX8_asksJoint_188 : decode cX8_asksJoint 188 = .ok (.aload_n 0, 1) := by decide +kernel
theorem dX8_asksJoint_189 : decode cX8_asksJoint 189 = .ok (.getfield 13, 3) := by decide +kernel
theorem dX8_asksJoint_192 : decode cX8_asksJoint 192 = .ok (.bipush 48, 2) := by decide +kernel
theorem dX8_asksJoint_194 : decode cX8_asksJoint 194 = .ok (.iload_n 1, 1) := by decide +kernel
theorem dX8_asksJoint_195 : decode cX8_asksJoint 195 = .ok (.iadd, 1) := by decide +kernel
theorem dX8_asksJoint_196 : decode cX8_asksJoint 196 = .ok (.iaload, 1) := by decide +kernel
theorem dX8_asksJoint_197 : decode cX8_asksJoint 197 = .ok (.iconst 1, 1) := by decide +kernel
theorem dX8_asksJoint_198 : decode cX8_asksJoint 198 = .ok (.if_icmp .ne 19, 3) := by decide +kernel
theorem dX8_asksJoint_201 : decode cX8_asksJoint 201 = .ok (.aload_n 0, 1) := by decide +kernel
theorem dX8_asksJoint_202 : decode cX8_asksJoint 202 = .ok (.getfield 13, 3) := by decide +kernel
theorem dX8_asksJoint_205 : decode cX8_asksJoint 205 = .ok (.bipush 96, 2) := by decide +kernel
theorem dX8_asksJoint_207 : decode cX8_asksJoint 207 = .ok (.iload_n 1, 1) := by decide +kernel
theorem dX8_asksJoint_208 : decode cX8_asksJoint 208 = .ok (.iadd, 1) := by decide +kernel
theorem dX8_asksJoint_209 : decode cX8_asksJoint 209 = .ok (.iaload, 1) := by decide +kernel
theorem dX8_asksJoint_210 : decode cX8_asksJoint 210 = .ok (.ifCond .le 7, 3) := by decide +kernel
theorem dX8_asksJoint_213 : decode cX8_asksJoint 213 = .ok (.iconst 1, 1) := by decide +kernel
theorem dX8_asksJoint_214 : decode cX8_asksJoint 214 = .ok (.goto 4, 3) := by decide +kernel
theorem dX8_asksJoint_217 : decode cX8_asksJoint 217 = .ok (.iconst 0, 1) := by decide +kernel
theorem dX8_asksJoint_218 : decode cX8_asksJoint 218 = .ok (.bastore, 1) := by decide +kernel
theorem dX8_asksJoint_219 : decode cX8_asksJoint 219 = .ok (.aload_n 0, 1) := by decide +kernel
theorem dX8_asksJoint_220 : decode cX8_asksJoint 220 = .ok (.getfield 62, 3) := by decide +kernel
theorem dX8_asksJoint_223 : decode cX8_asksJoint 223 = .ok (.iconst 3, 1) := by decide +kernel
theorem dX8_asksJoint_224 : decode cX8_asksJoint 224 = .ok (.aload_n 0, 1) := by decide +kernel
theorem dX8_asksJoint_225 : decode cX8_asksJoint 225 = .ok (.iload_n 3, 1) := by decide +kernel
theorem dX8_asksJoint_226 : decode cX8_asksJoint 226 = .ok (.iconst 0, 1) := by decide +kernel
theorem dX8_asksJoint_227 : decode cX8_asksJoint 227 = .ok (.invokevirtual 109, 3) := by decide +kernel
theorem dX8_asksJoint_230 : decode cX8_asksJoint 230 = .ok (.iconst 2, 1) := by decide +kernel
theorem dX8_asksJoint_231 : decode cX8_asksJoint 231 = .ok (.irem, 1) := by decide +kernel
theorem dX8_asksJoint_232 : decode cX8_asksJoint 232 = .ok (.ifCond .ne 7, 3) := by decide +kernel
theorem dX8_asksJoint_235 : decode cX8_asksJoint 235 = .ok (.iconst 1, 1) := by decide +kernel
theorem dX8_asksJoint_236 : decode cX8_asksJoint 236 = .ok (.goto 4, 3) := by decide +kernel
theorem dX8_asksJoint_239 : decode cX8_asksJoint 239 = .ok (.iconst 0, 1) := by decide +kernel
theorem dX8_asksJoint_240 : decode cX8_asksJoint 240 = .ok (.bastore, 1) := by decide +kernel
theorem dX8_asksJoint_241 : decode cX8_asksJoint 241 = .ok (.return_, 1) := by decide +kernel
theorem dX8_needOf_0 : decode cX8_needOf 0 = .ok (.lconst 0, 1) := by decide +kernel
theorem dX8_needOf_1 : decode cX8_needOf 1 = .ok (.lstore 4, 2) := by decide +kernel
theorem dX8_needOf_3 : decode cX8_needOf 3 = .ok (.iconst 0, 1) := by decide +kernel
theorem dX8_needOf_4 : decode cX8_needOf 4 = .ok (.istore 6, 2) := by decide +kernel
theorem dX8_needOf_6 : decode cX8_needOf 6 = .ok (.iload 6, 2) := by decide +kernel
theorem dX8_needOf_8 : decode cX8_needOf 8 = .ok (.aload_n 0, 1) := by decide +kernel
theorem dX8_needOf_9 : decode cX8_needOf 9 = .ok (.getfield 13, 3) := by decide +kernel
theorem dX8_needOf_12 : decode cX8_needOf 12 = .ok (.sipush 1633, 3) := by decide +kernel
theorem dX8_needOf_15 : decode cX8_needOf 15 = .ok (.iaload, 1) := by decide +kernel
theorem dX8_needOf_16 : decode cX8_needOf 16 = .ok (.if_icmp .ge 64, 3) := by decide +kernel
theorem dX8_needOf_19 : decode cX8_needOf 19 = .ok (.aload_n 0, 1) := by decide +kernel
theorem dX8_needOf_20 : decode cX8_needOf 20 = .ok (.iload_n 2, 1) := by decide +kernel
theorem dX8_needOf_21 : decode cX8_needOf 21 = .ok (.iload_n 3, 1) := by decide +kernel
theorem dX8_needOf_22 : decode cX8_needOf 22 = .ok (.iload 6, 2) := by decide +kernel
theorem dX8_needOf_24 : decode cX8_needOf 24 = .ok (.invokevirtual 299, 3) := by decide +kernel
theorem dX8_needOf_27 : decode cX8_needOf 27 = .ok (.aload_n 0, 1) := by decide +kernel
theorem dX8_needOf_28 : decode cX8_needOf 28 = .ok (.iload_n 1, 1) := by decide +kernel
theorem dX8_needOf_29 : decode cX8_needOf 29 = .ok (.invokevirtual 303, 3) := by decide +kernel
theorem dX8_needOf_32 : decode cX8_needOf 32 = .ok (.aload_n 0, 1) := by decide +kernel
theorem dX8_needOf_33 : decode cX8_needOf 33 = .ok (.iload 6, 2) := by decide +kernel
theorem dX8_needOf_35 : decode cX8_needOf 35 = .ok (.iconst 0, 1) := by decide +kernel
theorem dX8_needOf_36 : decode cX8_needOf 36 = .ok (.invokevirtual 109, 3) := by decide +kernel
theorem dX8_needOf_39 : decode cX8_needOf 39 = .ok (.iconst 2, 1) := by decide +kernel
theorem dX8_needOf_40 : decode cX8_needOf 40 = .ok (.irem, 1) := by decide +kernel
theorem dX8_needOf_41 : decode cX8_needOf 41 = .ok (.ifCond .eq 10, 3) := by decide +kernel
theorem dX8_needOf_44 : decode cX8_needOf 44 = .ok (.aload_n 0, 1) := by decide +kernel
theorem dX8_needOf_45 : decode cX8_needOf 45 = .ok (.getfield 290, 3) := by decide +kernel
theorem dX8_needOf_48 : decode cX8_needOf 48 = .ok (.ifCond .eq 26, 3) := by decide +kernel
theorem dX8_needOf_51 : decode cX8_needOf 51 = .ok (.aload_n 0, 1) := by decide +kernel
theorem dX8_needOf_52 : decode cX8_needOf 52 = .ok (.getfield 284, 3) := by decide +kernel
theorem dX8_needOf_55 : decode cX8_needOf 55 = .ok (.ifCond .eq 19, 3) := by decide +kernel
theorem dX8_needOf_58 : decode cX8_needOf 58 = .ok (.aload_n 0, 1) := by decide +kernel
theorem dX8_needOf_59 : decode cX8_needOf 59 = .ok (.getfield 293, 3) := by decide +kernel
theorem dX8_needOf_62 : decode cX8_needOf 62 = .ok (.lload 4, 2) := by decide +kernel
theorem dX8_needOf_64 : decode cX8_needOf 64 = .ok (.lcmp, 1) := by decide +kernel
theorem dX8_needOf_65 : decode cX8_needOf 65 = .ok (.ifCond .le 9, 3) := by decide +kernel
theorem dX8_needOf_68 : decode cX8_needOf 68 = .ok (.aload_n 0, 1) := by decide +kernel
theorem dX8_needOf_69 : decode cX8_needOf 69 = .ok (.getfield 293, 3) := by decide +kernel
theorem dX8_needOf_72 : decode cX8_needOf 72 = .ok (.lstore 4, 2) := by decide +kernel
theorem dX8_needOf_74 : decode cX8_needOf 74 = .ok (.iinc 6 1, 3) := by decide +kernel
theorem dX8_needOf_77 : decode cX8_needOf 77 = .ok (.goto (-71), 3) := by decide +kernel
theorem dX8_needOf_80 : decode cX8_needOf 80 = .ok (.lload 4, 2) := by decide +kernel
theorem dX8_needOf_82 : decode cX8_needOf 82 = .ok (.lreturn, 1) := by decide +kernel
theorem dX8_isDay_0 : decode cX8_isDay 0 = .ok (.iload_n 0, 1) := by decide +kernel
theorem dX8_isDay_1 : decode cX8_isDay 1 = .ok (.iconst 0, 1) := by decide +kernel
theorem dX8_isDay_2 : decode cX8_isDay 2 = .ok (.sipush 9999, 3) := by decide +kernel
theorem dX8_isDay_5 : decode cX8_isDay 5 = .ok (.invokestatic 83, 3) := by decide +kernel
theorem dX8_isDay_8 : decode cX8_isDay 8 = .ok (.ireturn, 1) := by decide +kernel
theorem dX8_need_0 : decode cX8_need 0 = .ok (.aload_n 0, 1) := by decide +kernel
theorem dX8_need_1 : decode cX8_need 1 = .ok (.iload_n 1, 1) := by decide +kernel
theorem dX8_need_2 : decode cX8_need 2 = .ok (.invokevirtual 306, 3) := by decide +kernel
theorem dX8_need_5 : decode cX8_need 5 = .ok (.ifCond .eq 28, 3) := by decide +kernel
theorem dX8_need_8 : decode cX8_need 8 = .ok (.iload_n 2, 1) := by decide +kernel
theorem dX8_need_9 : decode cX8_need 9 = .ok (.invokestatic 94, 3) := by decide +kernel
theorem dX8_need_12 : decode cX8_need 12 = .ok (.ifCond .eq 21, 3) := by decide +kernel
theorem dX8_need_15 : decode cX8_need 15 = .ok (.iload_n 3, 1) := by decide +kernel
theorem dX8_need_16 : decode cX8_need 16 = .ok (.invokestatic 309, 3) := by decide +kernel
theorem dX8_need_19 : decode cX8_need 19 = .ok (.ifCond .eq 14, 3) := by decide +kernel
theorem dX8_need_22 : decode cX8_need 22 = .ok (.aload_n 0, 1) := by decide +kernel
theorem dX8_need_23 : decode cX8_need 23 = .ok (.iload_n 1, 1) := by decide +kernel
theorem dX8_need_24 : decode cX8_need 24 = .ok (.iload_n 2, 1) := by decide +kernel
theorem dX8_need_25 : decode cX8_need 25 = .ok (.iload_n 3, 1) := by decide +kernel
theorem dX8_need_26 : decode cX8_need 26 = .ok (.invokevirtual 312, 3) := by decide +kernel
theorem dX8_need_29 : decode cX8_need 29 = .ok (.l2i, 1) := by decide +kernel
theorem dX8_need_30 : decode cX8_need 30 = .ok (.goto 4, 3) := by decide +kernel
theorem dX8_need_33 : decode cX8_need 33 = .ok (.iconst (-1), 1) := by decide +kernel
theorem dX8_need_34 : decode cX8_need 34 = .ok (.ireturn, 1) := by decide +kernel
theorem dX8_becomes_0 : decode cX8_becomes 0 = .ok (.aload_n 0, 1) := by decide +kernel
theorem dX8_becomes_1 : decode cX8_becomes 1 = .ok (.getfield 13, 3) := by decide +kernel
theorem dX8_becomes_4 : decode cX8_becomes 4 = .ok (.bipush 48, 2) := by decide +kernel
theorem dX8_becomes_6 : decode cX8_becomes 6 = .ok (.iload_n 1, 1) := by decide +kernel
theorem dX8_becomes_7 : decode cX8_becomes 7 = .ok (.iadd, 1) := by decide +kernel
theorem dX8_becomes_8 : decode cX8_becomes 8 = .ok (.iload_n 2, 1) := by decide +kernel
theorem dX8_becomes_9 : decode cX8_becomes 9 = .ok (.iastore, 1) := by decide +kernel
theorem dX8_becomes_10 : decode cX8_becomes 10 = .ok (.aload_n 0, 1) := by decide +kernel
theorem dX8_becomes_11 : decode cX8_becomes 11 = .ok (.getfield 13, 3) := by decide +kernel
theorem dX8_becomes_14 : decode cX8_becomes 14 = .ok (.bipush 96, 2) := by decide +kernel
theorem dX8_becomes_16 : decode cX8_becomes 16 = .ok (.iload_n 1, 1) := by decide +kernel
theorem dX8_becomes_17 : decode cX8_becomes 17 = .ok (.iadd, 1) := by decide +kernel
theorem dX8_becomes_18 : decode cX8_becomes 18 = .ok (.iconst 0, 1) := by decide +kernel
theorem dX8_becomes_19 : decode cX8_becomes 19 = .ok (.iastore, 1) := by decide +kernel
theorem dX8_becomes_20 : decode cX8_becomes 20 = .ok (.return_, 1) := by decide +kernel
theorem dX8_stepOf_0 : decode cX8_stepOf 0 = .ok (.aload_n 0, 1) := by decide +kernel
theorem dX8_stepOf_1 : decode cX8_stepOf 1 = .ok (.getfield 13, 3) := by decide +kernel
theorem dX8_stepOf_4 : decode cX8_stepOf 4 = .ok (.sipush 213, 3) := by decide +kernel
theorem dX8_stepOf_7 : decode cX8_stepOf 7 = .ok (.bipush 6, 2) := by decide +kernel
theorem dX8_stepOf_9 : decode cX8_stepOf 9 = .ok (.iload_n 1, 1) := by decide +kernel
theorem dX8_stepOf_10 : decode cX8_stepOf 10 = .ok (.imul, 1) := by decide +kernel
theorem dX8_stepOf_11 : decode cX8_stepOf 11 = .ok (.iadd, 1) := by decide +kernel
theorem dX8_stepOf_12 : decode cX8_stepOf 12 = .ok (.iload_n 2, 1) := by decide +kernel
theorem dX8_stepOf_13 : decode cX8_stepOf 13 = .ok (.iadd, 1) := by decide +kernel
theorem dX8_stepOf_14 : decode cX8_stepOf 14 = .ok (.iaload, 1) := by decide +kernel
theorem dX8_stepOf_15 : decode cX8_stepOf 15 = .ok (.ireturn, 1) := by decide +kernel
theorem dX8_step_0 : decode cX8_step 0 = .ok (.iload_n 1, 1) := by decide +kernel
theorem dX8_step_1 : decode cX8_step 1 = .ok (.invokestatic 309, 3) := by decide +kernel
theorem dX8_step_4 : decode cX8_step 4 = .ok (.ifCond .eq 30, 3) := by decide +kernel
theorem dX8_step_7 : decode cX8_step 7 = .ok (.iload_n 2, 1) := by decide +kernel
theorem dX8_step_8 : decode cX8_step 8 = .ok (.invokestatic 94, 3) := by decide +kernel
theorem dX8_step_11 : decode cX8_step 11 = .ok (.ifCond .eq 23, 3) := by decide +kernel
theorem dX8_step_14 : decode cX8_step 14 = .ok (.iload_n 3, 1) := by decide +kernel
theorem dX8_step_15 : decode cX8_step 15 = .ok (.iconst 0, 1) := by decide +kernel
theorem dX8_step_16 : decode cX8_step 16 = .ok (.iconst 1, 1) := by decide +kernel
theorem dX8_step_17 : decode cX8_step 17 = .ok (.invokestatic 83, 3) := by decide +kernel
theorem dX8_step_20 : decode cX8_step 20 = .ok (.ifCond .eq 14, 3) := by decide +kernel
theorem dX8_step_23 : decode cX8_step 23 = .ok (.iload 4, 2) := by decide +kernel
theorem dX8_step_25 : decode cX8_step 25 = .ok (.iconst 0, 1) := by decide +kernel
theorem dX8_step_26 : decode cX8_step 26 = .ok (.bipush 7, 2) := by decide +kernel
theorem dX8_step_28 : decode cX8_step 28 = .ok (.invokestatic 83, 3) := by decide +kernel
theorem dX8_step_31 : decode cX8_step 31 = .ok (.ifCond .ne 9, 3) := by decide +kernel
theorem dX8_step_34 : decode cX8_step 34 = .ok (.aload_n 0, 1) := by decide +kernel
theorem dX8_step_35 : decode cX8_step 35 = .ok (.iconst (-1), 1) := by decide +kernel
theorem dX8_step_36 : decode cX8_step 36 = .ok (.invokevirtual 87, 3) := by decide +kernel
theorem dX8_step_39 : decode cX8_step 39 = .ok (.ireturn, 1) := by decide +kernel
theorem dX8_step_40 : decode cX8_step 40 = .ok (.aload_n 0, 1) := by decide +kernel
theorem dX8_step_41 : decode cX8_step 41 = .ok (.iload 5, 2) := by decide +kernel
theorem dX8_step_43 : decode cX8_step 43 = .ok (.invokevirtual 306, 3) := by decide +kernel
theorem dX8_step_46 : decode cX8_step 46 = .ok (.ifCond .ne 10, 3) := by decide +kernel
theorem dX8_step_49 : decode cX8_step 49 = .ok (.aload_n 0, 1) := by decide +kernel
theorem dX8_step_50 : decode cX8_step 50 = .ok (.bipush (-2), 2) := by decide +kernel
theorem dX8_step_52 : decode cX8_step 52 = .ok (.invokevirtual 87, 3) := by decide +kernel
theorem dX8_step_55 : decode cX8_step 55 = .ok (.ireturn, 1) := by decide +kernel
theorem dX8_step_56 : decode cX8_step 56 = .ok (.aload_n 0, 1) := by decide +kernel
theorem dX8_step_57 : decode cX8_step 57 = .ok (.getfield 13, 3) := by decide +kernel
theorem dX8_step_60 : decode cX8_step 60 = .ok (.sipush 1635, 3) := by decide +kernel
theorem dX8_step_63 : decode cX8_step 63 = .ok (.iaload, 1) := by decide +kernel
theorem dX8_step_64 : decode cX8_step 64 = .ok (.istore 6, 2) := by decide +kernel
theorem dX8_step_66 : decode cX8_step 66 = .ok (.iload 6, 2) := by decide +kernel
theorem dX8_step_68 : decode cX8_step 68 = .ok (.ifCond .le 23, 3) := by decide +kernel
theorem dX8_step_71 : decode cX8_step 71 = .ok (.iload_n 1, 1) := by decide +kernel
theorem dX8_step_72 : decode cX8_step 72 = .ok (.aload_n 0, 1) := by decide +kernel
theorem dX8_step_73 : decode cX8_step 73 = .ok (.iload 6, 2) := by decide +kernel
theorem dX8_step_75 : decode cX8_step 75 = .ok (.iconst 1, 1) := by decide +kernel
theorem dX8_step_76 : decode cX8_step 76 = .ok (.isub, 1) := by decide +kernel
theorem dX8_step_77 : decode cX8_step 77 = .ok (.iconst 0, 1) := by decide +kernel
theorem dX8_step_78 : decode cX8_step 78 = .ok (.invokevirtual 316, 3) := by decide +kernel
theorem dX8_step_81 : decode cX8_step 81 = .ok (.if_icmp .ge 10, 3) := by decide +kernel
theorem dX8_step_84 : decode cX8_step 84 = .ok (.aload_n 0, 1) := by decide +kernel
theorem dX8_step_85 : decode cX8_step 85 = .ok (.bipush (-3), 2) := by decide +kernel
theorem dX8_step_87 : decode cX8_step 87 = .ok (.invokevirtual 87, 3) := by decide +kernel
theorem dX8_step_90 : decode cX8_step 90 = .ok (.ireturn, 1) := by decide +kernel
theorem dX8_step_91 : decode cX8_step 91 = .ok (.iload 6, 2) := by decide +kernel
theorem dX8_step_93 : decode cX8_step 93 = .ok (.bipush 60, 2) := by decide +kernel
theorem dX8_step_95 : decode cX8_step 95 = .ok (.if_icmp .ne 10, 3) := by decide +kernel
theorem dX8_step_98 : decode cX8_step 98 = .ok (.aload_n 0, 1) := by decide +kernel
theorem dX8_step_99 : decode cX8_step 99 = .ok (.bipush (-5), 2) := by decide +kernel
theorem dX8_step_101 : decode cX8_step 101 = .ok (.invokevirtual 87, 3) := by decide +kernel
theorem dX8_step_104 : decode cX8_step 104 = .ok (.ireturn, 1) := by decide +kernel
theorem dX8_step_105 : decode cX8_step 105 = .ok (.aload_n 0, 1) := by decide +kernel
theorem dX8_step_106 : decode cX8_step 106 = .ok (.iload_n 2, 1) := by decide +kernel
theorem dX8_step_107 : decode cX8_step 107 = .ok (.iload_n 3, 1) := by decide +kernel
theorem dX8_step_108 : decode cX8_step 108 = .ok (.invokevirtual 319, 3) := by decide +kernel
theorem dX8_step_111 : decode cX8_step 111 = .ok (.aload_n 0, 1) := by decide +kernel
theorem dX8_step_112 : decode cX8_step 112 = .ok (.iload_n 2, 1) := by decide +kernel
theorem dX8_step_113 : decode cX8_step 113 = .ok (.invokevirtual 103, 3) := by decide +kernel
theorem dX8_step_116 : decode cX8_step 116 = .ok (.i2l, 1) := by decide +kernel
theorem dX8_step_117 : decode cX8_step 117 = .ok (.aload_n 0, 1) := by decide +kernel
theorem dX8_step_118 : decode cX8_step 118 = .ok (.iload 5, 2) := by decide +kernel
theorem dX8_step_120 : decode cX8_step 120 = .ok (.iload_n 2, 1) := by decide +kernel
theorem dX8_step_121 : decode cX8_step 121 = .ok (.iload_n 1, 1) := by decide +kernel
theorem dX8_step_122 : decode cX8_step 122 = .ok (.invokevirtual 312, 3) := by decide +kernel
theorem dX8_step_125 : decode cX8_step 125 = .ok (.lcmp, 1) := by decide +kernel
theorem dX8_step_126 : decode cX8_step 126 = .ok (.ifCond .lt 7, 3) := by decide +kernel
theorem dX8_step_129 : decode cX8_step 129 = .ok (.iconst 1, 1) := by decide +kernel
theorem dX8_step_130 : decode cX8_step 130 = .ok (.goto 4, 3) := by decide +kernel
theorem dX8_step_133 : decode cX8_step 133 = .ok (.iconst 0, 1) := by decide +kernel
theorem dX8_step_134 : decode cX8_step 134 = .ok (.istore 7, 2) := by decide +kernel
theorem dX8_step_136 : decode cX8_step 136 = .ok (.sipush 213, 3) := by decide +kernel
theorem dX8_step_139 : decode cX8_step 139 = .ok (.bipush 6, 2) := by decide +kernel
theorem dX8_step_141 : decode cX8_step 141 = .ok (.iload 6, 2) := by decide +kernel
theorem dX8_step_143 : decode cX8_step 143 = .ok (.imul, 1) := by decide +kernel
theorem dX8_step_144 : decode cX8_step 144 = .ok (.iadd, 1) := by decide +kernel
theorem dX8_step_145 : decode cX8_step 145 = .ok (.istore 8, 2) := by decide +kernel
theorem dX8_step_147 : decode cX8_step 147 = .ok (.aload_n 0, 1) := by decide +kernel
theorem dX8_step_148 : decode cX8_step 148 = .ok (.getfield 13, 3) := by decide +kernel
theorem dX8_step_151 : decode cX8_step 151 = .ok (.iload 8, 2) := by decide +kernel
theorem dX8_step_153 : decode cX8_step 153 = .ok (.iload_n 1, 1) := by decide +kernel
theorem dX8_step_154 : decode cX8_step 154 = .ok (.iastore, 1) := by decide +kernel
theorem dX8_step_155 : decode cX8_step 155 = .ok (.aload_n 0, 1) := by decide +kernel
theorem dX8_step_156 : decode cX8_step 156 = .ok (.getfield 13, 3) := by decide +kernel
theorem dX8_step_159 : decode cX8_step 159 = .ok (.iload 8, 2) := by decide +kernel
theorem dX8_step_161 : decode cX8_step 161 = .ok (.iconst 1, 1) := by decide +kernel
theorem dX8_step_162 : decode cX8_step 162 = .ok (.iadd, 1) := by decide +kernel
theorem dX8_step_163 : decode cX8_step 163 = .ok (.iload_n 2, 1) := by decide +kernel
theorem dX8_step_164 : decode cX8_step 164 = .ok (.iastore, 1) := by decide +kernel
theorem dX8_step_165 : decode cX8_step 165 = .ok (.aload_n 0, 1) := by decide +kernel
theorem dX8_step_166 : decode cX8_step 166 = .ok (.getfield 13, 3) := by decide +kernel
theorem dX8_step_169 : decode cX8_step 169 = .ok (.iload 8, 2) := by decide +kernel
theorem dX8_step_171 : decode cX8_step 171 = .ok (.iconst 2, 1) := by decide +kernel
theorem dX8_step_172 : decode cX8_step 172 = .ok (.iadd, 1) := by decide +kernel
theorem dX8_step_173 : decode cX8_step 173 = .ok (.iload_n 3, 1) := by decide +kernel
theorem dX8_step_174 : decode cX8_step 174 = .ok (.iastore, 1) := by decide +kernel
theorem dX8_step_175 : decode cX8_step 175 = .ok (.aload_n 0, 1) := by decide +kernel
theorem dX8_step_176 : decode cX8_step 176 = .ok (.getfield 13, 3) := by decide +kernel
theorem dX8_step_179 : decode cX8_step 179 = .ok (.iload 8, 2) := by decide +kernel
theorem dX8_step_181 : decode cX8_step 181 = .ok (.iconst 3, 1) := by decide +kernel
theorem dX8_step_182 : decode cX8_step 182 = .ok (.iadd, 1) := by decide +kernel
theorem dX8_step_183 : decode cX8_step 183 = .ok (.iload 4, 2) := by decide +kernel
theorem dX8_step_185 : decode cX8_step 185 = .ok (.iastore, 1) := by decide +kernel
theorem dX8_step_186 : decode cX8_step 186 = .ok (.aload_n 0, 1) := by decide +kernel
theorem dX8_step_187 : decode cX8_step 187 = .ok (.getfield 13, 3) := by decide +kernel
theorem dX8_step_190 : decode cX8_step 190 = .ok (.iload 8, 2) := by decide +kernel
theorem dX8_step_192 : decode cX8_step 192 = .ok (.iconst 4, 1) := by decide +kernel
theorem dX8_step_193 : decode cX8_step 193 = .ok (.iadd, 1) := by decide +kernel
theorem dX8_step_194 : decode cX8_step 194 = .ok (.iload 5, 2) := by decide +kernel
theorem dX8_step_196 : decode cX8_step 196 = .ok (.iastore, 1) := by decide +kernel
theorem dX8_step_197 : decode cX8_step 197 = .ok (.aload_n 0, 1) := by decide +kernel
theorem dX8_step_198 : decode cX8_step 198 = .ok (.getfield 13, 3) := by decide +kernel
theorem dX8_step_201 : decode cX8_step 201 = .ok (.iload 8, 2) := by decide +kernel
theorem dX8_step_203 : decode cX8_step 203 = .ok (.iconst 5, 1) := by decide +kernel
theorem dX8_step_204 : decode cX8_step 204 = .ok (.iadd, 1) := by decide +kernel
theorem dX8_step_205 : decode cX8_step 205 = .ok (.iload 7, 2) := by decide +kernel
theorem dX8_step_207 : decode cX8_step 207 = .ok (.iastore, 1) := by decide +kernel
theorem dX8_step_208 : decode cX8_step 208 = .ok (.aload_n 0, 1) := by decide +kernel
theorem dX8_step_209 : decode cX8_step 209 = .ok (.getfield 13, 3) := by decide +kernel
theorem dX8_step_212 : decode cX8_step 212 = .ok (.sipush 1635, 3) := by decide +kernel
theorem dX8_step_215 : decode cX8_step 215 = .ok (.dup2, 1) := by decide +kernel
theorem dX8_step_216 : decode cX8_step 216 = .ok (.iaload, 1) := by decide +kernel
theorem dX8_step_217 : decode cX8_step 217 = .ok (.iconst 1, 1) := by decide +kernel
theorem dX8_step_218 : decode cX8_step 218 = .ok (.iadd, 1) := by decide +kernel
theorem dX8_step_219 : decode cX8_step 219 = .ok (.iastore, 1) := by decide +kernel
theorem dX8_step_220 : decode cX8_step 220 = .ok (.aload_n 0, 1) := by decide +kernel
theorem dX8_step_221 : decode cX8_step 221 = .ok (.iload 7, 2) := by decide +kernel
theorem dX8_step_223 : decode cX8_step 223 = .ok (.invokevirtual 91, 3) := by decide +kernel
theorem dX8_step_226 : decode cX8_step 226 = .ok (.ireturn, 1) := by decide +kernel
theorem dX8_drawing_0 : decode cX8_drawing 0 = .ok (.iload_n 1, 1) := by decide +kernel
theorem dX8_drawing_1 : decode cX8_drawing 1 = .ok (.iconst 0, 1) := by decide +kernel
theorem dX8_drawing_2 : decode cX8_drawing 2 = .ok (.aload_n 0, 1) := by decide +kernel
theorem dX8_drawing_3 : decode cX8_drawing 3 = .ok (.getfield 13, 3) := by decide +kernel
theorem dX8_drawing_6 : decode cX8_drawing 6 = .ok (.sipush 1635, 3) := by decide +kernel
theorem dX8_drawing_9 : decode cX8_drawing 9 = .ok (.iaload, 1) := by decide +kernel
theorem dX8_drawing_10 : decode cX8_drawing 10 = .ok (.iconst 1, 1) := by decide +kernel
theorem dX8_drawing_11 : decode cX8_drawing 11 = .ok (.isub, 1) := by decide +kernel
theorem dX8_drawing_12 : decode cX8_drawing 12 = .ok (.invokestatic 83, 3) := by decide +kernel
theorem dX8_drawing_15 : decode cX8_drawing 15 = .ok (.ifCond .eq 21, 3) := by decide +kernel
theorem dX8_drawing_18 : decode cX8_drawing 18 = .ok (.iload_n 2, 1) := by decide +kernel
theorem dX8_drawing_19 : decode cX8_drawing 19 = .ok (.iconst 0, 1) := by decide +kernel
theorem dX8_drawing_20 : decode cX8_drawing 20 = .ok (.iconst 5, 1) := by decide +kernel
theorem dX8_drawing_21 : decode cX8_drawing 21 = .ok (.invokestatic 83, 3) := by decide +kernel
theorem dX8_drawing_24 : decode cX8_drawing 24 = .ok (.ifCond .eq 12, 3) := by decide +kernel
theorem dX8_drawing_27 : decode cX8_drawing 27 = .ok (.aload_n 0, 1) := by decide +kernel
theorem dX8_drawing_28 : decode cX8_drawing 28 = .ok (.iload_n 1, 1) := by decide +kernel
theorem dX8_drawing_29 : decode cX8_drawing 29 = .ok (.iload_n 2, 1) := by decide +kernel
theorem dX8_drawing_30 : decode cX8_drawing 30 = .ok (.invokevirtual 316, 3) := by decide +kernel
theorem dX8_drawing_33 : decode cX8_drawing 33 = .ok (.goto 4, 3) := by decide +kernel
theorem dX8_drawing_36 : decode cX8_drawing 36 = .ok (.iconst (-1), 1) := by decide +kernel
theorem dX8_drawing_37 : decode cX8_drawing 37 = .ok (.ireturn, 1) := by decide +kernel
theorem dX8_saves_0 : decode cX8_saves 0 = .ok (.iconst 0, 1) := by decide +kernel
theorem dX8_saves_1 : decode cX8_saves 1 = .ok (.istore_n 1, 1) := by decide +kernel
theorem dX8_saves_2 : decode cX8_saves 2 = .ok (.iload_n 1, 1) := by decide +kernel
theorem dX8_saves_3 : decode cX8_saves 3 = .ok (.bipush 96, 2) := by decide +kernel
theorem dX8_saves_5 : decode cX8_saves 5 = .ok (.if_icmp .ge 24, 3) := by decide +kernel
theorem dX8_saves_8 : decode cX8_saves 8 = .ok (.aload_n 0, 1) := by decide +kernel
theorem dX8_saves_9 : decode cX8_saves 9 = .ok (.getfield 65, 3) := by decide +kernel
theorem dX8_saves_12 : decode cX8_saves 12 = .ok (.iload_n 1, 1) := by decide +kernel
theorem dX8_saves_13 : decode cX8_saves 13 = .ok (.aload_n 0, 1) := by decide +kernel
theorem dX8_saves_14 : decode cX8_saves 14 = .ok (.getfield 13, 3) := by decide +kernel
theorem dX8_saves_17 : decode cX8_saves 17 = .ok (.bipush 48, 2) := by decide +kernel
theorem dX8_saves_19 : decode cX8_saves 19 = .ok (.iload_n 1, 1) := by decide +kernel
theorem dX8_saves_20 : decode cX8_saves 20 = .ok (.iadd, 1) := by decide +kernel
theorem dX8_saves_21 : decode cX8_saves 21 = .ok (.iaload, 1) := by decide +kernel
theorem dX8_saves_22 : decode cX8_saves 22 = .ok (.iastore, 1) := by decide +kernel
theorem dX8_saves_23 : decode cX8_saves 23 = .ok (.iinc 1 1, 3) := by decide +kernel
theorem dX8_saves_26 : decode cX8_saves 26 = .ok (.goto (-24), 3) := by decide +kernel
theorem dX8_saves_29 : decode cX8_saves 29 = .ok (.return_, 1) := by decide +kernel
theorem dX8_restores_0 : decode cX8_restores 0 = .ok (.iconst 0, 1) := by decide +kernel
theorem dX8_restores_1 : decode cX8_restores 1 = .ok (.istore_n 1, 1) := by decide +kernel
theorem dX8_restores_2 : decode cX8_restores 2 = .ok (.iload_n 1, 1) := by decide +kernel
theorem dX8_restores_3 : decode cX8_restores 3 = .ok (.bipush 96, 2) := by decide +kernel
theorem dX8_restores_5 : decode cX8_restores 5 = .ok (.if_icmp .ge 24, 3) := by decide +kernel
theorem dX8_restores_8 : decode cX8_restores 8 = .ok (.aload_n 0, 1) := by decide +kernel
theorem dX8_restores_9 : decode cX8_restores 9 = .ok (.getfield 13, 3) := by decide +kernel
theorem dX8_restores_12 : decode cX8_restores 12 = .ok (.bipush 48, 2) := by decide +kernel
theorem dX8_restores_14 : decode cX8_restores 14 = .ok (.iload_n 1, 1) := by decide +kernel
theorem dX8_restores_15 : decode cX8_restores 15 = .ok (.iadd, 1) := by decide +kernel
theorem dX8_restores_16 : decode cX8_restores 16 = .ok (.aload_n 0, 1) := by decide +kernel
theorem dX8_restores_17 : decode cX8_restores 17 = .ok (.getfield 65, 3) := by decide +kernel
theorem dX8_restores_20 : decode cX8_restores 20 = .ok (.iload_n 1, 1) := by decide +kernel
theorem dX8_restores_21 : decode cX8_restores 21 = .ok (.iaload, 1) := by decide +kernel
theorem dX8_restores_22 : decode cX8_restores 22 = .ok (.iastore, 1) := by decide +kernel
theorem dX8_restores_23 : decode cX8_restores 23 = .ok (.iinc 1 1, 3) := by decide +kernel
theorem dX8_restores_26 : decode cX8_restores 26 = .ok (.goto (-24), 3) := by decide +kernel
theorem dX8_restores_29 : decode cX8_restores 29 = .ok (.return_, 1) := by decide +kernel
theorem dX8_fallsBy_0 : decode cX8_fallsBy 0 = .ok (.iconst 0, 1) := by decide +kernel
theorem dX8_fallsBy_1 : decode cX8_fallsBy 1 = .ok (.istore_n 2, 1) := by decide +kernel
theorem dX8_fallsBy_2 : decode cX8_fallsBy 2 = .ok (.iconst 0, 1) := by decide +kernel
theorem dX8_fallsBy_3 : decode cX8_fallsBy 3 = .ok (.istore_n 3, 1) := by decide +kernel
theorem dX8_fallsBy_4 : decode cX8_fallsBy 4 = .ok (.iload_n 3, 1) := by decide +kernel
theorem dX8_fallsBy_5 : decode cX8_fallsBy 5 = .ok (.aload_n 0, 1) := by decide +kernel
theorem dX8_fallsBy_6 : decode cX8_fallsBy 6 = .ok (.getfield 13, 3) := by decide +kernel
theorem dX8_fallsBy_9 : decode cX8_fallsBy 9 = .ok (.sipush 1633, 3) := by decide +kernel
theorem dX8_fallsBy_12 : decode cX8_fallsBy 12 = .ok (.iaload, 1) := by decide +kernel
theorem dX8_fallsBy_13 : decode cX8_fallsBy 13 = .ok (.if_icmp .ge 29, 3) := by decide +kernel
theorem dX8_fallsBy_16 : decode cX8_fallsBy 16 = .ok (.aload_n 0, 1) := by decide +kernel
theorem dX8_fallsBy_17 : decode cX8_fallsBy 17 = .ok (.iload_n 3, 1) := by decide +kernel
theorem dX8_fallsBy_18 : decode cX8_fallsBy 18 = .ok (.iload_n 1, 1) := by decide +kernel
theorem dX8_fallsBy_19 : decode cX8_fallsBy 19 = .ok (.invokevirtual 161, 3) := by decide +kernel
theorem dX8_fallsBy_22 : decode cX8_fallsBy 22 = .ok (.aload_n 0, 1) := by decide +kernel
theorem dX8_fallsBy_23 : decode cX8_fallsBy 23 = .ok (.getfield 158, 3) := by decide +kernel
theorem dX8_fallsBy_26 : decode cX8_fallsBy 26 = .ok (.iconst (-1), 1) := by decide +kernel
theorem dX8_fallsBy_27 : decode cX8_fallsBy 27 = .ok (.if_icmp .eq 9, 3) := by decide +kernel
theorem dX8_fallsBy_30 : decode cX8_fallsBy 30 = .ok (.iload_n 2, 1) := by decide +kernel
theorem dX8_fallsBy_31 : decode cX8_fallsBy 31 = .ok (.iconst 1, 1) := by decide +kernel
theorem dX8_fallsBy_32 : decode cX8_fallsBy 32 = .ok (.iload_n 3, 1) := by decide +kernel
theorem dX8_fallsBy_33 : decode cX8_fallsBy 33 = .ok (.ishl, 1) := by decide +kernel
theorem dX8_fallsBy_34 : decode cX8_fallsBy 34 = .ok (.ior, 1) := by decide +kernel
theorem dX8_fallsBy_35 : decode cX8_fallsBy 35 = .ok (.istore_n 2, 1) := by decide +kernel
theorem dX8_fallsBy_36 : decode cX8_fallsBy 36 = .ok (.iinc 3 1, 3) := by decide +kernel
theorem dX8_fallsBy_39 : decode cX8_fallsBy 39 = .ok (.goto (-35), 3) := by decide +kernel
theorem dX8_fallsBy_42 : decode cX8_fallsBy 42 = .ok (.iload_n 2, 1) := by decide +kernel
theorem dX8_fallsBy_43 : decode cX8_fallsBy 43 = .ok (.ireturn, 1) := by decide +kernel
theorem dX8_saw_0 : decode cX8_saw 0 = .ok (.aload_n 0, 1) := by decide +kernel
theorem dX8_saw_1 : decode cX8_saw 1 = .ok (.invokevirtual 322, 3) := by decide +kernel
theorem dX8_saw_4 : decode cX8_saw 4 = .ok (.iconst 0, 1) := by decide +kernel
theorem dX8_saw_5 : decode cX8_saw 5 = .ok (.istore_n 1, 1) := by decide +kernel
theorem dX8_saw_6 : decode cX8_saw 6 = .ok (.iload_n 1, 1) := by decide +kernel
theorem dX8_saw_7 : decode cX8_saw 7 = .ok (.bipush 48, 2) := by decide +kernel
theorem dX8_saw_9 : decode cX8_saw 9 = .ok (.if_icmp .ge 15, 3) := by decide +kernel
theorem dX8_saw_12 : decode cX8_saw 12 = .ok (.aload_n 0, 1) := by decide +kernel
theorem dX8_saw_13 : decode cX8_saw 13 = .ok (.iload_n 1, 1) := by decide +kernel
theorem dX8_saw_14 : decode cX8_saw 14 = .ok (.iconst 0, 1) := by decide +kernel
theorem dX8_saw_15 : decode cX8_saw 15 = .ok (.invokevirtual 319, 3) := by decide +kernel
theorem dX8_saw_18 : decode cX8_saw 18 = .ok (.iinc 1 1, 3) := by decide +kernel
theorem dX8_saw_21 : decode cX8_saw 21 = .ok (.goto (-15), 3) := by decide +kernel
theorem dX8_saw_24 : decode cX8_saw 24 = .ok (.aload_n 0, 1) := by decide +kernel
theorem dX8_saw_25 : decode cX8_saw 25 = .ok (.iconst 1, 1) := by decide +kernel
theorem dX8_saw_26 : decode cX8_saw 26 = .ok (.invokevirtual 325, 3) := by decide +kernel
theorem dX8_saw_29 : decode cX8_saw 29 = .ok (.istore_n 1, 1) := by decide +kernel
theorem dX8_saw_30 : decode cX8_saw 30 = .ok (.iconst (-1), 1) := by decide +kernel
theorem dX8_saw_31 : decode cX8_saw 31 = .ok (.istore_n 2, 1) := by decide +kernel
theorem dX8_saw_32 : decode cX8_saw 32 = .ok (.iconst 0, 1) := by decide +kernel
theorem dX8_saw_33 : decode cX8_saw 33 = .ok (.istore_n 3, 1) := by decide +kernel
theorem dX8_saw_34 : decode cX8_saw 34 = .ok (.iload_n 3, 1) := by decide +kernel
theorem dX8_saw_35 : decode cX8_saw 35 = .ok (.aload_n 0, 1) := by decide +kernel
theorem dX8_saw_36 : decode cX8_saw 36 = .ok (.getfield 13, 3) := by decide +kernel
theorem dX8_saw_39 : decode cX8_saw 39 = .ok (.sipush 1635, 3) := by decide +kernel
theorem dX8_saw_42 : decode cX8_saw 42 = .ok (.iaload, 1) := by decide +kernel
theorem dX8_saw_43 : decode cX8_saw 43 = .ok (.if_icmp .ge 51, 3) := by decide +kernel
theorem dX8_saw_46 : decode cX8_saw 46 = .ok (.iload_n 2, 1) := by decide +kernel
theorem dX8_saw_47 : decode cX8_saw 47 = .ok (.iconst (-1), 1) := by decide +kernel
theorem dX8_saw_48 : decode cX8_saw 48 = .ok (.if_icmp .ne 46, 3) := by decide +kernel
theorem dX8_saw_51 : decode cX8_saw 51 = .ok (.aload_n 0, 1) := by decide +kernel
theorem dX8_saw_52 : decode cX8_saw 52 = .ok (.aload_n 0, 1) := by decide +kernel
theorem dX8_saw_53 : decode cX8_saw 53 = .ok (.iload_n 3, 1) := by decide +kernel
theorem dX8_saw_54 : decode cX8_saw 54 = .ok (.iconst 1, 1) := by decide +kernel
theorem dX8_saw_55 : decode cX8_saw 55 = .ok (.invokevirtual 316, 3) := by decide +kernel
theorem dX8_saw_58 : decode cX8_saw 58 = .ok (.aload_n 0, 1) := by decide +kernel
theorem dX8_saw_59 : decode cX8_saw 59 = .ok (.iload_n 3, 1) := by decide +kernel
theorem dX8_saw_60 : decode cX8_saw 60 = .ok (.iconst 2, 1) := by decide +kernel
theorem dX8_saw_61 : decode cX8_saw 61 = .ok (.invokevirtual 316, 3) := by decide +kernel
theorem dX8_saw_64 : decode cX8_saw 64 = .ok (.invokevirtual 319, 3) := by decide +kernel
theorem dX8_saw_67 : decode cX8_saw 67 = .ok (.aload_n 0, 1) := by decide +kernel
theorem dX8_saw_68 : decode cX8_saw 68 = .ok (.iconst 1, 1) := by decide +kernel
theorem dX8_saw_69 : decode cX8_saw 69 = .ok (.invokevirtual 325, 3) := by decide +kernel
theorem dX8_saw_72 : decode cX8_saw 72 = .ok (.istore 4, 2) := by decide +kernel
theorem dX8_saw_74 : decode cX8_saw 74 = .ok (.iload 4, 2) := by decide +kernel
theorem dX8_saw_76 : decode cX8_saw 76 = .ok (.iload_n 1, 1) := by decide +kernel
theorem dX8_saw_77 : decode cX8_saw 77 = .ok (.iconst (-1), 1) := by decide +kernel
theorem dX8_saw_78 : decode cX8_saw 78 = .ok (.ixor, 1) := by decide +kernel
theorem dX8_saw_79 : decode cX8_saw 79 = .ok (.iand, 1) := by decide +kernel
theorem dX8_saw_80 : decode cX8_saw 80 = .ok (.ifCond .eq 5, 3) := by decide +kernel
theorem dX8_saw_83 : decode cX8_saw 83 = .ok (.iload_n 3, 1) := by decide +kernel
theorem dX8_saw_84 : decode cX8_saw 84 = .ok (.istore_n 2, 1) := by decide +kernel
theorem dX8_saw_85 : decode cX8_saw 85 = .ok (.iload 4, 2) := by decide +kernel
theorem dX8_saw_87 : decode cX8_saw 87 = .ok (.istore_n 1, 1) := by decide +kernel
theorem dX8_saw_88 : decode cX8_saw 88 = .ok (.iinc 3 1, 3) := by decide +kernel
theorem dX8_saw_91 : decode cX8_saw 91 = .ok (.goto (-57), 3) := by decide +kernel
theorem dX8_saw_94 : decode cX8_saw 94 = .ok (.aload_n 0, 1) := by decide +kernel
theorem dX8_saw_95 : decode cX8_saw 95 = .ok (.invokevirtual 328, 3) := by decide +kernel
theorem dX8_saw_98 : decode cX8_saw 98 = .ok (.iload_n 2, 1) := by decide +kernel
theorem dX8_saw_99 : decode cX8_saw 99 = .ok (.ireturn, 1) := by decide +kernel
theorem dX8_oddsOf_0 : decode cX8_oddsOf 0 = .ok (.lconst 0, 1) := by decide +kernel
theorem dX8_oddsOf_1 : decode cX8_oddsOf 1 = .ok (.lstore_n 2, 1) := by decide +kernel
theorem dX8_oddsOf_2 : decode cX8_oddsOf 2 = .ok (.iconst 0, 1) := by decide +kernel
theorem dX8_oddsOf_3 : decode cX8_oddsOf 3 = .ok (.istore 4, 2) := by decide +kernel
theorem dX8_oddsOf_5 : decode cX8_oddsOf 5 = .ok (.iload 4, 2) := by decide +kernel
theorem dX8_oddsOf_7 : decode cX8_oddsOf 7 = .ok (.aload_n 0, 1) := by decide +kernel
theorem dX8_oddsOf_8 : decode cX8_oddsOf 8 = .ok (.getfield 13, 3) := by decide +kernel
theorem dX8_oddsOf_11 : decode cX8_oddsOf 11 = .ok (.sipush 1633, 3) := by decide +kernel
theorem dX8_oddsOf_14 : decode cX8_oddsOf 14 = .ok (.iaload, 1) := by decide +kernel
theorem dX8_oddsOf_15 : decode cX8_oddsOf 15 = .ok (.if_icmp .ge 34, 3) := by decide +kernel
theorem dX8_oddsOf_18 : decode cX8_oddsOf 18 = .ok (.lload_n 2, 1) := by decide +kernel
theorem dX8_oddsOf_19 : decode cX8_oddsOf 19 = .ok (.iload_n 1, 1) := by decide +kernel
theorem dX8_oddsOf_20 : decode cX8_oddsOf 20 = .ok (.iload 4, 2) := by decide +kernel
theorem dX8_oddsOf_22 : decode cX8_oddsOf 22 = .ok (.ishr, 1) := by decide +kernel
theorem dX8_oddsOf_23 : decode cX8_oddsOf 23 = .ok (.iconst 1, 1) := by decide +kernel
theorem dX8_oddsOf_24 : decode cX8_oddsOf 24 = .ok (.iand, 1) := by decide +kernel
theorem dX8_oddsOf_25 : decode cX8_oddsOf 25 = .ok (.iconst 1, 1) := by decide +kernel
theorem dX8_oddsOf_26 : decode cX8_oddsOf 26 = .ok (.if_icmp .ne 14, 3) := by decide +kernel
theorem dX8_oddsOf_29 : decode cX8_oddsOf 29 = .ok (.aload_n 0, 1) := by decide +kernel
theorem dX8_oddsOf_30 : decode cX8_oddsOf 30 = .ok (.iload 4, 2) := by decide +kernel
theorem dX8_oddsOf_32 : decode cX8_oddsOf 32 = .ok (.iconst 2, 1) := by decide +kernel
theorem dX8_oddsOf_33 : decode cX8_oddsOf 33 = .ok (.invokevirtual 109, 3) := by decide +kernel
theorem dX8_oddsOf_36 : decode cX8_oddsOf 36 = .ok (.i2l, 1) := by decide +kernel
theorem dX8_oddsOf_37 : decode cX8_oddsOf 37 = .ok (.goto 4, 3) := by decide +kernel
theorem dX8_oddsOf_40 : decode cX8_oddsOf 40 = .ok (.lconst 0, 1) := by decide +kernel
theorem dX8_oddsOf_41 : decode cX8_oddsOf 41 = .ok (.ladd, 1) := by decide +kernel
theorem dX8_oddsOf_42 : decode cX8_oddsOf 42 = .ok (.lstore_n 2, 1) := by decide +kernel
theorem dX8_oddsOf_43 : decode cX8_oddsOf 43 = .ok (.iinc 4 1, 3) := by decide +kernel
theorem dX8_oddsOf_46 : decode cX8_oddsOf 46 = .ok (.goto (-41), 3) := by decide +kernel
theorem dX8_oddsOf_49 : decode cX8_oddsOf 49 = .ok (.lload_n 2, 1) := by decide +kernel
theorem dX8_oddsOf_50 : decode cX8_oddsOf 50 = .ok (.lreturn, 1) := by decide +kernel
theorem dX8_yearBy_0 : decode cX8_yearBy 0 = .ok (.aload_n 0, 1) := by decide +kernel
theorem dX8_yearBy_1 : decode cX8_yearBy 1 = .ok (.iload_n 1, 1) := by decide +kernel
theorem dX8_yearBy_2 : decode cX8_yearBy 2 = .ok (.invokevirtual 331, 3) := by decide +kernel
theorem dX8_yearBy_5 : decode cX8_yearBy 5 = .ok (.bipush 100, 2) := by decide +kernel
theorem dX8_yearBy_7 : decode cX8_yearBy 7 = .ok (.iload_n 3, 1) := by decide +kernel
theorem dX8_yearBy_8 : decode cX8_yearBy 8 = .ok (.isub, 1) := by decide +kernel
theorem dX8_yearBy_9 : decode cX8_yearBy 9 = .ok (.i2l, 1) := by decide +kernel
theorem dX8_yearBy_10 : decode cX8_yearBy 10 = .ok (.lmul, 1) := by decide +kernel
theorem dX8_yearBy_11 : decode cX8_yearBy 11 = .ok (.aload_n 0, 1) := by decide +kernel
theorem dX8_yearBy_12 : decode cX8_yearBy 12 = .ok (.iload_n 2, 1) := by decide +kernel
theorem dX8_yearBy_13 : decode cX8_yearBy 13 = .ok (.invokevirtual 331, 3) := by decide +kernel
theorem dX8_yearBy_16 : decode cX8_yearBy 16 = .ok (.iload_n 3, 1) := by decide +kernel
theorem dX8_yearBy_17 : decode cX8_yearBy 17 = .ok (.i2l, 1) := by decide +kernel
theorem dX8_yearBy_18 : decode cX8_yearBy 18 = .ok (.lmul, 1) := by decide +kernel
theorem dX8_yearBy_19 : decode cX8_yearBy 19 = .ok (.ladd, 1) := by decide +kernel
theorem dX8_yearBy_20 : decode cX8_yearBy 20 = .ok (.lreturn, 1) := by decide +kernel
theorem dX8_year_0 : decode cX8_year 0 = .ok (.aload_n 0, 1) := by decide +kernel
theorem dX8_year_1 : decode cX8_year 1 = .ok (.aload_n 0, 1) := by decide +kernel
theorem dX8_year_2 : decode cX8_year 2 = .ok (.iconst 1, 1) := by decide +kernel
theorem dX8_year_3 : decode cX8_year 3 = .ok (.invokevirtual 325, 3) := by decide +kernel
theorem dX8_year_6 : decode cX8_year 6 = .ok (.aload_n 0, 1) := by decide +kernel
theorem dX8_year_7 : decode cX8_year 7 = .ok (.iconst 0, 1) := by decide +kernel
theorem dX8_year_8 : decode cX8_year 8 = .ok (.invokevirtual 325, 3) := by decide +kernel
theorem dX8_year_11 : decode cX8_year 11 = .ok (.aload_n 0, 1) := by decide +kernel
theorem dX8_year_12 : decode cX8_year 12 = .ok (.iconst 5, 1) := by decide +kernel
theorem dX8_year_13 : decode cX8_year 13 = .ok (.invokevirtual 99, 3) := by decide +kernel
theorem dX8_year_16 : decode cX8_year 16 = .ok (.invokevirtual 335, 3) := by decide +kernel
theorem dX8_year_19 : decode cX8_year 19 = .ok (.lreturn, 1) := by decide +kernel
theorem dX8_odds_0 : decode cX8_odds 0 = .ok (.iload_n 1, 1) := by decide +kernel
theorem dX8_odds_1 : decode cX8_odds 1 = .ok (.iconst 0, 1) := by decide +kernel
theorem dX8_odds_2 : decode cX8_odds 2 = .ok (.iconst 2, 1) := by decide +kernel
theorem dX8_odds_3 : decode cX8_odds 3 = .ok (.invokestatic 83, 3) := by decide +kernel
theorem dX8_odds_6 : decode cX8_odds 6 = .ok (.ifCond .ne 5, 3) := by decide +kernel
theorem dX8_odds_9 : decode cX8_odds 9 = .ok (.iconst (-1), 1) := by decide +kernel
theorem dX8_odds_10 : decode cX8_odds 10 = .ok (.ireturn, 1) := by decide +kernel
theorem dX8_odds_11 : decode cX8_odds 11 = .ok (.aload_n 0, 1) := by decide +kernel
theorem dX8_odds_12 : decode cX8_odds 12 = .ok (.iconst 1, 1) := by decide +kernel
theorem dX8_odds_13 : decode cX8_odds 13 = .ok (.invokevirtual 325, 3) := by decide +kernel
theorem dX8_odds_16 : decode cX8_odds 16 = .ok (.istore_n 2, 1) := by decide +kernel
theorem dX8_odds_17 : decode cX8_odds 17 = .ok (.aload_n 0, 1) := by decide +kernel
theorem dX8_odds_18 : decode cX8_odds 18 = .ok (.iconst 0, 1) := by decide +kernel
theorem dX8_odds_19 : decode cX8_odds 19 = .ok (.invokevirtual 325, 3) := by decide +kernel
theorem dX8_odds_22 : decode cX8_odds 22 = .ok (.istore_n 3, 1) := by decide +kernel
theorem dX8_odds_23 : decode cX8_odds 23 = .ok (.aload_n 0, 1) := by decide +kernel
theorem dX8_odds_24 : decode cX8_odds 24 = .ok (.iload_n 2, 1) := by decide +kernel
theorem dX8_odds_25 : decode cX8_odds 25 = .ok (.iload_n 3, 1) := by decide +kernel
theorem dX8_odds_26 : decode cX8_odds 26 = .ok (.aload_n 0, 1) := by decide +kernel
theorem dX8_odds_27 : decode cX8_odds 27 = .ok (.iconst 5, 1) := by decide +kernel
theorem dX8_odds_28 : decode cX8_odds 28 = .ok (.invokevirtual 99, 3) := by decide +kernel
theorem dX8_odds_31 : decode cX8_odds 31 = .ok (.invokevirtual 335, 3) := by decide +kernel
theorem dX8_odds_34 : decode cX8_odds 34 = .ok (.lstore 4, 2) := by decide +kernel
theorem dX8_odds_36 : decode cX8_odds 36 = .ok (.iload_n 1, 1) := by decide +kernel
theorem dX8_odds_37 : decode cX8_odds 37 = .ok (.ifCond .ne 8, 3) := by decide +kernel
theorem dX8_odds_40 : decode cX8_odds 40 = .ok (.lload 4, 2) := by decide +kernel
theorem dX8_odds_42 : decode cX8_odds 42 = .ok (.goto 45, 3) := by decide +kernel
theorem dX8_odds_45 : decode cX8_odds 45 = .ok (.iload_n 1, 1) := by decide +kernel
theorem dX8_odds_46 : decode cX8_odds 46 = .ok (.iconst 1, 1) := by decide +kernel
theorem dX8_odds_47 : decode cX8_odds 47 = .ok (.if_icmp .ne 17, 3) := by decide +kernel
theorem dX8_odds_50 : decode cX8_odds 50 = .ok (.aload_n 0, 1) := by decide +kernel
theorem dX8_odds_51 : decode cX8_odds 51 = .ok (.iload_n 2, 1) := by decide +kernel
theorem dX8_odds_52 : decode cX8_odds 52 = .ok (.iload_n 3, 1) := by decide +kernel
theorem dX8_odds_53 : decode cX8_odds 53 = .ok (.bipush 100, 2) := by decide +kernel
theorem dX8_odds_55 : decode cX8_odds 55 = .ok (.invokevirtual 335, 3) := by decide +kernel
theorem dX8_odds_58 : decode cX8_odds 58 = .ok (.lload 4, 2) := by decide +kernel
theorem dX8_odds_60 : decode cX8_odds 60 = .ok (.lsub, 1) := by decide +kernel
theorem dX8_odds_61 : decode cX8_odds 61 = .ok (.goto 26, 3) := by decide +kernel
theorem dX8_odds_64 : decode cX8_odds 64 = .ok (.lload 4, 2) := by decide +kernel
theorem dX8_odds_66 : decode cX8_odds 66 = .ok (.aload_n 0, 1) := by decide +kernel
theorem dX8_odds_67 : decode cX8_odds 67 = .ok (.iload_n 2, 1) := by decide +kernel
theorem dX8_odds_68 : decode cX8_odds 68 = .ok (.iload_n 3, 1) := by decide +kernel
theorem dX8_odds_69 : decode cX8_odds 69 = .ok (.aload_n 0, 1) := by decide +kernel
theorem dX8_odds_70 : decode cX8_odds 70 = .ok (.iconst 5, 1) := by decide +kernel
theorem dX8_odds_71 : decode cX8_odds 71 = .ok (.invokevirtual 99, 3) := by decide +kernel
theorem dX8_odds_74 : decode cX8_odds 74 = .ok (.aload_n 0, 1) := by decide +kernel
theorem dX8_odds_75 : decode cX8_odds 75 = .ok (.iconst 5, 1) := by decide +kernel
theorem dX8_odds_76 : decode cX8_odds 76 = .ok (.invokevirtual 99, 3) := by decide +kernel
theorem dX8_odds_79 : decode cX8_odds 79 = .ok (.imul, 1) := by decide +kernel
theorem dX8_odds_80 : decode cX8_odds 80 = .ok (.bipush 100, 2) := by decide +kernel
theorem dX8_odds_82 : decode cX8_odds 82 = .ok (.idiv, 1) := by decide +kernel
theorem dX8_odds_83 : decode cX8_odds 83 = .ok (.invokevirtual 335, 3) := by decide +kernel
theorem dX8_odds_86 : decode cX8_odds 86 = .ok (.lsub, 1) := by decide +kernel
theorem dX8_odds_87 : decode cX8_odds 87 = .ok (.l2i, 1) := by decide +kernel
theorem dX8_odds_88 : decode cX8_odds 88 = .ok (.ireturn, 1) := by decide +kernel
theorem dX8_wish_0 : decode cX8_wish 0 = .ok (.iload_n 1, 1) := by decide +kernel
theorem dX8_wish_1 : decode cX8_wish 1 = .ok (.invokestatic 94, 3) := by decide +kernel
theorem dX8_wish_4 : decode cX8_wish 4 = .ok (.ifCond .ne 9, 3) := by decide +kernel
theorem dX8_wish_7 : decode cX8_wish 7 = .ok (.aload_n 0, 1) := by decide +kernel
theorem dX8_wish_8 : decode cX8_wish 8 = .ok (.iconst (-1), 1) := by decide +kernel
theorem dX8_wish_9 : decode cX8_wish 9 = .ok (.invokevirtual 87, 3) := by decide +kernel
theorem dX8_wish_12 : decode cX8_wish 12 = .ok (.ireturn, 1) := by decide +kernel
theorem dX8_wish_13 : decode cX8_wish 13 = .ok (.aload_n 0, 1) := by decide +kernel
theorem dX8_wish_14 : decode cX8_wish 14 = .ok (.getfield 13, 3) := by decide +kernel
theorem dX8_wish_17 : decode cX8_wish 17 = .ok (.bipush 48, 2) := by decide +kernel
theorem dX8_wish_19 : decode cX8_wish 19 = .ok (.iload_n 1, 1) := by decide +kernel
theorem dX8_wish_20 : decode cX8_wish 20 = .ok (.iadd, 1) := by decide +kernel
theorem dX8_wish_21 : decode cX8_wish 21 = .ok (.iaload, 1) := by decide +kernel
theorem dX8_wish_22 : decode cX8_wish 22 = .ok (.ifCond .ne 10, 3) := by decide +kernel
theorem dX8_wish_25 : decode cX8_wish 25 = .ok (.aload_n 0, 1) := by decide +kernel
theorem dX8_wish_26 : decode cX8_wish 26 = .ok (.bipush (-3), 2) := by decide +kernel
theorem dX8_wish_28 : decode cX8_wish 28 = .ok (.invokevirtual 87, 3) := by decide +kernel
theorem dX8_wish_31 : decode cX8_wish 31 = .ok (.ireturn, 1) := by decide +kernel
theorem dX8_wish_32 : decode cX8_wish 32 = .ok (.iconst 0, 1) := by decide +kernel
theorem dX8_wish_33 : decode cX8_wish 33 = .ok (.istore_n 2, 1) := by decide +kernel
theorem dX8_wish_34 : decode cX8_wish 34 = .ok (.iload_n 2, 1) := by decide +kernel
theorem dX8_wish_35 : decode cX8_wish 35 = .ok (.aload_n 0, 1) := by decide +kernel
theorem dX8_wish_36 : decode cX8_wish 36 = .ok (.getfield 338, 3) := by decide +kernel
theorem dX8_wish_39 : decode cX8_wish 39 = .ok (.if_icmp .ge 26, 3) := by decide +kernel
theorem dX8_wish_42 : decode cX8_wish 42 = .ok (.aload_n 0, 1) := by decide +kernel
theorem dX8_wish_43 : decode cX8_wish 43 = .ok (.getfield 68, 3) := by decide +kernel
theorem dX8_wish_46 : decode cX8_wish 46 = .ok (.iload_n 2, 1) := by decide +kernel
theorem dX8_wish_47 : decode cX8_wish 47 = .ok (.iaload, 1) := by decide +kernel
theorem dX8_wish_48 : decode cX8_wish 48 = .ok (.iload_n 1, 1) := by decide +kernel
theorem dX8_wish_49 : decode cX8_wish 49 = .ok (.if_icmp .ne 10, 3) := by decide +kernel
theorem dX8_wish_52 : decode cX8_wish 52 = .ok (.aload_n 0, 1) := by decide +kernel
theorem dX8_wish_53 : decode cX8_wish 53 = .ok (.bipush (-4), 2) := by decide +kernel
theorem dX8_wish_55 : decode cX8_wish 55 = .ok (.invokevirtual 87, 3) := by decide +kernel
theorem dX8_wish_58 : decode cX8_wish 58 = .ok (.ireturn, 1) := by decide +kernel
theorem dX8_wish_59 : decode cX8_wish 59 = .ok (.iinc 2 1, 3) := by decide +kernel
theorem dX8_wish_62 : decode cX8_wish 62 = .ok (.goto (-28), 3) := by decide +kernel
theorem dX8_wish_65 : decode cX8_wish 65 = .ok (.aload_n 0, 1) := by decide +kernel
theorem dX8_wish_66 : decode cX8_wish 66 = .ok (.getfield 338, 3) := by decide +kernel
theorem dX8_wish_69 : decode cX8_wish 69 = .ok (.bipush 9, 2) := by decide +kernel
theorem dX8_wish_71 : decode cX8_wish 71 = .ok (.if_icmp .ne 10, 3) := by decide +kernel
theorem dX8_wish_74 : decode cX8_wish 74 = .ok (.aload_n 0, 1) := by decide +kernel
theorem dX8_wish_75 : decode cX8_wish 75 = .ok (.bipush (-5), 2) := by decide +kernel
theorem dX8_wish_77 : decode cX8_wish 77 = .ok (.invokevirtual 87, 3) := by decide +kernel
theorem dX8_wish_80 : decode cX8_wish 80 = .ok (.ireturn, 1) := by decide +kernel
theorem dX8_wish_81 : decode cX8_wish 81 = .ok (.aload_n 0, 1) := by decide +kernel
theorem dX8_wish_82 : decode cX8_wish 82 = .ok (.getfield 68, 3) := by decide +kernel
theorem dX8_wish_85 : decode cX8_wish 85 = .ok (.aload_n 0, 1) := by decide +kernel
theorem dX8_wish_86 : decode cX8_wish 86 = .ok (.getfield 338, 3) := by decide +kernel
theorem dX8_wish_89 : decode cX8_wish 89 = .ok (.iload_n 1, 1) := by decide +kernel
theorem dX8_wish_90 : decode cX8_wish 90 = .ok (.iastore, 1) := by decide +kernel
theorem dX8_wish_91 : decode cX8_wish 91 = .ok (.aload_n 0, 1) := by decide +kernel
theorem dX8_wish_92 : decode cX8_wish 92 = .ok (.dup, 1) := by decide +kernel
theorem dX8_wish_93 : decode cX8_wish 93 = .ok (.getfield 338, 3) := by decide +kernel
theorem dX8_wish_96 : decode cX8_wish 96 = .ok (.iconst 1, 1) := by decide +kernel
theorem dX8_wish_97 : decode cX8_wish 97 = .ok (.iadd, 1) := by decide +kernel
theorem dX8_wish_98 : decode cX8_wish 98 = .ok (.putfield 338, 3) := by decide +kernel
theorem dX8_wish_101 : decode cX8_wish 101 = .ok (.aload_n 0, 1) := by decide +kernel
theorem dX8_wish_102 : decode cX8_wish 102 = .ok (.aload_n 0, 1) := by decide +kernel
theorem dX8_wish_103 : decode cX8_wish 103 = .ok (.getfield 338, 3) := by decide +kernel
theorem dX8_wish_106 : decode cX8_wish 106 = .ok (.invokevirtual 91, 3) := by decide +kernel
theorem dX8_wish_109 : decode cX8_wish 109 = .ok (.ireturn, 1) := by decide +kernel
theorem dX8_clear_0 : decode cX8_clear 0 = .ok (.aload_n 0, 1) := by decide +kernel
theorem dX8_clear_1 : decode cX8_clear 1 = .ok (.getfield 338, 3) := by decide +kernel
theorem dX8_clear_4 : decode cX8_clear 4 = .ok (.istore_n 1, 1) := by decide +kernel
theorem dX8_clear_5 : decode cX8_clear 5 = .ok (.aload_n 0, 1) := by decide +kernel
theorem dX8_clear_6 : decode cX8_clear 6 = .ok (.iconst 0, 1) := by decide +kernel
theorem dX8_clear_7 : decode cX8_clear 7 = .ok (.putfield 338, 3) := by decide +kernel
theorem dX8_clear_10 : decode cX8_clear 10 = .ok (.iload_n 1, 1) := by decide +kernel
theorem dX8_clear_11 : decode cX8_clear 11 = .ok (.ireturn, 1) := by decide +kernel
theorem dX8_canMend_0 : decode cX8_canMend 0 = .ok (.iconst 0, 1) := by decide +kernel
theorem dX8_canMend_1 : decode cX8_canMend 1 = .ok (.istore_n 1, 1) := by decide +kernel
theorem dX8_canMend_2 : decode cX8_canMend 2 = .ok (.iload_n 1, 1) := by decide +kernel
theorem dX8_canMend_3 : decode cX8_canMend 3 = .ok (.aload_n 0, 1) := by decide +kernel
theorem dX8_canMend_4 : decode cX8_canMend 4 = .ok (.getfield 338, 3) := by decide +kernel
theorem dX8_canMend_7 : decode cX8_canMend 7 = .ok (.if_icmp .ge 28, 3) := by decide +kernel
theorem dX8_canMend_10 : decode cX8_canMend 10 = .ok (.aload_n 0, 1) := by decide +kernel
theorem dX8_canMend_11 : decode cX8_canMend 11 = .ok (.getfield 13, 3) := by decide +kernel
theorem dX8_canMend_14 : decode cX8_canMend 14 = .ok (.bipush 48, 2) := by decide +kernel
theorem dX8_canMend_16 : decode cX8_canMend 16 = .ok (.aload_n 0, 1) := by decide +kernel
theorem dX8_canMend_17 : decode cX8_canMend 17 = .ok (.getfield 68, 3) := by decide +kernel
theorem dX8_canMend_20 : decode cX8_canMend 20 = .ok (.iload_n 1, 1) := by decide +kernel
theorem dX8_canMend_21 : decode cX8_canMend 21 = .ok (.iaload, 1) := by decide +kernel
theorem dX8_canMend_22 : decode cX8_canMend 22 = .ok (.iadd, 1) := by decide +kernel
theorem dX8_canMend_23 : decode cX8_canMend 23 = .ok (.iaload, 1) := by decide +kernel
theorem dX8_canMend_24 : decode cX8_canMend 24 = .ok (.ifCond .ne 5, 3) := by decide +kernel
theorem dX8_canMend_27 : decode cX8_canMend 27 = .ok (.iconst 0, 1) := by decide +kernel
theorem dX8_canMend_28 : decode cX8_canMend 28 = .ok (.ireturn, 1) := by decide +kernel
theorem dX8_canMend_29 : decode cX8_canMend 29 = .ok (.iinc 1 1, 3) := by decide +kernel
theorem dX8_canMend_32 : decode cX8_canMend 32 = .ok (.goto (-30), 3) := by decide +kernel
theorem dX8_canMend_35 : decode cX8_canMend 35 = .ok (.aload_n 0, 1) := by decide +kernel
theorem dX8_canMend_36 : decode cX8_canMend 36 = .ok (.getfield 338, 3) := by decide +kernel
theorem dX8_canMend_39 : decode cX8_canMend 39 = .ok (.ifCond .le 7, 3) := by decide +kernel
theorem dX8_canMend_42 : decode cX8_canMend 42 = .ok (.iconst 1, 1) := by decide +kernel
theorem dX8_canMend_43 : decode cX8_canMend 43 = .ok (.goto 4, 3) := by decide +kernel
theorem dX8_canMend_46 : decode cX8_canMend 46 = .ok (.iconst 0, 1) := by decide +kernel
theorem dX8_canMend_47 : decode cX8_canMend 47 = .ok (.ireturn, 1) := by decide +kernel
theorem dX8_prices_0 : decode cX8_prices 0 = .ok (.aload_n 0, 1) := by decide +kernel
theorem dX8_prices_1 : decode cX8_prices 1 = .ok (.invokevirtual 322, 3) := by decide +kernel
theorem dX8_prices_4 : decode cX8_prices 4 = .ok (.iconst 0, 1) := by decide +kernel
theorem dX8_prices_5 : decode cX8_prices 5 = .ok (.istore_n 1, 1) := by decide +kernel
theorem dX8_prices_6 : decode cX8_prices 6 = .ok (.iload_n 1, 1) := by decide +kernel
theorem dX8_prices_7 : decode cX8_prices 7 = .ok (.iconst 1, 1) := by decide +kernel
theorem dX8_prices_8 : decode cX8_prices 8 = .ok (.aload_n 0, 1) := by decide +kernel
theorem dX8_prices_9 : decode cX8_prices 9 = .ok (.getfield 338, 3) := by decide +kernel
theorem dX8_prices_12 : decode cX8_prices 12 = .ok (.ishl, 1) := by decide +kernel
theorem dX8_prices_13 : decode cX8_prices 13 = .ok (.if_icmp .ge 76, 3) := by decide +kernel
theorem dX8_prices_16 : decode cX8_prices 16 = .ok (.iconst 0, 1) := by decide +kernel
theorem dX8_prices_17 : decode cX8_prices 17 = .ok (.istore_n 2, 1) := by decide +kernel
theorem dX8_prices_18 : decode cX8_prices 18 = .ok (.iload_n 2, 1) := by decide +kernel
theorem dX8_prices_19 : decode cX8_prices 19 = .ok (.aload_n 0, 1) := by decide +kernel
theorem dX8_prices_20 : decode cX8_prices 20 = .ok (.getfield 338, 3) := by decide +kernel
theorem dX8_prices_23 : decode cX8_prices 23 = .ok (.if_icmp .ge 50, 3) := by decide +kernel
theorem dX8_prices_26 : decode cX8_prices 26 = .ok (.aload_n 0, 1) := by decide +kernel
theorem dX8_prices_27 : decode cX8_prices 27 = .ok (.getfield 13, 3) := by decide +kernel
theorem dX8_prices_30 : decode cX8_prices 30 = .ok (.bipush 96, 2) := by decide +kernel
theorem dX8_prices_32 : decode cX8_prices 32 = .ok (.aload_n 0, 1) := by decide +kernel
theorem dX8_prices_33 : decode cX8_prices 33 = .ok (.getfield 68, 3) := by decide +kernel
theorem dX8_prices_36 : decode cX8_prices 36 = .ok (.iload_n 2, 1) := by decide +kernel
theorem dX8_prices_37 : decode cX8_prices 37 = .ok (.iaload, 1) := by decide +kernel
theorem dX8_prices_38 : decode cX8_prices 38 = .ok (.iadd, 1) := by decide +kernel
theorem dX8_prices_39 : decode cX8_prices 39 = .ok (.iload_n 1, 1) := by decide +kernel
theorem dX8_prices_40 : decode cX8_prices 40 = .ok (.iload_n 2, 1) := by decide +kernel
theorem dX8_prices_41 : decode cX8_prices 41 = .ok (.ishr, 1) := by decide +kernel
theorem dX8_prices_42 : decode cX8_prices 42 = .ok (.iconst 1, 1) := by decide +kernel
theorem dX8_prices_43 : decode cX8_prices 43 = .ok (.iand, 1) := by decide +kernel
theorem dX8_prices_44 : decode cX8_prices 44 = .ok (.iconst 1, 1) := by decide +kernel
theorem dX8_prices_45 : decode cX8_prices 45 = .ok (.if_icmp .ne 7, 3) := by decide +kernel
theorem dX8_prices_48 : decode cX8_prices 48 = .ok (.iconst 4, 1) := by decide +kernel
theorem dX8_prices_49 : decode cX8_prices 49 = .ok (.goto 17, 3) := by decide +kernel
theorem dX8_prices_52 : decode cX8_prices 52 = .ok (.aload_n 0, 1) := by decide +kernel
theorem dX8_prices_53 : decode cX8_prices 53 = .ok (.getfield 65, 3) := by decide +kernel
theorem dX8_prices_56 : decode cX8_prices 56 = .ok (.bipush 48, 2) := by decide +kernel
theorem dX8_prices_58 : decode cX8_prices 58 = .ok (.aload_n 0, 1) := by decide +kernel
theorem dX8_prices_59 : decode cX8_prices 59 = .ok (.getfield 68, 3) := by decide +kernel
theorem dX8_prices_62 : decode cX8_prices 62 = .ok (.iload_n 2, 1) := by decide +kernel
theorem dX8_prices_63 : decode cX8_prices 63 = .ok (.iaload, 1) := by decide +kernel
theorem dX8_prices_64 : decode cX8_prices 64 = .ok (.iadd, 1) := by decide +kernel
theorem dX8_prices_65 : decode cX8_prices 65 = .ok (.iaload, 1) := by decide +kernel
theorem dX8_prices_66 : decode cX8_prices 66 = .ok (.iastore, 1) := by decide +kernel
theorem dX8_prices_67 : decode cX8_prices 67 = .ok (.iinc 2 1, 3) := by decide +kernel
theorem dX8_prices_70 : decode cX8_prices 70 = .ok (.goto (-52), 3) := by decide +kernel
theorem dX8_prices_73 : decode cX8_prices 73 = .ok (.aload_n 0, 1) := by decide +kernel
theorem dX8_prices_74 : decode cX8_prices 74 = .ok (.getfield 71, 3) := by decide +kernel
theorem dX8_prices_77 : decode cX8_prices 77 = .ok (.iload_n 1, 1) := by decide +kernel
theorem dX8_prices_78 : decode cX8_prices 78 = .ok (.aload_n 0, 1) := by decide +kernel
theorem dX8_prices_79 : decode cX8_prices 79 = .ok (.invokevirtual 341, 3) := by decide +kernel
theorem dX8_prices_82 : decode cX8_prices 82 = .ok (.lastore, 1) := by decide +kernel
theorem dX8_prices_83 : decode cX8_prices 83 = .ok (.iinc 1 1, 3) := by decide +kernel
theorem dX8_prices_86 : decode cX8_prices 86 = .ok (.goto (-80), 3) := by decide +kernel
theorem dX8_prices_89 : decode cX8_prices 89 = .ok (.aload_n 0, 1) := by decide +kernel
theorem dX8_prices_90 : decode cX8_prices 90 = .ok (.invokevirtual 328, 3) := by decide +kernel
theorem dX8_prices_93 : decode cX8_prices 93 = .ok (.return_, 1) := by decide +kernel
theorem dX8_best_0 : decode cX8_best 0 = .ok (.aload_n 0, 1) := by decide +kernel
theorem dX8_best_1 : decode cX8_best 1 = .ok (.invokevirtual 345, 3) := by decide +kernel
theorem dX8_best_4 : decode cX8_best 4 = .ok (.ifCond .ne 7, 3) := by decide +kernel
theorem dX8_best_7 : decode cX8_best 7 = .ok (.ldc2_w 348, 3) := by decide +kernel
theorem dX8_best_10 : decode cX8_best 10 = .ok (.lreturn, 1) := by decide +kernel
theorem dX8_best_11 : decode cX8_best 11 = .ok (.aload_n 0, 1) := by decide +kernel
theorem dX8_best_12 : decode cX8_best 12 = .ok (.invokevirtual 350, 3) := by decide +kernel
theorem dX8_best_15 : decode cX8_best 15 = .ok (.iconst 1, 1) := by decide +kernel
theorem dX8_best_16 : decode cX8_best 16 = .ok (.aload_n 0, 1) := by decide +kernel
theorem dX8_best_17 : decode cX8_best 17 = .ok (.getfield 338, 3) := by decide +kernel
theorem dX8_best_20 : decode cX8_best 20 = .ok (.ishl, 1) := by decide +kernel
theorem dX8_best_21 : decode cX8_best 21 = .ok (.iconst 1, 1) := by decide +kernel
theorem dX8_best_22 : decode cX8_best 22 = .ok (.isub, 1) := by decide +kernel
theorem dX8_best_23 : decode cX8_best 23 = .ok (.istore_n 1, 1) := by decide +kernel
theorem dX8_best_24 : decode cX8_best 24 = .ok (.aload_n 0, 1) := by decide +kernel
theorem dX8_best_25 : decode cX8_best 25 = .ok (.getfield 74, 3) := by decide +kernel
theorem dX8_best_28 : decode cX8_best 28 = .ok (.iload_n 1, 1) := by decide +kernel
theorem dX8_best_29 : decode cX8_best 29 = .ok (.lconst 0, 1) := by decide +kernel
theorem dX8_best_30 : decode cX8_best 30 = .ok (.lastore, 1) := by decide +kernel
theorem dX8_best_31 : decode cX8_best 31 = .ok (.iload_n 1, 1) := by decide +kernel
theorem dX8_best_32 : decode cX8_best 32 = .ok (.iconst 1, 1) := by decide +kernel
theorem dX8_best_33 : decode cX8_best 33 = .ok (.isub, 1) := by decide +kernel
theorem dX8_best_34 : decode cX8_best 34 = .ok (.istore_n 2, 1) := by decide +kernel
theorem dX8_best_35 : decode cX8_best 35 = .ok (.iload_n 2, 1) := by decide +kernel
theorem dX8_best_36 : decode cX8_best 36 = .ok (.ifCond .lt 87, 3) := by decide +kernel
theorem dX8_best_39 : decode cX8_best 39 = .ok (.ldc2_w 348, 3) := by decide +kernel
theorem dX8_best_42 : decode cX8_best 42 = .ok (.lstore_n 3, 1) := by decide +kernel
theorem dX8_best_43 : decode cX8_best 43 = .ok (.iconst 0, 1) := by decide +kernel
theorem dX8_best_44 : decode cX8_best 44 = .ok (.istore 5, 2) := by decide +kernel
theorem dX8_best_46 : decode cX8_best 46 = .ok (.iload 5, 2) := by decide +kernel
theorem dX8_best_48 : decode cX8_best 48 = .ok (.aload_n 0, 1) := by decide +kernel
theorem dX8_best_49 : decode cX8_best 49 = .ok (.getfield 338, 3) := by decide +kernel
theorem dX8_best_52 : decode cX8_best 52 = .ok (.if_icmp .ge 51, 3) := by decide +kernel
theorem dX8_best_55 : decode cX8_best 55 = .ok (.iload_n 2, 1) := by decide +kernel
theorem dX8_best_56 : decode cX8_best 56 = .ok (.iload 5, 2) := by decide +kernel
theorem dX8_best_58 : decode cX8_best 58 = .ok (.ishr, 1) := by decide +kernel
theorem dX8_best_59 : decode cX8_best 59 = .ok (.iconst 1, 1) := by decide +kernel
theorem dX8_best_60 : decode cX8_best 60 = .ok (.iand, 1) := by decide +kernel
theorem dX8_best_61 : decode cX8_best 61 = .ok (.iconst 1, 1) := by decide +kernel
theorem dX8_best_62 : decode cX8_best 62 = .ok (.if_icmp .ne 6, 3) := by decide +kernel
theorem dX8_best_65 : decode cX8_best 65 = .ok (.goto 32, 3) := by decide +kernel
theorem dX8_best_68 : decode cX8_best 68 = .ok (.aload_n 0, 1) := by decide +kernel
theorem dX8_best_69 : decode cX8_best 69 = .ok (.getfield 74, 3) := by decide +kernel
theorem dX8_best_72 : decode cX8_best 72 = .ok (.iload_n 2, 1) := by decide +kernel
theorem dX8_best_73 : decode cX8_best 73 = .ok (.iconst 1, 1) := by decide +kernel
theorem dX8_best_74 : decode cX8_best 74 = .ok (.iload 5, 2) := by decide +kernel
theorem dX8_best_76 : decode cX8_best 76 = .ok (.ishl, 1) := by decide +kernel
theorem dX8_best_77 : decode cX8_best 77 = .ok (.ior, 1) := by decide +kernel
theorem dX8_best_78 : decode cX8_best 78 = .ok (.laload, 1) := by decide +kernel
theorem dX8_best_79 : decode cX8_best 79 = .ok (.lstore 6, 2) := by decide +kernel
theorem dX8_best_81 : decode cX8_best 81 = .ok (.lload_n 3, 1) := by decide +kernel
theorem dX8_best_82 : decode cX8_best 82 = .ok (.lconst 0, 1) := by decide +kernel
theorem dX8_best_83 : decode cX8_best 83 = .ok (.lcmp, 1) := by decide +kernel
theorem dX8_best_84 : decode cX8_best 84 = .ok (.ifCond .lt 10, 3) := by decide +kernel
theorem dX8_best_87 : decode cX8_best 87 = .ok (.lload 6, 2) := by decide +kernel
theorem dX8_best_89 : decode cX8_best 89 = .ok (.lload_n 3, 1) := by decide +kernel
theorem dX8_best_90 : decode cX8_best 90 = .ok (.lcmp, 1) := by decide +kernel
theorem dX8_best_91 : decode cX8_best 91 = .ok (.ifCond .ge 6, 3) := by decide +kernel
theorem dX8_best_94 : decode cX8_best 94 = .ok (.lload 6, 2) := by decide +kernel
theorem dX8_best_96 : decode cX8_best 96 = .ok (.lstore_n 3, 1) := by decide +kernel
theorem dX8_best_97 : decode cX8_best 97 = .ok (.iinc 5 1, 3) := by decide +kernel
theorem dX8_best_100 : decode cX8_best 100 = .ok (.goto (-54), 3) := by decide +kernel
theorem dX8_best_103 : decode cX8_best 103 = .ok (.aload_n 0, 1) := by decide +kernel
theorem dX8_best_104 : decode cX8_best 104 = .ok (.getfield 74, 3) := by decide +kernel
theorem dX8_best_107 : decode cX8_best 107 = .ok (.iload_n 2, 1) := by decide +kernel
theorem dX8_best_108 : decode cX8_best 108 = .ok (.aload_n 0, 1) := by decide +kernel
theorem dX8_best_109 : decode cX8_best 109 = .ok (.getfield 71, 3) := by decide +kernel
theorem dX8_best_112 : decode cX8_best 112 = .ok (.iload_n 2, 1) := by decide +kernel
theorem dX8_best_113 : decode cX8_best 113 = .ok (.laload, 1) := by decide +kernel
theorem dX8_best_114 : decode cX8_best 114 = .ok (.lload_n 3, 1) := by decide +kernel
theorem dX8_best_115 : decode cX8_best 115 = .ok (.ladd, 1) := by decide +kernel
theorem dX8_best_116 : decode cX8_best 116 = .ok (.lastore, 1) := by decide +kernel
theorem dX8_best_117 : decode cX8_best 117 = .ok (.iinc 2 (-1), 3) := by decide +kernel
theorem dX8_best_120 : decode cX8_best 120 = .ok (.goto (-85), 3) := by decide +kernel
theorem dX8_best_123 : decode cX8_best 123 = .ok (.aload_n 0, 1) := by decide +kernel
theorem dX8_best_124 : decode cX8_best 124 = .ok (.aload_n 0, 1) := by decide +kernel
theorem dX8_best_125 : decode cX8_best 125 = .ok (.getfield 338, 3) := by decide +kernel
theorem dX8_best_128 : decode cX8_best 128 = .ok (.putfield 80, 3) := by decide +kernel
theorem dX8_best_131 : decode cX8_best 131 = .ok (.iconst 0, 1) := by decide +kernel
theorem dX8_best_132 : decode cX8_best 132 = .ok (.istore_n 2, 1) := by decide +kernel
theorem dX8_best_133 : decode cX8_best 133 = .ok (.iconst 0, 1) := by decide +kernel
theorem dX8_best_134 : decode cX8_best 134 = .ok (.istore_n 3, 1) := by decide +kernel
theorem dX8_best_135 : decode cX8_best 135 = .ok (.iload_n 3, 1) := by decide +kernel
theorem dX8_best_136 : decode cX8_best 136 = .ok (.aload_n 0, 1) := by decide +kernel
theorem dX8_best_137 : decode cX8_best 137 = .ok (.getfield 338, 3) := by decide +kernel
theorem dX8_best_140 : decode cX8_best 140 = .ok (.if_icmp .ge 71, 3) := by decide +kernel
theorem dX8_best_143 : decode cX8_best 143 = .ok (.iconst 0, 1) := by decide +kernel
theorem dX8_best_144 : decode cX8_best 144 = .ok (.istore 4, 2) := by decide +kernel
theorem dX8_best_146 : decode cX8_best 146 = .ok (.iload_n 2, 1) := by decide +kernel
theorem dX8_best_147 : decode cX8_best 147 = .ok (.iload 4, 2) := by decide +kernel
theorem dX8_best_149 : decode cX8_best 149 = .ok (.ishr, 1) := by decide +kernel
theorem dX8_best_150 : decode cX8_best 150 = .ok (.iconst 1, 1) := by decide +kernel
theorem dX8_best_151 : decode cX8_best 151 = .ok (.iand, 1) := by decide +kernel
theorem dX8_best_152 : decode cX8_best 152 = .ok (.iconst 1, 1) := by decide +kernel
theorem dX8_best_153 : decode cX8_best 153 = .ok (.if_icmp .eq 31, 3) := by decide +kernel
theorem dX8_best_156 : decode cX8_best 156 = .ok (.aload_n 0, 1) := by decide +kernel
theorem dX8_best_157 : decode cX8_best 157 = .ok (.getfield 74, 3) := by decide +kernel
theorem dX8_best_160 : decode cX8_best 160 = .ok (.iload_n 2, 1) := by decide +kernel
theorem dX8_best_161 : decode cX8_best 161 = .ok (.iconst 1, 1) := by decide +kernel
theorem dX8_best_162 : decode cX8_best 162 = .ok (.iload 4, 2) := by decide +kernel
theorem dX8_best_164 : decode cX8_best 164 = .ok (.ishl, 1) := by decide +kernel
theorem dX8_best_165 : decode cX8_best 165 = .ok (.ior, 1) := by decide +kernel
theorem dX8_best_166 : decode cX8_best 166 = .ok (.laload, 1) := by decide +kernel
theorem dX8_best_167 : decode cX8_best 167 = .ok (.aload_n 0, 1) := by decide +kernel
theorem dX8_best_168 : decode cX8_best 168 = .ok (.getfield 74, 3) := by decide +kernel
theorem dX8_best_171 : decode cX8_best 171 = .ok (.iload_n 2, 1) := by decide +kernel
theorem dX8_best_172 : decode cX8_best 172 = .ok (.laload, 1) := by decide +kernel
theorem dX8_best_173 : decode cX8_best 173 = .ok (.aload_n 0, 1) := by decide +kernel
theorem dX8_best_174 : decode cX8_best 174 = .ok (.getfield 71, 3) := by decide +kernel
theorem dX8_best_177 : decode cX8_best 177 = .ok (.iload_n 2, 1) := by decide +kernel
theorem dX8_best_178 : decode cX8_best 178 = .ok (.laload, 1) := by decide +kernel
theorem dX8_best_179 : decode cX8_best 179 = .ok (.lsub, 1) := by decide +kernel
theorem dX8_best_180 : decode cX8_best 180 = .ok (.lcmp, 1) := by decide +kernel
theorem dX8_best_181 : decode cX8_best 181 = .ok (.ifCond .eq 9, 3) := by decide +kernel
theorem dX8_best_184 : decode cX8_best 184 = .ok (.iinc 4 1, 3) := by decide +kernel
theorem dX8_best_187 : decode cX8_best 187 = .ok (.goto (-41), 3) := by decide +kernel
theorem dX8_best_190 : decode cX8_best 190 = .ok (.aload_n 0, 1) := by decide +kernel
theorem dX8_best_191 : decode cX8_best 191 = .ok (.getfield 77, 3) := by decide +kernel
theorem dX8_best_194 : decode cX8_best 194 = .ok (.iload_n 3, 1) := by decide +kernel
theorem dX8_best_195 : decode cX8_best 195 = .ok (.iload 4, 2) := by decide +kernel
theorem dX8_best_197 : decode cX8_best 197 = .ok (.iastore, 1) := by decide +kernel
theorem dX8_best_198 : decode cX8_best 198 = .ok (.iload_n 2, 1) := by decide +kernel
theorem dX8_best_199 : decode cX8_best 199 = .ok (.iconst 1, 1) := by decide +kernel
theorem dX8_best_200 : decode cX8_best 200 = .ok (.iload 4, 2) := by decide +kernel
theorem dX8_best_202 : decode cX8_best 202 = .ok (.ishl, 1) := by decide +kernel
theorem dX8_best_203 : decode cX8_best 203 = .ok (.ior, 1) := by decide +kernel
theorem dX8_best_204 : decode cX8_best 204 = .ok (.istore_n 2, 1) := by decide +kernel
theorem dX8_best_205 : decode cX8_best 205 = .ok (.iinc 3 1, 3) := by decide +kernel
theorem dX8_best_208 : decode cX8_best 208 = .ok (.goto (-73), 3) := by decide +kernel
theorem dX8_best_211 : decode cX8_best 211 = .ok (.aload_n 0, 1) := by decide +kernel
theorem dX8_best_212 : decode cX8_best 212 = .ok (.getfield 74, 3) := by decide +kernel
theorem dX8_best_215 : decode cX8_best 215 = .ok (.iconst 0, 1) := by decide +kernel
theorem dX8_best_216 : decode cX8_best 216 = .ok (.laload, 1) := by decide +kernel
theorem dX8_best_217 : decode cX8_best 217 = .ok (.lreturn, 1) := by decide +kernel
theorem dX8_night_0 : decode cX8_night 0 = .ok (.iload_n 1, 1) := by decide +kernel
theorem dX8_night_1 : decode cX8_night 1 = .ok (.iconst 0, 1) := by decide +kernel
theorem dX8_night_2 : decode cX8_night 2 = .ok (.aload_n 0, 1) := by decide +kernel
theorem dX8_night_3 : decode cX8_night 3 = .ok (.getfield 80, 3) := by decide +kernel
theorem dX8_night_6 : decode cX8_night 6 = .ok (.iconst 1, 1) := by decide +kernel
theorem dX8_night_7 : decode cX8_night 7 = .ok (.isub, 1) := by decide +kernel
theorem dX8_night_8 : decode cX8_night 8 = .ok (.invokestatic 83, 3) := by decide +kernel
theorem dX8_night_11 : decode cX8_night 11 = .ok (.ifCond .eq 12, 3) := by decide +kernel
theorem dX8_night_14 : decode cX8_night 14 = .ok (.aload_n 0, 1) := by decide +kernel
theorem dX8_night_15 : decode cX8_night 15 = .ok (.getfield 77, 3) := by decide +kernel
theorem dX8_night_18 : decode cX8_night 18 = .ok (.iload_n 1, 1) := by decide +kernel
theorem dX8_night_19 : decode cX8_night 19 = .ok (.iaload, 1) := by decide +kernel
theorem dX8_night_20 : decode cX8_night 20 = .ok (.goto 4, 3) := by decide +kernel
theorem dX8_night_23 : decode cX8_night 23 = .ok (.iconst (-1), 1) := by decide +kernel
theorem dX8_night_24 : decode cX8_night 24 = .ok (.ireturn, 1) := by decide +kernel
theorem dX8_ones_0 : decode cX8_ones 0 = .ok (.iconst 0, 1) := by decide +kernel
theorem dX8_ones_1 : decode cX8_ones 1 = .ok (.istore_n 1, 1) := by decide +kernel
theorem dX8_ones_2 : decode cX8_ones 2 = .ok (.iconst 0, 1) := by decide +kernel
theorem dX8_ones_3 : decode cX8_ones 3 = .ok (.istore_n 2, 1) := by decide +kernel
theorem dX8_ones_4 : decode cX8_ones 4 = .ok (.iload_n 2, 1) := by decide +kernel
theorem dX8_ones_5 : decode cX8_ones 5 = .ok (.bipush 9, 2) := by decide +kernel
theorem dX8_ones_7 : decode cX8_ones 7 = .ok (.if_icmp .ge 17, 3) := by decide +kernel
theorem dX8_ones_10 : decode cX8_ones 10 = .ok (.iload_n 1, 1) := by decide +kernel
theorem dX8_ones_11 : decode cX8_ones 11 = .ok (.iload_n 0, 1) := by decide +kernel
theorem dX8_ones_12 : decode cX8_ones 12 = .ok (.iload_n 2, 1) := by decide +kernel
theorem dX8_ones_13 : decode cX8_ones 13 = .ok (.ishr, 1) := by decide +kernel
theorem dX8_ones_14 : decode cX8_ones 14 = .ok (.iconst 1, 1) := by decide +kernel
theorem dX8_ones_15 : decode cX8_ones 15 = .ok (.iand, 1) := by decide +kernel
theorem dX8_ones_16 : decode cX8_ones 16 = .ok (.iadd, 1) := by decide +kernel
theorem dX8_ones_17 : decode cX8_ones 17 = .ok (.istore_n 1, 1) := by decide +kernel
theorem dX8_ones_18 : decode cX8_ones 18 = .ok (.iinc 2 1, 3) := by decide +kernel
theorem dX8_ones_21 : decode cX8_ones 21 = .ok (.goto (-17), 3) := by decide +kernel
theorem dX8_ones_24 : decode cX8_ones 24 = .ok (.iload_n 1, 1) := by decide +kernel
theorem dX8_ones_25 : decode cX8_ones 25 = .ok (.ireturn, 1) := by decide +kernel
theorem dX8_low_0 : decode cX8_low 0 = .ok (.aload_n 0, 1) := by decide +kernel
theorem dX8_low_1 : decode cX8_low 1 = .ok (.invokevirtual 345, 3) := by decide +kernel
theorem dX8_low_4 : decode cX8_low 4 = .ok (.ifCond .ne 7, 3) := by decide +kernel
theorem dX8_low_7 : decode cX8_low 7 = .ok (.ldc2_w 348, 3) := by decide +kernel
theorem dX8_low_10 : decode cX8_low 10 = .ok (.lreturn, 1) := by decide +kernel
theorem dX8_low_11 : decode cX8_low 11 = .ok (.aload_n 0, 1) := by decide +kernel
theorem dX8_low_12 : decode cX8_low 12 = .ok (.invokevirtual 350, 3) := by decide +kernel
theorem dX8_low_15 : decode cX8_low 15 = .ok (.lconst 0, 1) := by decide +kernel
theorem dX8_low_16 : decode cX8_low 16 = .ok (.lstore_n 1, 1) := by decide +kernel
theorem dX8_low_17 : decode cX8_low 17 = .ok (.iconst 0, 1) := by decide +kernel
theorem dX8_low_18 : decode cX8_low 18 = .ok (.istore_n 3, 1) := by decide +kernel
theorem dX8_low_19 : decode cX8_low 19 = .ok (.iload_n 3, 1) := by decide +kernel
theorem dX8_low_20 : decode cX8_low 20 = .ok (.aload_n 0, 1) := by decide +kernel
theorem dX8_low_21 : decode cX8_low 21 = .ok (.getfield 338, 3) := by decide +kernel
theorem dX8_low_24 : decode cX8_low 24 = .ok (.if_icmp .ge 77, 3) := by decide +kernel
theorem dX8_low_27 : decode cX8_low 27 = .ok (.ldc2_w 348, 3) := by decide +kernel
theorem dX8_low_30 : decode cX8_low 30 = .ok (.lstore 4, 2) := by decide +kernel
theorem dX8_low_32 : decode cX8_low 32 = .ok (.iconst 0, 1) := by decide +kernel
theorem dX8_low_33 : decode cX8_low 33 = .ok (.istore 6, 2) := by decide +kernel
theorem dX8_low_35 : decode cX8_low 35 = .ok (.iload 6, 2) := by decide +kernel
theorem dX8_low_37 : decode cX8_low 37 = .ok (.iconst 1, 1) := by decide +kernel
theorem dX8_low_38 : decode cX8_low 38 = .ok (.aload_n 0, 1) := by decide +kernel
theorem dX8_low_39 : decode cX8_low 39 = .ok (.getfield 338, 3) := by decide +kernel
theorem dX8_low_42 : decode cX8_low 42 = .ok (.ishl, 1) := by decide +kernel
theorem dX8_low_43 : decode cX8_low 43 = .ok (.if_icmp .ge 47, 3) := by decide +kernel
theorem dX8_low_46 : decode cX8_low 46 = .ok (.iload 6, 2) := by decide +kernel
theorem dX8_low_48 : decode cX8_low 48 = .ok (.invokestatic 353, 3) := by decide +kernel
theorem dX8_low_51 : decode cX8_low 51 = .ok (.iload_n 3, 1) := by decide +kernel
theorem dX8_low_52 : decode cX8_low 52 = .ok (.if_icmp .ne 32, 3) := by decide +kernel
theorem dX8_low_55 : decode cX8_low 55 = .ok (.lload 4, 2) := by decide +kernel
theorem dX8_low_57 : decode cX8_low 57 = .ok (.lconst 0, 1) := by decide +kernel
theorem dX8_low_58 : decode cX8_low 58 = .ok (.lcmp, 1) := by decide +kernel
theorem dX8_low_59 : decode cX8_low 59 = .ok (.ifCond .lt 16, 3) := by decide +kernel
theorem dX8_low_62 : decode cX8_low 62 = .ok (.aload_n 0, 1) := by decide +kernel
theorem dX8_low_63 : decode cX8_low 63 = .ok (.getfield 71, 3) := by decide +kernel
theorem dX8_low_66 : decode cX8_low 66 = .ok (.iload 6, 2) := by decide +kernel
theorem dX8_low_68 : decode cX8_low 68 = .ok (.laload, 1) := by decide +kernel
theorem dX8_low_69 : decode cX8_low 69 = .ok (.lload 4, 2) := by decide +kernel
theorem dX8_low_71 : decode cX8_low 71 = .ok (.lcmp, 1) := by decide +kernel
theorem dX8_low_72 : decode cX8_low 72 = .ok (.ifCond .ge 12, 3) := by decide +kernel
theorem dX8_low_75 : decode cX8_low 75 = .ok (.aload_n 0, 1) := by decide +kernel
theorem dX8_low_76 : decode cX8_low 76 = .ok (.getfield 71, 3) := by decide +kernel
theorem dX8_low_79 : decode cX8_low 79 = .ok (.iload 6, 2) := by decide +kernel
theorem dX8_low_81 : decode cX8_low 81 = .ok (.laload, 1) := by decide +kernel
theorem dX8_low_82 : decode cX8_low 82 = .ok (.lstore 4, 2) := by decide +kernel
theorem dX8_low_84 : decode cX8_low 84 = .ok (.iinc 6 1, 3) := by decide +kernel
theorem dX8_low_87 : decode cX8_low 87 = .ok (.goto (-52), 3) := by decide +kernel
theorem dX8_low_90 : decode cX8_low 90 = .ok (.lload_n 1, 1) := by decide +kernel
theorem dX8_low_91 : decode cX8_low 91 = .ok (.lload 4, 2) := by decide +kernel
theorem dX8_low_93 : decode cX8_low 93 = .ok (.ladd, 1) := by decide +kernel
theorem dX8_low_94 : decode cX8_low 94 = .ok (.lstore_n 1, 1) := by decide +kernel
theorem dX8_low_95 : decode cX8_low 95 = .ok (.iinc 3 1, 3) := by decide +kernel
theorem dX8_low_98 : decode cX8_low 98 = .ok (.goto (-79), 3) := by decide +kernel
theorem dX8_low_101 : decode cX8_low 101 = .ok (.lload_n 1, 1) := by decide +kernel
theorem dX8_low_102 : decode cX8_low 102 = .ok (.lreturn, 1) := by decide +kernel
theorem dX8_isEnough_0 : decode cX8_isEnough 0 = .ok (.iconst 0, 1) := by decide +kernel
theorem dX8_isEnough_1 : decode cX8_isEnough 1 = .ok (.istore_n 2, 1) := by decide +kernel
theorem dX8_isEnough_2 : decode cX8_isEnough 2 = .ok (.lconst 0, 1) := by decide +kernel
theorem dX8_isEnough_3 : decode cX8_isEnough 3 = .ok (.lstore_n 3, 1) := by decide +kernel
theorem dX8_isEnough_4 : decode cX8_isEnough 4 = .ok (.aload_n 0, 1) := by decide +kernel
theorem dX8_isEnough_5 : decode cX8_isEnough 5 = .ok (.invokevirtual 141, 3) := by decide +kernel
theorem dX8_isEnough_8 : decode cX8_isEnough 8 = .ok (.iconst 0, 1) := by decide +kernel
theorem dX8_isEnough_9 : decode cX8_isEnough 9 = .ok (.istore 5, 2) := by decide +kernel
theorem dX8_isEnough_11 : decode cX8_isEnough 11 = .ok (.iload 5, 2) := by decide +kernel
theorem dX8_isEnough_13 : decode cX8_isEnough 13 = .ok (.aload_n 0, 1) := by decide +kernel
theorem dX8_isEnough_14 : decode cX8_isEnough 14 = .ok (.getfield 13, 3) := by decide +kernel
theorem dX8_isEnough_17 : decode cX8_isEnough 17 = .ok (.sipush 1633, 3) := by decide +kernel
theorem dX8_isEnough_20 : decode cX8_isEnough 20 = .ok (.iaload, 1) := by decide +kernel
theorem dX8_isEnough_21 : decode cX8_isEnough 21 = .ok (.if_icmp .ge 63, 3) := by decide +kernel
theorem dX8_isEnough_24 : decode cX8_isEnough 24 = .ok (.aload_n 0, 1) := by decide +kernel
theorem dX8_isEnough_25 : decode cX8_isEnough 25 = .ok (.iload 5, 2) := by decide +kernel
theorem dX8_isEnough_27 : decode cX8_isEnough 27 = .ok (.iconst 0, 1) := by decide +kernel
theorem dX8_isEnough_28 : decode cX8_isEnough 28 = .ok (.invokevirtual 109, 3) := by decide +kernel
theorem dX8_isEnough_31 : decode cX8_isEnough 31 = .ok (.iconst 2, 1) := by decide +kernel
theorem dX8_isEnough_32 : decode cX8_isEnough 32 = .ok (.irem, 1) := by decide +kernel
theorem dX8_isEnough_33 : decode cX8_isEnough 33 = .ok (.iconst 1, 1) := by decide +kernel
theorem dX8_isEnough_34 : decode cX8_isEnough 34 = .ok (.if_icmp .ne 6, 3) := by decide +kernel
theorem dX8_isEnough_37 : decode cX8_isEnough 37 = .ok (.goto 41, 3) := by decide +kernel
theorem dX8_isEnough_40 : decode cX8_isEnough 40 = .ok (.aload_n 0, 1) := by decide +kernel
theorem dX8_isEnough_41 : decode cX8_isEnough 41 = .ok (.iload 5, 2) := by decide +kernel
theorem dX8_isEnough_43 : decode cX8_isEnough 43 = .ok (.iconst 1, 1) := by decide +kernel
theorem dX8_isEnough_44 : decode cX8_isEnough 44 = .ok (.iload_n 1, 1) := by decide +kernel
theorem dX8_isEnough_45 : decode cX8_isEnough 45 = .ok (.bipush 8, 2) := by decide +kernel
theorem dX8_isEnough_47 : decode cX8_isEnough 47 = .ok (.idiv, 1) := by decide +kernel
theorem dX8_isEnough_48 : decode cX8_isEnough 48 = .ok (.invokevirtual 144, 3) := by decide +kernel
theorem dX8_isEnough_51 : decode cX8_isEnough 51 = .ok (.pop, 1) := by decide +kernel
theorem dX8_isEnough_52 : decode cX8_isEnough 52 = .ok (.aload_n 0, 1) := by decide +kernel
theorem dX8_isEnough_53 : decode cX8_isEnough 53 = .ok (.iload_n 1, 1) := by decide +kernel
theorem dX8_isEnough_54 : decode cX8_isEnough 54 = .ok (.iconst 1, 1) := by decide +kernel
theorem dX8_isEnough_55 : decode cX8_isEnough 55 = .ok (.invokevirtual 147, 3) := by decide +kernel
theorem dX8_isEnough_58 : decode cX8_isEnough 58 = .ok (.iload_n 2, 1) := by decide +kernel
theorem dX8_isEnough_59 : decode cX8_isEnough 59 = .ok (.ifCond .eq 12, 3) := by decide +kernel
theorem dX8_isEnough_62 : decode cX8_isEnough 62 = .ok (.aload_n 0, 1) := by decide +kernel
theorem dX8_isEnough_63 : decode cX8_isEnough 63 = .ok (.getfield 133, 3) := by decide +kernel
theorem dX8_isEnough_66 : decode cX8_isEnough 66 = .ok (.lload_n 3, 1) := by decide +kernel
theorem dX8_isEnough_67 : decode cX8_isEnough 67 = .ok (.lcmp, 1) := by decide +kernel
theorem dX8_isEnough_68 : decode cX8_isEnough 68 = .ok (.ifCond .le 8, 3) := by decide +kernel
theorem dX8_isEnough_71 : decode cX8_isEnough 71 = .ok (.aload_n 0, 1) := by decide +kernel
theorem dX8_isEnough_72 : decode cX8_isEnough 72 = .ok (.getfield 133, 3) := by decide +kernel
theorem dX8_isEnough_75 : decode cX8_isEnough 75 = .ok (.lstore_n 3, 1) := by decide +kernel
theorem dX8_isEnough_76 : decode cX8_isEnough 76 = .ok (.iconst 1, 1) := by decide +kernel
theorem dX8_isEnough_77 : decode cX8_isEnough 77 = .ok (.istore_n 2, 1) := by decide +kernel
theorem dX8_isEnough_78 : decode cX8_isEnough 78 = .ok (.iinc 5 1, 3) := by decide +kernel
theorem dX8_isEnough_81 : decode cX8_isEnough 81 = .ok (.goto (-70), 3) := by decide +kernel
theorem dX8_isEnough_84 : decode cX8_isEnough 84 = .ok (.iconst 0, 1) := by decide +kernel
theorem dX8_isEnough_85 : decode cX8_isEnough 85 = .ok (.istore 5, 2) := by decide +kernel
theorem dX8_isEnough_87 : decode cX8_isEnough 87 = .ok (.iload 5, 2) := by decide +kernel
theorem dX8_isEnough_89 : decode cX8_isEnough 89 = .ok (.aload_n 0, 1) := by decide +kernel
theorem dX8_isEnough_90 : decode cX8_isEnough 90 = .ok (.getfield 13, 3) := by decide +kernel
theorem dX8_isEnough_93 : decode cX8_isEnough 93 = .ok (.sipush 1633, 3) := by decide +kernel
theorem dX8_isEnough_96 : decode cX8_isEnough 96 = .ok (.iaload, 1) := by decide +kernel
theorem dX8_isEnough_97 : decode cX8_isEnough 97 = .ok (.if_icmp .ge 57, 3) := by decide +kernel
theorem dX8_isEnough_100 : decode cX8_isEnough 100 = .ok (.aload_n 0, 1) := by decide +kernel
theorem dX8_isEnough_101 : decode cX8_isEnough 101 = .ok (.iload 5, 2) := by decide +kernel
theorem dX8_isEnough_103 : decode cX8_isEnough 103 = .ok (.iconst 0, 1) := by decide +kernel
theorem dX8_isEnough_104 : decode cX8_isEnough 104 = .ok (.invokevirtual 109, 3) := by decide +kernel
theorem dX8_isEnough_107 : decode cX8_isEnough 107 = .ok (.iconst 2, 1) := by decide +kernel
theorem dX8_isEnough_108 : decode cX8_isEnough 108 = .ok (.irem, 1) := by decide +kernel
theorem dX8_isEnough_109 : decode cX8_isEnough 109 = .ok (.ifCond .ne 6, 3) := by decide +kernel
theorem dX8_isEnough_112 : decode cX8_isEnough 112 = .ok (.goto 36, 3) := by decide +kernel
theorem dX8_isEnough_115 : decode cX8_isEnough 115 = .ok (.aload_n 0, 1) := by decide +kernel
theorem dX8_isEnough_116 : decode cX8_isEnough 116 = .ok (.iload 5, 2) := by decide +kernel
theorem dX8_isEnough_118 : decode cX8_isEnough 118 = .ok (.iconst 1, 1) := by decide +kernel
theorem dX8_isEnough_119 : decode cX8_isEnough 119 = .ok (.iload_n 1, 1) := by decide +kernel
theorem dX8_isEnough_120 : decode cX8_isEnough 120 = .ok (.bipush 8, 2) := by decide +kernel
theorem dX8_isEnough_122 : decode cX8_isEnough 122 = .ok (.idiv, 1) := by decide +kernel
theorem dX8_isEnough_123 : decode cX8_isEnough 123 = .ok (.invokevirtual 144, 3) := by decide +kernel
theorem dX8_isEnough_126 : decode cX8_isEnough 126 = .ok (.pop, 1) := by decide +kernel
theorem dX8_isEnough_127 : decode cX8_isEnough 127 = .ok (.aload_n 0, 1) := by decide +kernel
theorem dX8_isEnough_128 : decode cX8_isEnough 128 = .ok (.iload_n 1, 1) := by decide +kernel
theorem dX8_isEnough_129 : decode cX8_isEnough 129 = .ok (.iconst 1, 1) := by decide +kernel
theorem dX8_isEnough_130 : decode cX8_isEnough 130 = .ok (.invokevirtual 147, 3) := by decide +kernel
theorem dX8_isEnough_133 : decode cX8_isEnough 133 = .ok (.iload_n 2, 1) := by decide +kernel
theorem dX8_isEnough_134 : decode cX8_isEnough 134 = .ok (.ifCond .eq 12, 3) := by decide +kernel
theorem dX8_isEnough_137 : decode cX8_isEnough 137 = .ok (.aload_n 0, 1) := by decide +kernel
theorem dX8_isEnough_138 : decode cX8_isEnough 138 = .ok (.getfield 133, 3) := by decide +kernel
theorem dX8_isEnough_141 : decode cX8_isEnough 141 = .ok (.lload_n 3, 1) := by decide +kernel
theorem dX8_isEnough_142 : decode cX8_isEnough 142 = .ok (.lcmp, 1) := by decide +kernel
theorem dX8_isEnough_143 : decode cX8_isEnough 143 = .ok (.ifCond .le 5, 3) := by decide +kernel
theorem dX8_isEnough_146 : decode cX8_isEnough 146 = .ok (.iconst 0, 1) := by decide +kernel
theorem dX8_isEnough_147 : decode cX8_isEnough 147 = .ok (.ireturn, 1) := by decide +kernel
theorem dX8_isEnough_148 : decode cX8_isEnough 148 = .ok (.iinc 5 1, 3) := by decide +kernel
theorem dX8_isEnough_151 : decode cX8_isEnough 151 = .ok (.goto (-64), 3) := by decide +kernel
theorem dX8_isEnough_154 : decode cX8_isEnough 154 = .ok (.iconst 1, 1) := by decide +kernel
theorem dX8_isEnough_155 : decode cX8_isEnough 155 = .ok (.ireturn, 1) := by decide +kernel
theorem dX8_enough_0 : decode cX8_enough 0 = .ok (.iload_n 1, 1) := by decide +kernel
theorem dX8_enough_1 : decode cX8_enough 1 = .ok (.invokestatic 94, 3) := by decide +kernel
theorem dX8_enough_4 : decode cX8_enough 4 = .ok (.ifCond .eq 19, 3) := by decide +kernel
theorem dX8_enough_7 : decode cX8_enough 7 = .ok (.aload_n 0, 1) := by decide +kernel
theorem dX8_enough_8 : decode cX8_enough 8 = .ok (.iload_n 1, 1) := by decide +kernel
theorem dX8_enough_9 : decode cX8_enough 9 = .ok (.invokevirtual 356, 3) := by decide +kernel
theorem dX8_enough_12 : decode cX8_enough 12 = .ok (.ifCond .eq 7, 3) := by decide +kernel
theorem dX8_enough_15 : decode cX8_enough 15 = .ok (.iconst 1, 1) := by decide +kernel
theorem dX8_enough_16 : decode cX8_enough 16 = .ok (.goto 8, 3) := by decide +kernel
theorem dX8_enough_19 : decode cX8_enough 19 = .ok (.iconst 0, 1) := by decide +kernel
theorem dX8_enough_20 : decode cX8_enough 20 = .ok (.goto 4, 3) := by decide +kernel
theorem dX8_enough_23 : decode cX8_enough 23 = .ok (.iconst (-1), 1) := by decide +kernel
theorem dX8_enough_24 : decode cX8_enough 24 = .ok (.ireturn, 1) := by decide +kernel
theorem dX8_move_0 : decode cX8_move 0 = .ok (.aload_n 0, 1) := by decide +kernel
theorem dX8_move_1 : decode cX8_move 1 = .ok (.iconst 3, 1) := by decide +kernel
theorem dX8_move_2 : decode cX8_move 2 = .ok (.invokevirtual 99, 3) := by decide +kernel
theorem dX8_move_5 : decode cX8_move 5 = .ok (.istore_n 1, 1) := by decide +kernel
theorem dX8_move_6 : decode cX8_move 6 = .ok (.iconst (-1), 1) := by decide +kernel
theorem dX8_move_7 : decode cX8_move 7 = .ok (.istore_n 2, 1) := by decide +kernel
theorem dX8_move_8 : decode cX8_move 8 = .ok (.iload_n 1, 1) := by decide +kernel
theorem dX8_move_9 : decode cX8_move 9 = .ok (.istore_n 3, 1) := by decide +kernel
theorem dX8_move_10 : decode cX8_move 10 = .ok (.iload_n 3, 1) := by decide +kernel
theorem dX8_move_11 : decode cX8_move 11 = .ok (.bipush 10, 2) := by decide +kernel
theorem dX8_move_13 : decode cX8_move 13 = .ok (.if_icmp .gt 62, 3) := by decide +kernel
theorem dX8_move_16 : decode cX8_move 16 = .ok (.iload_n 2, 1) := by decide +kernel
theorem dX8_move_17 : decode cX8_move 17 = .ok (.iconst (-1), 1) := by decide +kernel
theorem dX8_move_18 : decode cX8_move 18 = .ok (.if_icmp .ne 57, 3) := by decide +kernel
theorem dX8_move_21 : decode cX8_move 21 = .ok (.aload_n 0, 1) := by decide +kernel
theorem dX8_move_22 : decode cX8_move 22 = .ok (.getfield 13, 3) := by decide +kernel
theorem dX8_move_25 : decode cX8_move 25 = .ok (.sipush 159, 3) := by decide +kernel
theorem dX8_move_28 : decode cX8_move 28 = .ok (.iload_n 3, 1) := by decide +kernel
theorem dX8_move_29 : decode cX8_move 29 = .ok (.iastore, 1) := by decide +kernel
theorem dX8_move_30 : decode cX8_move 30 = .ok (.iconst 1, 1) := by decide +kernel
theorem dX8_move_31 : decode cX8_move 31 = .ok (.istore 4, 2) := by decide +kernel
theorem dX8_move_33 : decode cX8_move 33 = .ok (.iconst 0, 1) := by decide +kernel
theorem dX8_move_34 : decode cX8_move 34 = .ok (.istore 5, 2) := by decide +kernel
theorem dX8_move_36 : decode cX8_move 36 = .ok (.iload 5, 2) := by decide +kernel
theorem dX8_move_38 : decode cX8_move 38 = .ok (.bipush 48, 2) := by decide +kernel
theorem dX8_move_40 : decode cX8_move 40 = .ok (.if_icmp .ge 22, 3) := by decide +kernel
theorem dX8_move_43 : decode cX8_move 43 = .ok (.iload 4, 2) := by decide +kernel
theorem dX8_move_45 : decode cX8_move 45 = .ok (.ifCond .eq 17, 3) := by decide +kernel
theorem dX8_move_48 : decode cX8_move 48 = .ok (.aload_n 0, 1) := by decide +kernel
theorem dX8_move_49 : decode cX8_move 49 = .ok (.iload 5, 2) := by decide +kernel
theorem dX8_move_51 : decode cX8_move 51 = .ok (.invokevirtual 356, 3) := by decide +kernel
theorem dX8_move_54 : decode cX8_move 54 = .ok (.istore 4, 2) := by decide +kernel
theorem dX8_move_56 : decode cX8_move 56 = .ok (.iinc 5 1, 3) := by decide +kernel
theorem dX8_move_59 : decode cX8_move 59 = .ok (.goto (-23), 3) := by decide +kernel
theorem dX8_move_62 : decode cX8_move 62 = .ok (.iload 4, 2) := by decide +kernel
theorem dX8_move_64 : decode cX8_move 64 = .ok (.ifCond .eq 5, 3) := by decide +kernel
theorem dX8_move_67 : decode cX8_move 67 = .ok (.iload_n 3, 1) := by decide +kernel
theorem dX8_move_68 : decode cX8_move 68 = .ok (.istore_n 2, 1) := by decide +kernel
theorem dX8_move_69 : decode cX8_move 69 = .ok (.iinc 3 1, 3) := by decide +kernel
theorem dX8_move_72 : decode cX8_move 72 = .ok (.goto (-62), 3) := by decide +kernel
theorem dX8_move_75 : decode cX8_move 75 = .ok (.aload_n 0, 1) := by decide +kernel
theorem dX8_move_76 : decode cX8_move 76 = .ok (.getfield 13, 3) := by decide +kernel
theorem dX8_move_79 : decode cX8_move 79 = .ok (.sipush 159, 3) := by decide +kernel
theorem dX8_move_82 : decode cX8_move 82 = .ok (.iload_n 1, 1) := by decide +kernel
theorem dX8_move_83 : decode cX8_move 83 = .ok (.iastore, 1) := by decide +kernel
theorem dX8_move_84 : decode cX8_move 84 = .ok (.iload_n 2, 1) := by decide +kernel
theorem dX8_move_85 : decode cX8_move 85 = .ok (.ireturn, 1) := by decide +kernel
theorem dX8_isEight_0 : decode cX8_isEight 0 = .ok (.iload_n 0, 1) := by decide +kernel
theorem dX8_isEight_1 : decode cX8_isEight 1 = .ok (.iconst 0, 1) := by decide +kernel
theorem dX8_isEight_2 : decode cX8_isEight 2 = .ok (.bipush 7, 2) := by decide +kernel
theorem dX8_isEight_4 : decode cX8_isEight 4 = .ok (.invokestatic 83, 3) := by decide +kernel
theorem dX8_isEight_7 : decode cX8_isEight 7 = .ok (.ireturn, 1) := by decide +kernel
theorem dX8_knows_0 : decode cX8_knows 0 = .ok (.sipush 573, 3) := by decide +kernel
theorem dX8_knows_3 : decode cX8_knows 3 = .ok (.bipush 8, 2) := by decide +kernel
theorem dX8_knows_5 : decode cX8_knows 5 = .ok (.iload_n 1, 1) := by decide +kernel
theorem dX8_knows_6 : decode cX8_knows 6 = .ok (.imul, 1) := by decide +kernel
theorem dX8_knows_7 : decode cX8_knows 7 = .ok (.iadd, 1) := by decide +kernel
theorem dX8_knows_8 : decode cX8_knows 8 = .ok (.iload_n 2, 1) := by decide +kernel
theorem dX8_knows_9 : decode cX8_knows 9 = .ok (.iadd, 1) := by decide +kernel
theorem dX8_knows_10 : decode cX8_knows 10 = .ok (.istore 4, 2) := by decide +kernel
theorem dX8_knows_12 : decode cX8_knows 12 = .ok (.aload_n 0, 1) := by decide +kernel
theorem dX8_knows_13 : decode cX8_knows 13 = .ok (.getfield 13, 3) := by decide +kernel
theorem dX8_knows_16 : decode cX8_knows 16 = .ok (.iload 4, 2) := by decide +kernel
theorem dX8_knows_18 : decode cX8_knows 18 = .ok (.iaload, 1) := by decide +kernel
theorem dX8_knows_19 : decode cX8_knows 19 = .ok (.iconst (-1), 1) := by decide +kernel
theorem dX8_knows_20 : decode cX8_knows 20 = .ok (.if_icmp .eq 14, 3) := by decide +kernel
theorem dX8_knows_23 : decode cX8_knows 23 = .ok (.iload_n 3, 1) := by decide +kernel
theorem dX8_knows_24 : decode cX8_knows 24 = .ok (.aload_n 0, 1) := by decide +kernel
theorem dX8_knows_25 : decode cX8_knows 25 = .ok (.getfield 13, 3) := by decide +kernel
theorem dX8_knows_28 : decode cX8_knows 28 = .ok (.iload 4, 2) := by decide +kernel
theorem dX8_knows_30 : decode cX8_knows 30 = .ok (.iaload, 1) := by decide +kernel
theorem dX8_knows_31 : decode cX8_knows 31 = .ok (.if_icmp .ge 11, 3) := by decide +kernel
theorem dX8_knows_34 : decode cX8_knows 34 = .ok (.aload_n 0, 1) := by decide +kernel
theorem dX8_knows_35 : decode cX8_knows 35 = .ok (.getfield 13, 3) := by decide +kernel
theorem dX8_knows_38 : decode cX8_knows 38 = .ok (.iload 4, 2) := by decide +kernel
theorem dX8_knows_40 : decode cX8_knows 40 = .ok (.iload_n 3, 1) := by decide +kernel
theorem dX8_knows_41 : decode cX8_knows 41 = .ok (.iastore, 1) := by decide +kernel
theorem dX8_knows_42 : decode cX8_knows 42 = .ok (.return_, 1) := by decide +kernel
theorem dX8_knewBy_0 : decode cX8_knewBy 0 = .ok (.aload_n 0, 1) := by decide +kernel
theorem dX8_knewBy_1 : decode cX8_knewBy 1 = .ok (.getfield 13, 3) := by decide +kernel
theorem dX8_knewBy_4 : decode cX8_knewBy 4 = .ok (.sipush 573, 3) := by decide +kernel
theorem dX8_knewBy_7 : decode cX8_knewBy 7 = .ok (.bipush 8, 2) := by decide +kernel
theorem dX8_knewBy_9 : decode cX8_knewBy 9 = .ok (.iload_n 1, 1) := by decide +kernel
theorem dX8_knewBy_10 : decode cX8_knewBy 10 = .ok (.imul, 1) := by decide +kernel
theorem dX8_knewBy_11 : decode cX8_knewBy 11 = .ok (.iadd, 1) := by decide +kernel
theorem dX8_knewBy_12 : decode cX8_knewBy 12 = .ok (.iload_n 2, 1) := by decide +kernel
theorem dX8_knewBy_13 : decode cX8_knewBy 13 = .ok (.iadd, 1) := by decide +kernel
theorem dX8_knewBy_14 : decode cX8_knewBy 14 = .ok (.iaload, 1) := by decide +kernel
theorem dX8_knewBy_15 : decode cX8_knewBy 15 = .ok (.istore 4, 2) := by decide +kernel
theorem dX8_knewBy_17 : decode cX8_knewBy 17 = .ok (.iload 4, 2) := by decide +kernel
theorem dX8_knewBy_19 : decode cX8_knewBy 19 = .ok (.iconst (-1), 1) := by decide +kernel
theorem dX8_knewBy_20 : decode cX8_knewBy 20 = .ok (.if_icmp .eq 13, 3) := by decide +kernel
theorem dX8_knewBy_23 : decode cX8_knewBy 23 = .ok (.iload 4, 2) := by decide +kernel
theorem dX8_knewBy_25 : decode cX8_knewBy 25 = .ok (.iload_n 3, 1) := by decide +kernel
theorem dX8_knewBy_26 : decode cX8_knewBy 26 = .ok (.if_icmp .gt 7, 3) := by decide +kernel
theorem dX8_knewBy_29 : decode cX8_knewBy 29 = .ok (.iconst 1, 1) := by decide +kernel
theorem dX8_knewBy_30 : decode cX8_knewBy 30 = .ok (.goto 4, 3) := by decide +kernel
theorem dX8_knewBy_33 : decode cX8_knewBy 33 = .ok (.iconst 0, 1) := by decide +kernel
theorem dX8_knewBy_34 : decode cX8_knewBy 34 = .ok (.ireturn, 1) := by decide +kernel
theorem dX8_find_0 : decode cX8_find 0 = .ok (.iload_n 1, 1) := by decide +kernel
theorem dX8_find_1 : decode cX8_find 1 = .ok (.invokestatic 359, 3) := by decide +kernel
theorem dX8_find_4 : decode cX8_find 4 = .ok (.ifCond .eq 17, 3) := by decide +kernel
theorem dX8_find_7 : decode cX8_find 7 = .ok (.iload_n 2, 1) := by decide +kernel
theorem dX8_find_8 : decode cX8_find 8 = .ok (.invokestatic 359, 3) := by decide +kernel
theorem dX8_find_11 : decode cX8_find 11 = .ok (.ifCond .eq 10, 3) := by decide +kernel
theorem dX8_find_14 : decode cX8_find 14 = .ok (.iload_n 3, 1) := by decide +kernel
theorem dX8_find_15 : decode cX8_find 15 = .ok (.invokestatic 309, 3) := by decide +kernel
theorem dX8_find_18 : decode cX8_find 18 = .ok (.ifCond .ne 9, 3) := by decide +kernel
theorem dX8_find_21 : decode cX8_find 21 = .ok (.aload_n 0, 1) := by decide +kernel
theorem dX8_find_22 : decode cX8_find 22 = .ok (.iconst (-1), 1) := by decide +kernel
theorem dX8_find_23 : decode cX8_find 23 = .ok (.invokevirtual 87, 3) := by decide +kernel
theorem dX8_find_26 : decode cX8_find 26 = .ok (.ireturn, 1) := by decide +kernel
theorem dX8_find_27 : decode cX8_find 27 = .ok (.aload_n 0, 1) := by decide +kernel
theorem dX8_find_28 : decode cX8_find 28 = .ok (.iload_n 1, 1) := by decide +kernel
theorem dX8_find_29 : decode cX8_find 29 = .ok (.iload_n 2, 1) := by decide +kernel
theorem dX8_find_30 : decode cX8_find 30 = .ok (.iload_n 3, 1) := by decide +kernel
theorem dX8_find_31 : decode cX8_find 31 = .ok (.invokevirtual 362, 3) := by decide +kernel
theorem dX8_find_34 : decode cX8_find 34 = .ok (.aload_n 0, 1) := by decide +kernel
theorem dX8_find_35 : decode cX8_find 35 = .ok (.iconst 0, 1) := by decide +kernel
theorem dX8_find_36 : decode cX8_find 36 = .ok (.invokevirtual 91, 3) := by decide +kernel
theorem dX8_find_39 : decode cX8_find 39 = .ok (.ireturn, 1) := by decide +kernel
theorem dX8_tell_0 : decode cX8_tell 0 = .ok (.iload_n 1, 1) := by decide +kernel
theorem dX8_tell_1 : decode cX8_tell 1 = .ok (.invokestatic 359, 3) := by decide +kernel
theorem dX8_tell_4 : decode cX8_tell 4 = .ok (.ifCond .eq 25, 3) := by decide +kernel
theorem dX8_tell_7 : decode cX8_tell 7 = .ok (.iload_n 2, 1) := by decide +kernel
theorem dX8_tell_8 : decode cX8_tell 8 = .ok (.invokestatic 359, 3) := by decide +kernel
theorem dX8_tell_11 : decode cX8_tell 11 = .ok (.ifCond .eq 18, 3) := by decide +kernel
theorem dX8_tell_14 : decode cX8_tell 14 = .ok (.iload_n 3, 1) := by decide +kernel
theorem dX8_tell_15 : decode cX8_tell 15 = .ok (.invokestatic 359, 3) := by decide +kernel
theorem dX8_tell_18 : decode cX8_tell 18 = .ok (.ifCond .eq 11, 3) := by decide +kernel
theorem dX8_tell_21 : decode cX8_tell 21 = .ok (.iload 4, 2) := by decide +kernel
theorem dX8_tell_23 : decode cX8_tell 23 = .ok (.invokestatic 309, 3) := by decide +kernel
theorem dX8_tell_26 : decode cX8_tell 26 = .ok (.ifCond .ne 9, 3) := by decide +kernel
theorem dX8_tell_29 : decode cX8_tell 29 = .ok (.aload_n 0, 1) := by decide +kernel
theorem dX8_tell_30 : decode cX8_tell 30 = .ok (.iconst (-1), 1) := by decide +kernel
theorem dX8_tell_31 : decode cX8_tell 31 = .ok (.invokevirtual 87, 3) := by decide +kernel
theorem dX8_tell_34 : decode cX8_tell 34 = .ok (.ireturn, 1) := by decide +kernel
theorem dX8_tell_35 : decode cX8_tell 35 = .ok (.aload_n 0, 1) := by decide +kernel
theorem dX8_tell_36 : decode cX8_tell 36 = .ok (.iload_n 1, 1) := by decide +kernel
theorem dX8_tell_37 : decode cX8_tell 37 = .ok (.iload_n 3, 1) := by decide +kernel
theorem dX8_tell_38 : decode cX8_tell 38 = .ok (.iload 4, 2) := by decide +kernel
theorem dX8_tell_40 : decode cX8_tell 40 = .ok (.invokevirtual 365, 3) := by decide +kernel
theorem dX8_tell_43 : decode cX8_tell 43 = .ok (.ifCond .ne 10, 3) := by decide +kernel
theorem dX8_tell_46 : decode cX8_tell 46 = .ok (.aload_n 0, 1) := by decide +kernel
theorem dX8_tell_47 : decode cX8_tell 47 = .ok (.bipush (-3), 2) := by decide +kernel
theorem dX8_tell_49 : decode cX8_tell 49 = .ok (.invokevirtual 87, 3) := by decide +kernel
theorem dX8_tell_52 : decode cX8_tell 52 = .ok (.ireturn, 1) := by decide +kernel
theorem dX8_tell_53 : decode cX8_tell 53 = .ok (.aload_n 0, 1) := by decide +kernel
theorem dX8_tell_54 : decode cX8_tell 54 = .ok (.iload_n 2, 1) := by decide +kernel
theorem dX8_tell_55 : decode cX8_tell 55 = .ok (.iload_n 3, 1) := by decide +kernel
theorem dX8_tell_56 : decode cX8_tell 56 = .ok (.iload 4, 2) := by decide +kernel
theorem dX8_tell_58 : decode cX8_tell 58 = .ok (.invokevirtual 362, 3) := by decide +kernel
theorem dX8_tell_61 : decode cX8_tell 61 = .ok (.aload_n 0, 1) := by decide +kernel
theorem dX8_tell_62 : decode cX8_tell 62 = .ok (.iconst 0, 1) := by decide +kernel
theorem dX8_tell_63 : decode cX8_tell 63 = .ok (.invokevirtual 91, 3) := by decide +kernel
theorem dX8_tell_66 : decode cX8_tell 66 = .ok (.ireturn, 1) := by decide +kernel
theorem dX8_knew_0 : decode cX8_knew 0 = .ok (.iload_n 1, 1) := by decide +kernel
theorem dX8_knew_1 : decode cX8_knew 1 = .ok (.invokestatic 359, 3) := by decide +kernel
theorem dX8_knew_4 : decode cX8_knew 4 = .ok (.ifCond .eq 28, 3) := by decide +kernel
theorem dX8_knew_7 : decode cX8_knew 7 = .ok (.iload_n 2, 1) := by decide +kernel
theorem dX8_knew_8 : decode cX8_knew 8 = .ok (.invokestatic 359, 3) := by decide +kernel
theorem dX8_knew_11 : decode cX8_knew 11 = .ok (.ifCond .eq 21, 3) := by decide +kernel
theorem dX8_knew_14 : decode cX8_knew 14 = .ok (.aload_n 0, 1) := by decide +kernel
theorem dX8_knew_15 : decode cX8_knew 15 = .ok (.getfield 13, 3) := by decide +kernel
theorem dX8_knew_18 : decode cX8_knew 18 = .ok (.sipush 573, 3) := by decide +kernel
theorem dX8_knew_21 : decode cX8_knew 21 = .ok (.bipush 8, 2) := by decide +kernel
theorem dX8_knew_23 : decode cX8_knew 23 = .ok (.iload_n 1, 1) := by decide +kernel
theorem dX8_knew_24 : decode cX8_knew 24 = .ok (.imul, 1) := by decide +kernel
theorem dX8_knew_25 : decode cX8_knew 25 = .ok (.iadd, 1) := by decide +kernel
theorem dX8_knew_26 : decode cX8_knew 26 = .ok (.iload_n 2, 1) := by decide +kernel
theorem dX8_knew_27 : decode cX8_knew 27 = .ok (.iadd, 1) := by decide +kernel
theorem dX8_knew_28 : decode cX8_knew 28 = .ok (.iaload, 1) := by decide +kernel
theorem dX8_knew_29 : decode cX8_knew 29 = .ok (.goto 4, 3) := by decide +kernel
theorem dX8_knew_32 : decode cX8_knew 32 = .ok (.iconst (-1), 1) := by decide +kernel
theorem dX8_knew_33 : decode cX8_knew 33 = .ok (.ireturn, 1) := by decide +kernel
theorem dX8_owed_0 : decode cX8_owed 0 = .ok (.iload_n 1, 1) := by decide +kernel
theorem dX8_owed_1 : decode cX8_owed 1 = .ok (.invokestatic 359, 3) := by decide +kernel
theorem dX8_owed_4 : decode cX8_owed 4 = .ok (.ifCond .eq 17, 3) := by decide +kernel
theorem dX8_owed_7 : decode cX8_owed 7 = .ok (.iload_n 2, 1) := by decide +kernel
theorem dX8_owed_8 : decode cX8_owed 8 = .ok (.invokestatic 309, 3) := by decide +kernel
theorem dX8_owed_11 : decode cX8_owed 11 = .ok (.ifCond .eq 10, 3) := by decide +kernel
theorem dX8_owed_14 : decode cX8_owed 14 = .ok (.iload_n 3, 1) := by decide +kernel
theorem dX8_owed_15 : decode cX8_owed 15 = .ok (.invokestatic 309, 3) := by decide +kernel
theorem dX8_owed_18 : decode cX8_owed 18 = .ok (.ifCond .ne 5, 3) := by decide +kernel
theorem dX8_owed_21 : decode cX8_owed 21 = .ok (.iconst (-1), 1) := by decide +kernel
theorem dX8_owed_22 : decode cX8_owed 22 = .ok (.ireturn, 1) := by decide +kernel
theorem dX8_owed_23 : decode cX8_owed 23 = .ok (.iconst 0, 1) := by decide +kernel
theorem dX8_owed_24 : decode cX8_owed 24 = .ok (.istore 4, 2) := by decide +kernel
theorem dX8_owed_26 : decode cX8_owed 26 = .ok (.iconst 0, 1) := by decide +kernel
theorem dX8_owed_27 : decode cX8_owed 27 = .ok (.istore 5, 2) := by decide +kernel
theorem dX8_owed_29 : decode cX8_owed 29 = .ok (.iload 5, 2) := by decide +kernel
theorem dX8_owed_31 : decode cX8_owed 31 = .ok (.bipush 8, 2) := by decide +kernel
theorem dX8_owed_33 : decode cX8_owed 33 = .ok (.if_icmp .ge 89, 3) := by decide +kernel
theorem dX8_owed_36 : decode cX8_owed 36 = .ok (.aload_n 0, 1) := by decide +kernel
theorem dX8_owed_37 : decode cX8_owed 37 = .ok (.iload_n 1, 1) := by decide +kernel
theorem dX8_owed_38 : decode cX8_owed 38 = .ok (.iload 5, 2) := by decide +kernel
theorem dX8_owed_40 : decode cX8_owed 40 = .ok (.iload_n 2, 1) := by decide +kernel
theorem dX8_owed_41 : decode cX8_owed 41 = .ok (.invokevirtual 365, 3) := by decide +kernel
theorem dX8_owed_44 : decode cX8_owed 44 = .ok (.ifCond .eq 6, 3) := by decide +kernel
theorem dX8_owed_47 : decode cX8_owed 47 = .ok (.goto 69, 3) := by decide +kernel
theorem dX8_owed_50 : decode cX8_owed 50 = .ok (.iconst 0, 1) := by decide +kernel
theorem dX8_owed_51 : decode cX8_owed 51 = .ok (.istore 6, 2) := by decide +kernel
theorem dX8_owed_53 : decode cX8_owed 53 = .ok (.iconst 0, 1) := by decide +kernel
theorem dX8_owed_54 : decode cX8_owed 54 = .ok (.istore 7, 2) := by decide +kernel
theorem dX8_owed_56 : decode cX8_owed 56 = .ok (.iload 7, 2) := by decide +kernel
theorem dX8_owed_58 : decode cX8_owed 58 = .ok (.bipush 8, 2) := by decide +kernel
theorem dX8_owed_60 : decode cX8_owed 60 = .ok (.if_icmp .ge 41, 3) := by decide +kernel
theorem dX8_owed_63 : decode cX8_owed 63 = .ok (.iload 6, 2) := by decide +kernel
theorem dX8_owed_65 : decode cX8_owed 65 = .ok (.ifCond .ne 23, 3) := by decide +kernel
theorem dX8_owed_68 : decode cX8_owed 68 = .ok (.iload 7, 2) := by decide +kernel
theorem dX8_owed_70 : decode cX8_owed 70 = .ok (.iload_n 1, 1) := by decide +kernel
theorem dX8_owed_71 : decode cX8_owed 71 = .ok (.if_icmp .eq 21, 3) := by decide +kernel
theorem dX8_owed_74 : decode cX8_owed 74 = .ok (.aload_n 0, 1) := by decide +kernel
theorem dX8_owed_75 : decode cX8_owed 75 = .ok (.iload 7, 2) := by decide +kernel
theorem dX8_owed_77 : decode cX8_owed 77 = .ok (.iload 5, 2) := by decide +kernel
theorem dX8_owed_79 : decode cX8_owed 79 = .ok (.iload_n 2, 1) := by decide +kernel
theorem dX8_owed_80 : decode cX8_owed 80 = .ok (.iload_n 3, 1) := by decide +kernel
theorem dX8_owed_81 : decode cX8_owed 81 = .ok (.isub, 1) := by decide +kernel
theorem dX8_owed_82 : decode cX8_owed 82 = .ok (.invokevirtual 365, 3) := by decide +kernel
theorem dX8_owed_85 : decode cX8_owed 85 = .ok (.ifCond .eq 7, 3) := by decide +kernel
theorem dX8_owed_88 : decode cX8_owed 88 = .ok (.iconst 1, 1) := by decide +kernel
theorem dX8_owed_89 : decode cX8_owed 89 = .ok (.goto 4, 3) := by decide +kernel
theorem dX8_owed_92 : decode cX8_owed 92 = .ok (.iconst 0, 1) := by decide +kernel
theorem dX8_owed_93 : decode cX8_owed 93 = .ok (.istore 6, 2) := by decide +kernel
theorem dX8_owed_95 : decode cX8_owed 95 = .ok (.iinc 7 1, 3) := by decide +kernel
theorem dX8_owed_98 : decode cX8_owed 98 = .ok (.goto (-42), 3) := by decide +kernel
theorem dX8_owed_101 : decode cX8_owed 101 = .ok (.iload 4, 2) := by decide +kernel
theorem dX8_owed_103 : decode cX8_owed 103 = .ok (.iload 6, 2) := by decide +kernel
theorem dX8_owed_105 : decode cX8_owed 105 = .ok (.ifCond .eq 7, 3) := by decide +kernel
theorem dX8_owed_108 : decode cX8_owed 108 = .ok (.iconst 1, 1) := by decide +kernel
theorem dX8_owed_109 : decode cX8_owed 109 = .ok (.goto 4, 3) := by decide +kernel
theorem dX8_owed_112 : decode cX8_owed 112 = .ok (.iconst 0, 1) := by decide +kernel
theorem dX8_owed_113 : decode cX8_owed 113 = .ok (.iadd, 1) := by decide +kernel
theorem dX8_owed_114 : decode cX8_owed 114 = .ok (.istore 4, 2) := by decide +kernel
theorem dX8_owed_116 : decode cX8_owed 116 = .ok (.iinc 5 1, 3) := by decide +kernel
theorem dX8_owed_119 : decode cX8_owed 119 = .ok (.goto (-90), 3) := by decide +kernel
theorem dX8_owed_122 : decode cX8_owed 122 = .ok (.iload 4, 2) := by decide +kernel
theorem dX8_owed_124 : decode cX8_owed 124 = .ok (.ireturn, 1) := by decide +kernel
theorem dX8_street_0 : decode cX8_street 0 = .ok (.iload_n 1, 1) := by decide +kernel
theorem dX8_street_1 : decode cX8_street 1 = .ok (.iconst 0, 1) := by decide +kernel
theorem dX8_street_2 : decode cX8_street 2 = .ok (.bipush 7, 2) := by decide +kernel
theorem dX8_street_4 : decode cX8_street 4 = .ok (.invokestatic 83, 3) := by decide +kernel
theorem dX8_street_7 : decode cX8_street 7 = .ok (.ifCond .eq 24, 3) := by decide +kernel
theorem dX8_street_10 : decode cX8_street 10 = .ok (.iload_n 2, 1) := by decide +kernel
theorem dX8_street_11 : decode cX8_street 11 = .ok (.iconst 1, 1) := by decide +kernel
theorem dX8_street_12 : decode cX8_street 12 = .ok (.bipush 20, 2) := by decide +kernel
theorem dX8_street_14 : decode cX8_street 14 = .ok (.invokestatic 83, 3) := by decide +kernel
theorem dX8_street_17 : decode cX8_street 17 = .ok (.ifCond .eq 14, 3) := by decide +kernel
theorem dX8_street_20 : decode cX8_street 20 = .ok (.iload_n 3, 1) := by decide +kernel
theorem dX8_street_21 : decode cX8_street 21 = .ok (.iconst 0, 1) := by decide +kernel
theorem dX8_street_22 : decode cX8_street 22 = .ok (.sipush 10000, 3) := by decide +kernel
theorem dX8_street_25 : decode cX8_street 25 = .ok (.invokestatic 83, 3) := by decide +kernel
theorem dX8_street_28 : decode cX8_street 28 = .ok (.ifCond .ne 9, 3) := by decide +kernel
theorem dX8_street_31 : decode cX8_street 31 = .ok (.aload_n 0, 1) := by decide +kernel
theorem dX8_street_32 : decode cX8_street 32 = .ok (.iconst (-1), 1) := by decide +kernel
theorem dX8_street_33 : decode cX8_street 33 = .ok (.invokevirtual 87, 3) := by decide +kernel
theorem dX8_street_36 : decode cX8_street 36 = .ok (.ireturn, 1) := by decide +kernel
theorem dX8_street_37 : decode cX8_street 37 = .ok (.aload_n 0, 1) := by decide +kernel
theorem dX8_street_38 : decode cX8_street 38 = .ok (.getfield 13, 3) := by decide +kernel
theorem dX8_street_41 : decode cX8_street 41 = .ok (.sipush 1636, 3) := by decide +kernel
theorem dX8_street_44 : decode cX8_street 44 = .ok (.iaload, 1) := by decide +kernel
theorem dX8_street_45 : decode cX8_street 45 = .ok (.istore 4, 2) := by decide +kernel
theorem dX8_street_47 : decode cX8_street 47 = .ok (.iload 4, 2) := by decide +kernel
theorem dX8_street_49 : decode cX8_street 49 = .ok (.bipush 32, 2) := by decide +kernel
theorem dX8_street_51 : decode cX8_street 51 = .ok (.if_icmp .ne 10, 3) := by decide +kernel
theorem dX8_street_54 : decode cX8_street 54 = .ok (.aload_n 0, 1) := by decide +kernel
theorem dX8_street_55 : decode cX8_street 55 = .ok (.bipush (-5), 2) := by decide +kernel
theorem dX8_street_57 : decode cX8_street 57 = .ok (.invokevirtual 87, 3) := by decide +kernel
theorem dX8_street_60 : decode cX8_street 60 = .ok (.ireturn, 1) := by decide +kernel
theorem dX8_street_61 : decode cX8_street 61 = .ok (.aload_n 0, 1) := by decide +kernel
theorem dX8_street_62 : decode cX8_street 62 = .ok (.getfield 13, 3) := by decide +kernel
theorem dX8_street_65 : decode cX8_street 65 = .ok (.sipush 637, 3) := by decide +kernel
theorem dX8_street_68 : decode cX8_street 68 = .ok (.iconst 3, 1) := by decide +kernel
theorem dX8_street_69 : decode cX8_street 69 = .ok (.iload 4, 2) := by decide +kernel
theorem dX8_street_71 : decode cX8_street 71 = .ok (.imul, 1) := by decide +kernel
theorem dX8_street_72 : decode cX8_street 72 = .ok (.iadd, 1) := by decide +kernel
theorem dX8_street_73 : decode cX8_street 73 = .ok (.iload_n 1, 1) := by decide +kernel
theorem dX8_street_74 : decode cX8_street 74 = .ok (.iastore, 1) := by decide +kernel
theorem dX8_street_75 : decode cX8_street 75 = .ok (.aload_n 0, 1) := by decide +kernel
theorem dX8_street_76 : decode cX8_street 76 = .ok (.getfield 13, 3) := by decide +kernel
theorem dX8_street_79 : decode cX8_street 79 = .ok (.sipush 637, 3) := by decide +kernel
theorem dX8_street_82 : decode cX8_street 82 = .ok (.iconst 3, 1) := by decide +kernel
theorem dX8_street_83 : decode cX8_street 83 = .ok (.iload 4, 2) := by decide +kernel
theorem dX8_street_85 : decode cX8_street 85 = .ok (.imul, 1) := by decide +kernel
theorem dX8_street_86 : decode cX8_street 86 = .ok (.iadd, 1) := by decide +kernel
theorem dX8_street_87 : decode cX8_street 87 = .ok (.iconst 1, 1) := by decide +kernel
theorem dX8_street_88 : decode cX8_street 88 = .ok (.iadd, 1) := by decide +kernel
theorem dX8_street_89 : decode cX8_street 89 = .ok (.iload_n 2, 1) := by decide +kernel
theorem dX8_street_90 : decode cX8_street 90 = .ok (.iastore, 1) := by decide +kernel
theorem dX8_street_91 : decode cX8_street 91 = .ok (.aload_n 0, 1) := by decide +kernel
theorem dX8_street_92 : decode cX8_street 92 = .ok (.getfield 13, 3) := by decide +kernel
theorem dX8_street_95 : decode cX8_street 95 = .ok (.sipush 637, 3) := by decide +kernel
theorem dX8_street_98 : decode cX8_street 98 = .ok (.iconst 3, 1) := by decide +kernel
theorem dX8_street_99 : decode cX8_street 99 = .ok (.iload 4, 2) := by decide +kernel
theorem dX8_street_101 : decode cX8_street 101 = .ok (.imul, 1) := by decide +kernel
theorem dX8_street_102 : decode cX8_street 102 = .ok (.iadd, 1) := by decide +kernel
theorem dX8_street_103 : decode cX8_street 103 = .ok (.iconst 2, 1) := by decide +kernel
theorem dX8_street_104 : decode cX8_street 104 = .ok (.iadd, 1) := by decide +kernel
theorem dX8_street_105 : decode cX8_street 105 = .ok (.iload_n 3, 1) := by decide +kernel
theorem dX8_street_106 : decode cX8_street 106 = .ok (.iastore, 1) := by decide +kernel
theorem dX8_street_107 : decode cX8_street 107 = .ok (.aload_n 0, 1) := by decide +kernel
theorem dX8_street_108 : decode cX8_street 108 = .ok (.getfield 13, 3) := by decide +kernel
theorem dX8_street_111 : decode cX8_street 111 = .ok (.sipush 1636, 3) := by decide +kernel
theorem dX8_street_114 : decode cX8_street 114 = .ok (.dup2, 1) := by decide +kernel
theorem dX8_street_115 : decode cX8_street 115 = .ok (.iaload, 1) := by decide +kernel
theorem dX8_street_116 : decode cX8_street 116 = .ok (.iconst 1, 1) := by decide +kernel
theorem dX8_street_117 : decode cX8_street 117 = .ok (.iadd, 1) := by decide +kernel
theorem dX8_street_118 : decode cX8_street 118 = .ok (.iastore, 1) := by decide +kernel
theorem dX8_street_119 : decode cX8_street 119 = .ok (.aload_n 0, 1) := by decide +kernel
theorem dX8_street_120 : decode cX8_street 120 = .ok (.iload 4, 2) := by decide +kernel
theorem dX8_street_122 : decode cX8_street 122 = .ok (.invokevirtual 91, 3) := by decide +kernel
theorem dX8_street_125 : decode cX8_street 125 = .ok (.ireturn, 1) := by decide +kernel
theorem dX8_under_0 : decode cX8_under 0 = .ok (.aload_n 0, 1) := by decide +kernel
theorem dX8_under_1 : decode cX8_under 1 = .ok (.iload_n 1, 1) := by decide +kernel
theorem dX8_under_2 : decode cX8_under 2 = .ok (.invokevirtual 136, 3) := by decide +kernel
theorem dX8_under_5 : decode cX8_under 5 = .ok (.ifCond .eq 12, 3) := by decide +kernel
theorem dX8_under_8 : decode cX8_under 8 = .ok (.iload_n 2, 1) := by decide +kernel
theorem dX8_under_9 : decode cX8_under 9 = .ok (.iconst 0, 1) := by decide +kernel
theorem dX8_under_10 : decode cX8_under 10 = .ok (.iconst 1, 1) := by decide +kernel
theorem dX8_under_11 : decode cX8_under 11 = .ok (.invokestatic 83, 3) := by decide +kernel
theorem dX8_under_14 : decode cX8_under 14 = .ok (.ifCond .ne 5, 3) := by decide +kernel
theorem dX8_under_17 : decode cX8_under 17 = .ok (.iconst (-1), 1) := by decide +kernel
theorem dX8_under_18 : decode cX8_under 18 = .ok (.ireturn, 1) := by decide +kernel
theorem dX8_under_19 : decode cX8_under 19 = .ok (.aload_n 0, 1) := by decide +kernel
theorem dX8_under_20 : decode cX8_under 20 = .ok (.iload_n 1, 1) := by decide +kernel
theorem dX8_under_21 : decode cX8_under 21 = .ok (.iload_n 2, 1) := by decide +kernel
theorem dX8_under_22 : decode cX8_under 22 = .ok (.invokevirtual 161, 3) := by decide +kernel
theorem dX8_under_25 : decode cX8_under 25 = .ok (.aload_n 0, 1) := by decide +kernel
theorem dX8_under_26 : decode cX8_under 26 = .ok (.getfield 158, 3) := by decide +kernel
theorem dX8_under_29 : decode cX8_under 29 = .ok (.iconst (-1), 1) := by decide +kernel
theorem dX8_under_30 : decode cX8_under 30 = .ok (.if_icmp .ne 5, 3) := by decide +kernel
theorem dX8_under_33 : decode cX8_under 33 = .ok (.iconst 0, 1) := by decide +kernel
theorem dX8_under_34 : decode cX8_under 34 = .ok (.ireturn, 1) := by decide +kernel
theorem dX8_under_35 : decode cX8_under 35 = .ok (.iconst 3, 1) := by decide +kernel
theorem dX8_under_36 : decode cX8_under 36 = .ok (.bipush 6, 2) := by decide +kernel
theorem dX8_under_38 : decode cX8_under 38 = .ok (.aload_n 0, 1) := by decide +kernel
theorem dX8_under_39 : decode cX8_under 39 = .ok (.getfield 158, 3) := by decide +kernel
theorem dX8_under_42 : decode cX8_under 42 = .ok (.isub, 1) := by decide +kernel
theorem dX8_under_43 : decode cX8_under 43 = .ok (.imul, 1) := by decide +kernel
theorem dX8_under_44 : decode cX8_under 44 = .ok (.istore_n 3, 1) := by decide +kernel
theorem dX8_under_45 : decode cX8_under 45 = .ok (.iconst 0, 1) := by decide +kernel
theorem dX8_under_46 : decode cX8_under 46 = .ok (.istore 4, 2) := by decide +kernel
theorem dX8_under_48 : decode cX8_under 48 = .ok (.iconst 0, 1) := by decide +kernel
theorem dX8_under_49 : decode cX8_under 49 = .ok (.istore 5, 2) := by decide +kernel
theorem dX8_under_51 : decode cX8_under 51 = .ok (.iload 5, 2) := by decide +kernel
theorem dX8_under_53 : decode cX8_under 53 = .ok (.aload_n 0, 1) := by decide +kernel
theorem dX8_under_54 : decode cX8_under 54 = .ok (.getfield 13, 3) := by decide +kernel
theorem dX8_under_57 : decode cX8_under 57 = .ok (.sipush 1636, 3) := by decide +kernel
theorem dX8_under_60 : decode cX8_under 60 = .ok (.iaload, 1) := by decide +kernel
theorem dX8_under_61 : decode cX8_under 61 = .ok (.if_icmp .ge 112, 3) := by decide +kernel
theorem dX8_under_64 : decode cX8_under 64 = .ok (.aload_n 0, 1) := by decide +kernel
theorem dX8_under_65 : decode cX8_under 65 = .ok (.getfield 13, 3) := by decide +kernel
theorem dX8_under_68 : decode cX8_under 68 = .ok (.sipush 637, 3) := by decide +kernel
theorem dX8_under_71 : decode cX8_under 71 = .ok (.iconst 3, 1) := by decide +kernel
theorem dX8_under_72 : decode cX8_under 72 = .ok (.iload 5, 2) := by decide +kernel
theorem dX8_under_74 : decode cX8_under 74 = .ok (.imul, 1) := by decide +kernel
theorem dX8_under_75 : decode cX8_under 75 = .ok (.iadd, 1) := by decide +kernel
theorem dX8_under_76 : decode cX8_under 76 = .ok (.iaload, 1) := by decide +kernel
theorem dX8_under_77 : decode cX8_under 77 = .ok (.aload_n 0, 1) := by decide +kernel
theorem dX8_under_78 : decode cX8_under 78 = .ok (.iload_n 1, 1) := by decide +kernel
theorem dX8_under_79 : decode cX8_under 79 = .ok (.iconst 0, 1) := by decide +kernel
theorem dX8_under_80 : decode cX8_under 80 = .ok (.invokevirtual 109, 3) := by decide +kernel
theorem dX8_under_83 : decode cX8_under 83 = .ok (.isub, 1) := by decide +kernel
theorem dX8_under_84 : decode cX8_under 84 = .ok (.bipush 8, 2) := by decide +kernel
theorem dX8_under_86 : decode cX8_under 86 = .ok (.iadd, 1) := by decide +kernel
theorem dX8_under_87 : decode cX8_under 87 = .ok (.bipush 8, 2) := by decide +kernel
theorem dX8_under_89 : decode cX8_under 89 = .ok (.irem, 1) := by decide +kernel
theorem dX8_under_90 : decode cX8_under 90 = .ok (.istore 6, 2) := by decide +kernel
theorem dX8_under_92 : decode cX8_under 92 = .ok (.iload 6, 2) := by decide +kernel
theorem dX8_under_94 : decode cX8_under 94 = .ok (.ifCond .ne 7, 3) := by decide +kernel
theorem dX8_under_97 : decode cX8_under 97 = .ok (.iload_n 3, 1) := by decide +kernel
theorem dX8_under_98 : decode cX8_under 98 = .ok (.goto 23, 3) := by decide +kernel
theorem dX8_under_101 : decode cX8_under 101 = .ok (.iload 6, 2) := by decide +kernel
theorem dX8_under_103 : decode cX8_under 103 = .ok (.iconst 1, 1) := by decide +kernel
theorem dX8_under_104 : decode cX8_under 104 = .ok (.if_icmp .eq 10, 3) := by decide +kernel
theorem dX8_under_107 : decode cX8_under 107 = .ok (.iload 6, 2) := by decide +kernel
theorem dX8_under_109 : decode cX8_under 109 = .ok (.bipush 7, 2) := by decide +kernel
theorem dX8_under_111 : decode cX8_under 111 = .ok (.if_icmp .ne 9, 3) := by decide +kernel
theorem dX8_under_114 : decode cX8_under 114 = .ok (.iload_n 3, 1) := by decide +kernel
theorem dX8_under_115 : decode cX8_under 115 = .ok (.iconst 2, 1) := by decide +kernel
theorem dX8_under_116 : decode cX8_under 116 = .ok (.idiv, 1) := by decide +kernel
theorem dX8_under_117 : decode cX8_under 117 = .ok (.goto 4, 3) := by decide +kernel
theorem dX8_under_120 : decode cX8_under 120 = .ok (.iconst 0, 1) := by decide +kernel
theorem dX8_under_121 : decode cX8_under 121 = .ok (.istore 7, 2) := by decide +kernel
theorem dX8_under_123 : decode cX8_under 123 = .ok (.iload 4, 2) := by decide +kernel
theorem dX8_under_125 : decode cX8_under 125 = .ok (.aload_n 0, 1) := by decide +kernel
theorem dX8_under_126 : decode cX8_under 126 = .ok (.getfield 13, 3) := by decide +kernel
theorem dX8_under_129 : decode cX8_under 129 = .ok (.sipush 637, 3) := by decide +kernel
theorem dX8_under_132 : decode cX8_under 132 = .ok (.iconst 3, 1) := by decide +kernel
theorem dX8_under_133 : decode cX8_under 133 = .ok (.iload 5, 2) := by decide +kernel
theorem dX8_under_135 : decode cX8_under 135 = .ok (.imul, 1) := by decide +kernel
theorem dX8_under_136 : decode cX8_under 136 = .ok (.iadd, 1) := by decide +kernel
theorem dX8_under_137 : decode cX8_under 137 = .ok (.iconst 1, 1) := by decide +kernel
theorem dX8_under_138 : decode cX8_under 138 = .ok (.iadd, 1) := by decide +kernel
theorem dX8_under_139 : decode cX8_under 139 = .ok (.iaload, 1) := by decide +kernel
theorem dX8_under_140 : decode cX8_under 140 = .ok (.iload 7, 2) := by decide +kernel
theorem dX8_under_142 : decode cX8_under 142 = .ok (.if_icmp .gt 21, 3) := by decide +kernel
theorem dX8_under_145 : decode cX8_under 145 = .ok (.aload_n 0, 1) := by decide +kernel
theorem dX8_under_146 : decode cX8_under 146 = .ok (.getfield 13, 3) := by decide +kernel
theorem dX8_under_149 : decode cX8_under 149 = .ok (.sipush 637, 3) := by decide +kernel
theorem dX8_under_152 : decode cX8_under 152 = .ok (.iconst 3, 1) := by decide +kernel
theorem dX8_under_153 : decode cX8_under 153 = .ok (.iload 5, 2) := by decide +kernel
theorem dX8_under_155 : decode cX8_under 155 = .ok (.imul, 1) := by decide +kernel
theorem dX8_under_156 : decode cX8_under 156 = .ok (.iadd, 1) := by decide +kernel
theorem dX8_under_157 : decode cX8_under 157 = .ok (.iconst 2, 1) := by decide +kernel
theorem dX8_under_158 : decode cX8_under 158 = .ok (.iadd, 1) := by decide +kernel
theorem dX8_under_159 : decode cX8_under 159 = .ok (.iaload, 1) := by decide +kernel
theorem dX8_under_160 : decode cX8_under 160 = .ok (.goto 4, 3) := by decide +kernel
theorem dX8_under_163 : decode cX8_under 163 = .ok (.iconst 0, 1) := by decide +kernel
theorem dX8_under_164 : decode cX8_under 164 = .ok (.iadd, 1) := by decide +kernel
theorem dX8_under_165 : decode cX8_under 165 = .ok (.istore 4, 2) := by decide +kernel
theorem dX8_under_167 : decode cX8_under 167 = .ok (.iinc 5 1, 3) := by decide +kernel
theorem dX8_under_170 : decode cX8_under 170 = .ok (.goto (-119), 3) := by decide +kernel
theorem dX8_under_173 : decode cX8_under 173 = .ok (.iload 4, 2) := by decide +kernel
theorem dX8_under_175 : decode cX8_under 175 = .ok (.ireturn, 1) := by decide +kernel
theorem dX8_row_0 : decode cX8_row 0 = .ok (.aload_n 0, 1) := by decide +kernel
theorem dX8_row_1 : decode cX8_row 1 = .ok (.getfield 165, 3) := by decide +kernel
theorem dX8_row_4 : decode cX8_row 4 = .ok (.istore_n 1, 1) := by decide +kernel
theorem dX8_row_5 : decode cX8_row 5 = .ok (.aload_n 0, 1) := by decide +kernel
theorem dX8_row_6 : decode cX8_row 6 = .ok (.iconst 0, 1) := by decide +kernel
theorem dX8_row_7 : decode cX8_row 7 = .ok (.putfield 165, 3) := by decide +kernel
theorem dX8_row_10 : decode cX8_row 10 = .ok (.aload_n 0, 1) := by decide +kernel
theorem dX8_row_11 : decode cX8_row 11 = .ok (.getfield 13, 3) := by decide +kernel
theorem dX8_row_14 : decode cX8_row 14 = .ok (.sipush 1637, 3) := by decide +kernel
theorem dX8_row_17 : decode cX8_row 17 = .ok (.iaload, 1) := by decide +kernel
theorem dX8_row_18 : decode cX8_row 18 = .ok (.istore_n 2, 1) := by decide +kernel
theorem dX8_row_19 : decode cX8_row 19 = .ok (.iload_n 2, 1) := by decide +kernel
theorem dX8_row_20 : decode cX8_row 20 = .ok (.bipush 20, 2) := by decide +kernel
theorem dX8_row_22 : decode cX8_row 22 = .ok (.if_icmp .ne 10, 3) := by decide +kernel
theorem dX8_row_25 : decode cX8_row 25 = .ok (.aload_n 0, 1) := by decide +kernel
theorem dX8_row_26 : decode cX8_row 26 = .ok (.bipush (-5), 2) := by decide +kernel
theorem dX8_row_28 : decode cX8_row 28 = .ok (.invokevirtual 87, 3) := by decide +kernel
theorem dX8_row_31 : decode cX8_row 31 = .ok (.ireturn, 1) := by decide +kernel
theorem dX8_row_32 : decode cX8_row 32 = .ok (.iload_n 1, 1) := by decide +kernel
theorem dX8_row_33 : decode cX8_row 33 = .ok (.iconst 2, 1) := by decide +kernel
theorem dX8_row_34 : decode cX8_row 34 = .ok (.bipush 41, 2) := by decide +kernel
theorem dX8_row_36 : decode cX8_row 36 = .ok (.invokestatic 83, 3) := by decide +kernel
theorem dX8_row_39 : decode cX8_row 39 = .ok (.ifCond .eq 17, 3) := by decide +kernel
theorem dX8_row_42 : decode cX8_row 42 = .ok (.aload_n 0, 1) := by decide +kernel
theorem dX8_row_43 : decode cX8_row 43 = .ok (.getfield 41, 3) := by decide +kernel
theorem dX8_row_46 : decode cX8_row 46 = .ok (.iconst 0, 1) := by decide +kernel
theorem dX8_row_47 : decode cX8_row 47 = .ok (.baload, 1) := by decide +kernel
theorem dX8_row_48 : decode cX8_row 48 = .ok (.iconst 0, 1) := by decide +kernel
theorem dX8_row_49 : decode cX8_row 49 = .ok (.iconst 1, 1) := by decide +kernel
theorem dX8_row_50 : decode cX8_row 50 = .ok (.invokestatic 83, 3) := by decide +kernel
theorem dX8_row_53 : decode cX8_row 53 = .ok (.ifCond .ne 10, 3) := by decide +kernel
theorem dX8_row_56 : decode cX8_row 56 = .ok (.aload_n 0, 1) := by decide +kernel
theorem dX8_row_57 : decode cX8_row 57 = .ok (.bipush (-6), 2) := by decide +kernel
theorem dX8_row_59 : decode cX8_row 59 = .ok (.invokevirtual 87, 3) := by decide +kernel
theorem dX8_row_62 : decode cX8_row 62 = .ok (.ireturn, 1) := by decide +kernel
theorem dX8_row_63 : decode cX8_row 63 = .ok (.sipush 733, 3) := by decide +kernel
theorem dX8_row_66 : decode cX8_row 66 = .ok (.bipush 42, 2) := by decide +kernel
theorem dX8_row_68 : decode cX8_row 68 = .ok (.iload_n 2, 1) := by decide +kernel
theorem dX8_row_69 : decode cX8_row 69 = .ok (.imul, 1) := by decide +kernel
theorem dX8_row_70 : decode cX8_row 70 = .ok (.iadd, 1) := by decide +kernel
theorem dX8_row_71 : decode cX8_row 71 = .ok (.istore_n 3, 1) := by decide +kernel
theorem dX8_row_72 : decode cX8_row 72 = .ok (.aload_n 0, 1) := by decide +kernel
theorem dX8_row_73 : decode cX8_row 73 = .ok (.getfield 13, 3) := by decide +kernel
theorem dX8_row_76 : decode cX8_row 76 = .ok (.iload_n 3, 1) := by decide +kernel
theorem dX8_row_77 : decode cX8_row 77 = .ok (.aload_n 0, 1) := by decide +kernel
theorem dX8_row_78 : decode cX8_row 78 = .ok (.getfield 41, 3) := by decide +kernel
theorem dX8_row_81 : decode cX8_row 81 = .ok (.iconst 0, 1) := by decide +kernel
theorem dX8_row_82 : decode cX8_row 82 = .ok (.baload, 1) := by decide +kernel
theorem dX8_row_83 : decode cX8_row 83 = .ok (.iastore, 1) := by decide +kernel
theorem dX8_row_84 : decode cX8_row 84 = .ok (.aload_n 0, 1) := by decide +kernel
theorem dX8_row_85 : decode cX8_row 85 = .ok (.getfield 13, 3) := by decide +kernel
theorem dX8_row_88 : decode cX8_row 88 = .ok (.iload_n 3, 1) := by decide +kernel
theorem dX8_row_89 : decode cX8_row 89 = .ok (.iconst 1, 1) := by decide +kernel
theorem dX8_row_90 : decode cX8_row 90 = .ok (.iadd, 1) := by decide +kernel
theorem dX8_row_91 : decode cX8_row 91 = .ok (.iload_n 1, 1) := by decide +kernel
theorem dX8_row_92 : decode cX8_row 92 = .ok (.iconst 1, 1) := by decide +kernel
theorem dX8_row_93 : decode cX8_row 93 = .ok (.isub, 1) := by decide +kernel
theorem dX8_row_94 : decode cX8_row 94 = .ok (.iastore, 1) := by decide +kernel
theorem dX8_row_95 : decode cX8_row 95 = .ok (.iconst 0, 1) := by decide +kernel
theorem dX8_row_96 : decode cX8_row 96 = .ok (.istore 4, 2) := by decide +kernel
theorem dX8_row_98 : decode cX8_row 98 = .ok (.iload 4, 2) := by decide +kernel
theorem dX8_row_100 : decode cX8_row 100 = .ok (.iload_n 1, 1) := by decide +kernel
theorem dX8_row_101 : decode cX8_row 101 = .ok (.iconst 1, 1) := by decide +kernel
theorem dX8_row_102 : decode cX8_row 102 = .ok (.isub, 1) := by decide +kernel
theorem dX8_row_103 : decode cX8_row 103 = .ok (.if_icmp .ge 67, 3) := by decide +kernel
theorem dX8_row_106 : decode cX8_row 106 = .ok (.aload_n 0, 1) := by decide +kernel
theorem dX8_row_107 : decode cX8_row 107 = .ok (.getfield 41, 3) := by decide +kernel
theorem dX8_row_110 : decode cX8_row 110 = .ok (.iload 4, 2) := by decide +kernel
theorem dX8_row_112 : decode cX8_row 112 = .ok (.iconst 1, 1) := by decide +kernel
theorem dX8_row_113 : decode cX8_row 113 = .ok (.iadd, 1) := by decide +kernel
theorem dX8_row_114 : decode cX8_row 114 = .ok (.baload, 1) := by decide +kernel
theorem dX8_row_115 : decode cX8_row 115 = .ok (.sipush 255, 3) := by decide +kernel
theorem dX8_row_118 : decode cX8_row 118 = .ok (.iand, 1) := by decide +kernel
theorem dX8_row_119 : decode cX8_row 119 = .ok (.istore 5, 2) := by decide +kernel
theorem dX8_row_121 : decode cX8_row 121 = .ok (.aload_n 0, 1) := by decide +kernel
theorem dX8_row_122 : decode cX8_row 122 = .ok (.getfield 13, 3) := by decide +kernel
theorem dX8_row_125 : decode cX8_row 125 = .ok (.iload_n 3, 1) := by decide +kernel
theorem dX8_row_126 : decode cX8_row 126 = .ok (.iconst 2, 1) := by decide +kernel
theorem dX8_row_127 : decode cX8_row 127 = .ok (.iadd, 1) := by decide +kernel
theorem dX8_row_128 : decode cX8_row 128 = .ok (.iload 4, 2) := by decide +kernel
theorem dX8_row_130 : decode cX8_row 130 = .ok (.iadd, 1) := by decide +kernel
theorem dX8_row_131 : decode cX8_row 131 = .ok (.iload 5, 2) := by decide +kernel
theorem dX8_row_133 : decode cX8_row 133 = .ok (.bipush 100, 2) := by decide +kernel
theorem dX8_row_135 : decode cX8_row 135 = .ok (.if_icmp .gt 8, 3) := by decide +kernel
theorem dX8_row_138 : decode cX8_row 138 = .ok (.iload 5, 2) := by decide +kernel
theorem dX8_row_140 : decode cX8_row 140 = .ok (.goto 23, 3) := by decide +kernel
theorem dX8_row_143 : decode cX8_row 143 = .ok (.iload 4, 2) := by decide +kernel
theorem dX8_row_145 : decode cX8_row 145 = .ok (.ifCond .ne 7, 3) := by decide +kernel
theorem dX8_row_148 : decode cX8_row 148 = .ok (.iconst 0, 1) := by decide +kernel
theorem dX8_row_149 : decode cX8_row 149 = .ok (.goto 14, 3) := by decide +kernel
theorem dX8_row_152 : decode cX8_row 152 = .ok (.aload_n 0, 1) := by decide +kernel
theorem dX8_row_153 : decode cX8_row 153 = .ok (.getfield 13, 3) := by decide +kernel
theorem dX8_row_156 : decode cX8_row 156 = .ok (.iload_n 3, 1) := by decide +kernel
theorem dX8_row_157 : decode cX8_row 157 = .ok (.iconst 1, 1) := by decide +kernel
theorem dX8_row_158 : decode cX8_row 158 = .ok (.iadd, 1) := by decide +kernel
theorem dX8_row_159 : decode cX8_row 159 = .ok (.iload 4, 2) := by decide +kernel
theorem dX8_row_161 : decode cX8_row 161 = .ok (.iadd, 1) := by decide +kernel
theorem dX8_row_162 : decode cX8_row 162 = .ok (.iaload, 1) := by decide +kernel
theorem dX8_row_163 : decode cX8_row 163 = .ok (.iastore, 1) := by decide +kernel
theorem dX8_row_164 : decode cX8_row 164 = .ok (.iinc 4 1, 3) := by decide +kernel
theorem dX8_row_167 : decode cX8_row 167 = .ok (.goto (-69), 3) := by decide +kernel
theorem dX8_row_170 : decode cX8_row 170 = .ok (.aload_n 0, 1) := by decide +kernel
theorem dX8_row_171 : decode cX8_row 171 = .ok (.getfield 13, 3) := by decide +kernel
theorem dX8_row_174 : decode cX8_row 174 = .ok (.sipush 1637, 3) := by decide +kernel
theorem dX8_row_177 : decode cX8_row 177 = .ok (.dup2, 1) := by decide +kernel
theorem dX8_row_178 : decode cX8_row 178 = .ok (.iaload, 1) := by decide +kernel
theorem dX8_row_179 : decode cX8_row 179 = .ok (.iconst 1, 1) := by decide +kernel
theorem dX8_row_180 : decode cX8_row 180 = .ok (.iadd, 1) := by decide +kernel
theorem dX8_row_181 : decode cX8_row 181 = .ok (.iastore, 1) := by decide +kernel
theorem dX8_row_182 : decode cX8_row 182 = .ok (.aload_n 0, 1) := by decide +kernel
theorem dX8_row_183 : decode cX8_row 183 = .ok (.iload_n 2, 1) := by decide +kernel
theorem dX8_row_184 : decode cX8_row 184 = .ok (.iconst 1, 1) := by decide +kernel
theorem dX8_row_185 : decode cX8_row 185 = .ok (.iadd, 1) := by decide +kernel
theorem dX8_row_186 : decode cX8_row 186 = .ok (.invokevirtual 91, 3) := by decide +kernel
theorem dX8_row_189 : decode cX8_row 189 = .ok (.ireturn, 1) := by decide +kernel
theorem dX8_callOf_0 : decode cX8_callOf 0 = .ok (.iconst 0, 1) := by decide +kernel
theorem dX8_callOf_1 : decode cX8_callOf 1 = .ok (.istore_n 2, 1) := by decide +kernel
theorem dX8_callOf_2 : decode cX8_callOf 2 = .ok (.iconst 0, 1) := by decide +kernel
theorem dX8_callOf_3 : decode cX8_callOf 3 = .ok (.istore_n 3, 1) := by decide +kernel
theorem dX8_callOf_4 : decode cX8_callOf 4 = .ok (.iload_n 3, 1) := by decide +kernel
theorem dX8_callOf_5 : decode cX8_callOf 5 = .ok (.aload_n 0, 1) := by decide +kernel
theorem dX8_callOf_6 : decode cX8_callOf 6 = .ok (.getfield 13, 3) := by decide +kernel
theorem dX8_callOf_9 : decode cX8_callOf 9 = .ok (.sipush 1637, 3) := by decide +kernel
theorem dX8_callOf_12 : decode cX8_callOf 12 = .ok (.iaload, 1) := by decide +kernel
theorem dX8_callOf_13 : decode cX8_callOf 13 = .ok (.if_icmp .ge 112, 3) := by decide +kernel
theorem dX8_callOf_16 : decode cX8_callOf 16 = .ok (.sipush 733, 3) := by decide +kernel
theorem dX8_callOf_19 : decode cX8_callOf 19 = .ok (.bipush 42, 2) := by decide +kernel
theorem dX8_callOf_21 : decode cX8_callOf 21 = .ok (.iload_n 3, 1) := by decide +kernel
theorem dX8_callOf_22 : decode cX8_callOf 22 = .ok (.imul, 1) := by decide +kernel
theorem dX8_callOf_23 : decode cX8_callOf 23 = .ok (.iadd, 1) := by decide +kernel
theorem dX8_callOf_24 : decode cX8_callOf 24 = .ok (.istore 4, 2) := by decide +kernel
theorem dX8_callOf_26 : decode cX8_callOf 26 = .ok (.aload_n 0, 1) := by decide +kernel
theorem dX8_callOf_27 : decode cX8_callOf 27 = .ok (.getfield 13, 3) := by decide +kernel
theorem dX8_callOf_30 : decode cX8_callOf 30 = .ok (.iload 4, 2) := by decide +kernel
theorem dX8_callOf_32 : decode cX8_callOf 32 = .ok (.iconst 1, 1) := by decide +kernel
theorem dX8_callOf_33 : decode cX8_callOf 33 = .ok (.iadd, 1) := by decide +kernel
theorem dX8_callOf_34 : decode cX8_callOf 34 = .ok (.iaload, 1) := by decide +kernel
theorem dX8_callOf_35 : decode cX8_callOf 35 = .ok (.istore 5, 2) := by decide +kernel
theorem dX8_callOf_37 : decode cX8_callOf 37 = .ok (.iconst 0, 1) := by decide +kernel
theorem dX8_callOf_38 : decode cX8_callOf 38 = .ok (.istore 6, 2) := by decide +kernel
theorem dX8_callOf_40 : decode cX8_callOf 40 = .ok (.iload 6, 2) := by decide +kernel
theorem dX8_callOf_42 : decode cX8_callOf 42 = .ok (.iload 5, 2) := by decide +kernel
theorem dX8_callOf_44 : decode cX8_callOf 44 = .ok (.if_icmp .ge 25, 3) := by decide +kernel
theorem dX8_callOf_47 : decode cX8_callOf 47 = .ok (.aload_n 0, 1) := by decide +kernel
theorem dX8_callOf_48 : decode cX8_callOf 48 = .ok (.getfield 13, 3) := by decide +kernel
theorem dX8_callOf_51 : decode cX8_callOf 51 = .ok (.iload 4, 2) := by decide +kernel
theorem dX8_callOf_53 : decode cX8_callOf 53 = .ok (.iconst 2, 1) := by decide +kernel
theorem dX8_callOf_54 : decode cX8_callOf 54 = .ok (.iadd, 1) := by decide +kernel
theorem dX8_callOf_55 : decode cX8_callOf 55 = .ok (.iload 6, 2) := by decide +kernel
theorem dX8_callOf_57 : decode cX8_callOf 57 = .ok (.iadd, 1) := by decide +kernel
theorem dX8_callOf_58 : decode cX8_callOf 58 = .ok (.iaload, 1) := by decide +kernel
theorem dX8_callOf_59 : decode cX8_callOf 59 = .ok (.iload_n 1, 1) := by decide +kernel
theorem dX8_callOf_60 : decode cX8_callOf 60 = .ok (.if_icmp .ge 9, 3) := by decide +kernel
theorem dX8_callOf_63 : decode cX8_callOf 63 = .ok (.iinc 6 1, 3) := by decide +kernel
theorem dX8_callOf_66 : decode cX8_callOf 66 = .ok (.goto (-26), 3) := by decide +kernel
theorem dX8_callOf_69 : decode cX8_callOf 69 = .ok (.iload 6, 2) := by decide +kernel
theorem dX8_callOf_71 : decode cX8_callOf 71 = .ok (.iload 5, 2) := by decide +kernel
theorem dX8_callOf_73 : decode cX8_callOf 73 = .ok (.if_icmp .ge 12, 3) := by decide +kernel
theorem dX8_callOf_76 : decode cX8_callOf 76 = .ok (.iload_n 2, 1) := by decide +kernel
theorem dX8_callOf_77 : decode cX8_callOf 77 = .ok (.aload_n 0, 1) := by decide +kernel
theorem dX8_callOf_78 : decode cX8_callOf 78 = .ok (.bipush 6, 2) := by decide +kernel
theorem dX8_callOf_80 : decode cX8_callOf 80 = .ok (.invokevirtual 99, 3) := by decide +kernel
theorem dX8_callOf_83 : decode cX8_callOf 83 = .ok (.iadd, 1) := by decide +kernel
theorem dX8_callOf_84 : decode cX8_callOf 84 = .ok (.istore_n 2, 1) := by decide +kernel
theorem dX8_callOf_85 : decode cX8_callOf 85 = .ok (.aload_n 0, 1) := by decide +kernel
theorem dX8_callOf_86 : decode cX8_callOf 86 = .ok (.getfield 13, 3) := by decide +kernel
theorem dX8_callOf_89 : decode cX8_callOf 89 = .ok (.iload 4, 2) := by decide +kernel
theorem dX8_callOf_91 : decode cX8_callOf 91 = .ok (.iaload, 1) := by decide +kernel
theorem dX8_callOf_92 : decode cX8_callOf 92 = .ok (.iconst 1, 1) := by decide +kernel
theorem dX8_callOf_93 : decode cX8_callOf 93 = .ok (.if_icmp .ne 26, 3) := by decide +kernel
theorem dX8_callOf_96 : decode cX8_callOf 96 = .ok (.iload 5, 2) := by decide +kernel
theorem dX8_callOf_98 : decode cX8_callOf 98 = .ok (.iload 6, 2) := by decide +kernel
theorem dX8_callOf_100 : decode cX8_callOf 100 = .ok (.isub, 1) := by decide +kernel
theorem dX8_callOf_101 : decode cX8_callOf 101 = .ok (.aload_n 0, 1) := by decide +kernel
theorem dX8_callOf_102 : decode cX8_callOf 102 = .ok (.bipush 8, 2) := by decide +kernel
theorem dX8_callOf_104 : decode cX8_callOf 104 = .ok (.invokevirtual 99, 3) := by decide +kernel
theorem dX8_callOf_107 : decode cX8_callOf 107 = .ok (.if_icmp .ge 12, 3) := by decide +kernel
theorem dX8_callOf_110 : decode cX8_callOf 110 = .ok (.iload_n 2, 1) := by decide +kernel
theorem dX8_callOf_111 : decode cX8_callOf 111 = .ok (.aload_n 0, 1) := by decide +kernel
theorem dX8_callOf_112 : decode cX8_callOf 112 = .ok (.bipush 7, 2) := by decide +kernel
theorem dX8_callOf_114 : decode cX8_callOf 114 = .ok (.invokevirtual 99, 3) := by decide +kernel
theorem dX8_callOf_117 : decode cX8_callOf 117 = .ok (.iadd, 1) := by decide +kernel
theorem dX8_callOf_118 : decode cX8_callOf 118 = .ok (.istore_n 2, 1) := by decide +kernel
theorem dX8_callOf_119 : decode cX8_callOf 119 = .ok (.iinc 3 1, 3) := by decide +kernel
theorem dX8_callOf_122 : decode cX8_callOf 122 = .ok (.goto (-118), 3) := by decide +kernel
theorem dX8_callOf_125 : decode cX8_callOf 125 = .ok (.iload_n 2, 1) := by decide +kernel
theorem dX8_callOf_126 : decode cX8_callOf 126 = .ok (.ireturn, 1) := by decide +kernel
theorem dX8_call_0 : decode cX8_call 0 = .ok (.iload_n 1, 1) := by decide +kernel
theorem dX8_call_1 : decode cX8_call 1 = .ok (.iconst 0, 1) := by decide +kernel
theorem dX8_call_2 : decode cX8_call 2 = .ok (.bipush 100, 2) := by decide +kernel
theorem dX8_call_4 : decode cX8_call 4 = .ok (.invokestatic 83, 3) := by decide +kernel
theorem dX8_call_7 : decode cX8_call 7 = .ok (.ifCond .eq 11, 3) := by decide +kernel
theorem dX8_call_10 : decode cX8_call 10 = .ok (.aload_n 0, 1) := by decide +kernel
theorem dX8_call_11 : decode cX8_call 11 = .ok (.iload_n 1, 1) := by decide +kernel
theorem dX8_call_12 : decode cX8_call 12 = .ok (.invokevirtual 368, 3) := by decide +kernel
theorem dX8_call_15 : decode cX8_call 15 = .ok (.goto 4, 3) := by decide +kernel
theorem dX8_call_18 : decode cX8_call 18 = .ok (.iconst (-1), 1) := by decide +kernel
theorem dX8_call_19 : decode cX8_call 19 = .ok (.ireturn, 1) := by decide +kernel
theorem dX8_when_0 : decode cX8_when 0 = .ok (.aload_n 0, 1) := by decide +kernel
theorem dX8_when_1 : decode cX8_when 1 = .ok (.getfield 13, 3) := by decide +kernel
theorem dX8_when_4 : decode cX8_when 4 = .ok (.sipush 1637, 3) := by decide +kernel
theorem dX8_when_7 : decode cX8_when 7 = .ok (.iaload, 1) := by decide +kernel
theorem dX8_when_8 : decode cX8_when 8 = .ok (.ifCond .ne 5, 3) := by decide +kernel
theorem dX8_when_11 : decode cX8_when 11 = .ok (.iconst (-1), 1) := by decide +kernel
theorem dX8_when_12 : decode cX8_when 12 = .ok (.ireturn, 1) := by decide +kernel
theorem dX8_when_13 : decode cX8_when 13 = .ok (.iconst 0, 1) := by decide +kernel
theorem dX8_when_14 : decode cX8_when 14 = .ok (.istore_n 1, 1) := by decide +kernel
theorem dX8_when_15 : decode cX8_when 15 = .ok (.iconst 1, 1) := by decide +kernel
theorem dX8_when_16 : decode cX8_when 16 = .ok (.istore_n 2, 1) := by decide +kernel
theorem dX8_when_17 : decode cX8_when 17 = .ok (.iload_n 2, 1) := by decide +kernel
theorem dX8_when_18 : decode cX8_when 18 = .ok (.bipush 100, 2) := by decide +kernel
theorem dX8_when_20 : decode cX8_when 20 = .ok (.if_icmp .gt 24, 3) := by decide +kernel
theorem dX8_when_23 : decode cX8_when 23 = .ok (.aload_n 0, 1) := by decide +kernel
theorem dX8_when_24 : decode cX8_when 24 = .ok (.iload_n 2, 1) := by decide +kernel
theorem dX8_when_25 : decode cX8_when 25 = .ok (.invokevirtual 368, 3) := by decide +kernel
theorem dX8_when_28 : decode cX8_when 28 = .ok (.aload_n 0, 1) := by decide +kernel
theorem dX8_when_29 : decode cX8_when 29 = .ok (.iload_n 1, 1) := by decide +kernel
theorem dX8_when_30 : decode cX8_when 30 = .ok (.invokevirtual 368, 3) := by decide +kernel
theorem dX8_when_33 : decode cX8_when 33 = .ok (.if_icmp .gt 5, 3) := by decide +kernel
theorem dX8_when_36 : decode cX8_when 36 = .ok (.iload_n 2, 1) := by decide +kernel
theorem dX8_when_37 : decode cX8_when 37 = .ok (.istore_n 1, 1) := by decide +kernel
theorem dX8_when_38 : decode cX8_when 38 = .ok (.iinc 2 1, 3) := by decide +kernel
theorem dX8_when_41 : decode cX8_when 41 = .ok (.goto (-24), 3) := by decide +kernel
theorem dX8_when_44 : decode cX8_when 44 = .ok (.iload_n 1, 1) := by decide +kernel
theorem dX8_when_45 : decode cX8_when 45 = .ok (.ireturn, 1) := by decide +kernel
theorem dX8_tower_0 : decode cX8_tower 0 = .ok (.iload_n 1, 1) := by decide +kernel
theorem dX8_tower_1 : decode cX8_tower 1 = .ok (.iconst 1, 1) := by decide +kernel
theorem dX8_tower_2 : decode cX8_tower 2 = .ok (.sipush 200, 3) := by decide +kernel
theorem dX8_tower_5 : decode cX8_tower 5 = .ok (.invokestatic 83, 3) := by decide +kernel
theorem dX8_tower_8 : decode cX8_tower 8 = .ok (.ifCond .eq 45, 3) := by decide +kernel
theorem dX8_tower_11 : decode cX8_tower 11 = .ok (.iload_n 2, 1) := by decide +kernel
theorem dX8_tower_12 : decode cX8_tower 12 = .ok (.iconst 0, 1) := by decide +kernel
theorem dX8_tower_13 : decode cX8_tower 13 = .ok (.bipush 100, 2) := by decide +kernel
theorem dX8_tower_15 : decode cX8_tower 15 = .ok (.invokestatic 83, 3) := by decide +kernel
theorem dX8_tower_18 : decode cX8_tower 18 = .ok (.ifCond .eq 35, 3) := by decide +kernel
theorem dX8_tower_21 : decode cX8_tower 21 = .ok (.iload_n 3, 1) := by decide +kernel
theorem dX8_tower_22 : decode cX8_tower 22 = .ok (.iconst 0, 1) := by decide +kernel
theorem dX8_tower_23 : decode cX8_tower 23 = .ok (.sipush 400, 3) := by decide +kernel
theorem dX8_tower_26 : decode cX8_tower 26 = .ok (.invokestatic 83, 3) := by decide +kernel
theorem dX8_tower_29 : decode cX8_tower 29 = .ok (.ifCond .eq 24, 3) := by decide +kernel
theorem dX8_tower_32 : decode cX8_tower 32 = .ok (.iload 4, 2) := by decide +kernel
theorem dX8_tower_34 : decode cX8_tower 34 = .ok (.iconst 0, 1) := by decide +kernel
theorem dX8_tower_35 : decode cX8_tower 35 = .ok (.bipush 10, 2) := by decide +kernel
theorem dX8_tower_37 : decode cX8_tower 37 = .ok (.invokestatic 83, 3) := by decide +kernel
theorem dX8_tower_40 : decode cX8_tower 40 = .ok (.ifCond .eq 13, 3) := by decide +kernel
theorem dX8_tower_43 : decode cX8_tower 43 = .ok (.iload 5, 2) := by decide +kernel
theorem dX8_tower_45 : decode cX8_tower 45 = .ok (.iconst 0, 1) := by decide +kernel
theorem dX8_tower_46 : decode cX8_tower 46 = .ok (.iconst 1, 1) := by decide +kernel
theorem dX8_tower_47 : decode cX8_tower 47 = .ok (.invokestatic 83, 3) := by decide +kernel
theorem dX8_tower_50 : decode cX8_tower 50 = .ok (.ifCond .ne 9, 3) := by decide +kernel
theorem dX8_tower_53 : decode cX8_tower 53 = .ok (.aload_n 0, 1) := by decide +kernel
theorem dX8_tower_54 : decode cX8_tower 54 = .ok (.iconst (-1), 1) := by decide +kernel
theorem dX8_tower_55 : decode cX8_tower 55 = .ok (.invokevirtual 87, 3) := by decide +kernel
theorem dX8_tower_58 : decode cX8_tower 58 = .ok (.ireturn, 1) := by decide +kernel
theorem dX8_tower_59 : decode cX8_tower 59 = .ok (.aload_n 0, 1) := by decide +kernel
theorem dX8_tower_60 : decode cX8_tower 60 = .ok (.getfield 13, 3) := by decide +kernel
theorem dX8_tower_63 : decode cX8_tower 63 = .ok (.sipush 1638, 3) := by decide +kernel
theorem dX8_tower_66 : decode cX8_tower 66 = .ok (.iaload, 1) := by decide +kernel
theorem dX8_tower_67 : decode cX8_tower 67 = .ok (.istore 6, 2) := by decide +kernel
theorem dX8_tower_69 : decode cX8_tower 69 = .ok (.iload 6, 2) := by decide +kernel
theorem dX8_tower_71 : decode cX8_tower 71 = .ok (.bipush 12, 2) := by decide +kernel
theorem dX8_tower_73 : decode cX8_tower 73 = .ok (.if_icmp .ne 10, 3) := by decide +kernel
theorem dX8_tower_76 : decode cX8_tower 76 = .ok (.aload_n 0, 1) := by decide +kernel
theorem dX8_tower_77 : decode cX8_tower 77 = .ok (.bipush (-5), 2) := by decide +kernel
theorem dX8_tower_79 : decode cX8_tower 79 = .ok (.invokevirtual 87, 3) := by decide +kernel
theorem dX8_tower_82 : decode cX8_tower 82 = .ok (.ireturn, 1) := by decide +kernel
theorem dX8_tower_83 : decode cX8_tower 83 = .ok (.sipush 1573, 3) := by decide +kernel
theorem dX8_tower_86 : decode cX8_tower 86 = .ok (.iconst 5, 1) := by decide +kernel
theorem dX8_tower_87 : decode cX8_tower 87 = .ok (.iload 6, 2) := by decide +kernel
theorem dX8_tower_89 : decode cX8_tower 89 = .ok (.imul, 1) := by decide +kernel
theorem dX8_tower_90 : decode cX8_tower 90 = .ok (.iadd, 1) := by decide +kernel
theorem dX8_tower_91 : decode cX8_tower 91 = .ok (.istore 7, 2) := by decide +kernel
theorem dX8_tower_93 : decode cX8_tower 93 = .ok (.aload_n 0, 1) := by decide +kernel
theorem dX8_tower_94 : decode cX8_tower 94 = .ok (.getfield 13, 3) := by decide +kernel
theorem dX8_tower_97 : decode cX8_tower 97 = .ok (.iload 7, 2) := by decide +kernel
theorem dX8_tower_99 : decode cX8_tower 99 = .ok (.iload_n 1, 1) := by decide +kernel
theorem dX8_tower_100 : decode cX8_tower 100 = .ok (.iastore, 1) := by decide +kernel
theorem dX8_tower_101 : decode cX8_tower 101 = .ok (.aload_n 0, 1) := by decide +kernel
theorem dX8_tower_102 : decode cX8_tower 102 = .ok (.getfield 13, 3) := by decide +kernel
theorem dX8_tower_105 : decode cX8_tower 105 = .ok (.iload 7, 2) := by decide +kernel
theorem dX8_tower_107 : decode cX8_tower 107 = .ok (.iconst 1, 1) := by decide +kernel
theorem dX8_tower_108 : decode cX8_tower 108 = .ok (.iadd, 1) := by decide +kernel
theorem dX8_tower_109 : decode cX8_tower 109 = .ok (.iload_n 2, 1) := by decide +kernel
theorem dX8_tower_110 : decode cX8_tower 110 = .ok (.iastore, 1) := by decide +kernel
theorem dX8_tower_111 : decode cX8_tower 111 = .ok (.aload_n 0, 1) := by decide +kernel
theorem dX8_tower_112 : decode cX8_tower 112 = .ok (.getfield 13, 3) := by decide +kernel
theorem dX8_tower_115 : decode cX8_tower 115 = .ok (.iload 7, 2) := by decide +kernel
theorem dX8_tower_117 : decode cX8_tower 117 = .ok (.iconst 2, 1) := by decide +kernel
theorem dX8_tower_118 : decode cX8_tower 118 = .ok (.iadd, 1) := by decide +kernel
theorem dX8_tower_119 : decode cX8_tower 119 = .ok (.iload_n 3, 1) := by decide +kernel
theorem dX8_tower_120 : decode cX8_tower 120 = .ok (.iastore, 1) := by decide +kernel
theorem dX8_tower_121 : decode cX8_tower 121 = .ok (.aload_n 0, 1) := by decide +kernel
theorem dX8_tower_122 : decode cX8_tower 122 = .ok (.getfield 13, 3) := by decide +kernel
theorem dX8_tower_125 : decode cX8_tower 125 = .ok (.iload 7, 2) := by decide +kernel
theorem dX8_tower_127 : decode cX8_tower 127 = .ok (.iconst 3, 1) := by decide +kernel
theorem dX8_tower_128 : decode cX8_tower 128 = .ok (.iadd, 1) := by decide +kernel
theorem dX8_tower_129 : decode cX8_tower 129 = .ok (.iload 4, 2) := by decide +kernel
theorem dX8_tower_131 : decode cX8_tower 131 = .ok (.iastore, 1) := by decide +kernel
theorem dX8_tower_132 : decode cX8_tower 132 = .ok (.aload_n 0, 1) := by decide +kernel
theorem dX8_tower_133 : decode cX8_tower 133 = .ok (.getfield 13, 3) := by decide +kernel
theorem dX8_tower_136 : decode cX8_tower 136 = .ok (.iload 7, 2) := by decide +kernel
theorem dX8_tower_138 : decode cX8_tower 138 = .ok (.iconst 4, 1) := by decide +kernel
theorem dX8_tower_139 : decode cX8_tower 139 = .ok (.iadd, 1) := by decide +kernel
theorem dX8_tower_140 : decode cX8_tower 140 = .ok (.iload 5, 2) := by decide +kernel
theorem dX8_tower_142 : decode cX8_tower 142 = .ok (.iastore, 1) := by decide +kernel
theorem dX8_tower_143 : decode cX8_tower 143 = .ok (.aload_n 0, 1) := by decide +kernel
theorem dX8_tower_144 : decode cX8_tower 144 = .ok (.getfield 13, 3) := by decide +kernel
theorem dX8_tower_147 : decode cX8_tower 147 = .ok (.sipush 1638, 3) := by decide +kernel
theorem dX8_tower_150 : decode cX8_tower 150 = .ok (.dup2, 1) := by decide +kernel
theorem dX8_tower_151 : decode cX8_tower 151 = .ok (.iaload, 1) := by decide +kernel
theorem dX8_tower_152 : decode cX8_tower 152 = .ok (.iconst 1, 1) := by decide +kernel
theorem dX8_tower_153 : decode cX8_tower 153 = .ok (.iadd, 1) := by decide +kernel
theorem dX8_tower_154 : decode cX8_tower 154 = .ok (.iastore, 1) := by decide +kernel
theorem dX8_tower_155 : decode cX8_tower 155 = .ok (.aload_n 0, 1) := by decide +kernel
theorem dX8_tower_156 : decode cX8_tower 156 = .ok (.iload 6, 2) := by decide +kernel
theorem dX8_tower_158 : decode cX8_tower 158 = .ok (.invokevirtual 91, 3) := by decide +kernel
theorem dX8_tower_161 : decode cX8_tower 161 = .ok (.ireturn, 1) := by decide +kernel
theorem dX8_first_0 : decode cX8_first 0 = .ok (.aload_n 0, 1) := by decide +kernel
theorem dX8_first_1 : decode cX8_first 1 = .ok (.iload_n 1, 1) := by decide +kernel
theorem dX8_first_2 : decode cX8_first 2 = .ok (.invokevirtual 306, 3) := by decide +kernel
theorem dX8_first_5 : decode cX8_first 5 = .ok (.ifCond .ne 5, 3) := by decide +kernel
theorem dX8_first_8 : decode cX8_first 8 = .ok (.iconst (-1), 1) := by decide +kernel
theorem dX8_first_9 : decode cX8_first 9 = .ok (.ireturn, 1) := by decide +kernel
theorem dX8_first_10 : decode cX8_first 10 = .ok (.iconst (-1), 1) := by decide +kernel
theorem dX8_first_11 : decode cX8_first 11 = .ok (.istore_n 2, 1) := by decide +kernel
theorem dX8_first_12 : decode cX8_first 12 = .ok (.lconst 0, 1) := by decide +kernel
theorem dX8_first_13 : decode cX8_first 13 = .ok (.lstore_n 3, 1) := by decide +kernel
theorem dX8_first_14 : decode cX8_first 14 = .ok (.iconst 0, 1) := by decide +kernel
theorem dX8_first_15 : decode cX8_first 15 = .ok (.istore 5, 2) := by decide +kernel
theorem dX8_first_17 : decode cX8_first 17 = .ok (.iload 5, 2) := by decide +kernel
theorem dX8_first_19 : decode cX8_first 19 = .ok (.aload_n 0, 1) := by decide +kernel
theorem dX8_first_20 : decode cX8_first 20 = .ok (.getfield 13, 3) := by decide +kernel
theorem dX8_first_23 : decode cX8_first 23 = .ok (.sipush 1638, 3) := by decide +kernel
theorem dX8_first_26 : decode cX8_first 26 = .ok (.iaload, 1) := by decide +kernel
theorem dX8_first_27 : decode cX8_first 27 = .ok (.if_icmp .ge 213, 3) := by decide +kernel
theorem dX8_first_30 : decode cX8_first 30 = .ok (.iconst 0, 1) := by decide +kernel
theorem dX8_first_31 : decode cX8_first 31 = .ok (.istore 6, 2) := by decide +kernel
theorem dX8_first_33 : decode cX8_first 33 = .ok (.iload 6, 2) := by decide +kernel
theorem dX8_first_35 : decode cX8_first 35 = .ok (.bipush 10, 2) := by decide +kernel
theorem dX8_first_37 : decode cX8_first 37 = .ok (.if_icmp .ge 17, 3) := by decide +kernel
theorem dX8_first_40 : decode cX8_first 40 = .ok (.aload_n 0, 1) := by decide +kernel
theorem dX8_first_41 : decode cX8_first 41 = .ok (.getfield 59, 3) := by decide +kernel
theorem dX8_first_44 : decode cX8_first 44 = .ok (.iload 6, 2) := by decide +kernel
theorem dX8_first_46 : decode cX8_first 46 = .ok (.lconst 0, 1) := by decide +kernel
theorem dX8_first_47 : decode cX8_first 47 = .ok (.lastore, 1) := by decide +kernel
theorem dX8_first_48 : decode cX8_first 48 = .ok (.iinc 6 1, 3) := by decide +kernel
theorem dX8_first_51 : decode cX8_first 51 = .ok (.goto (-18), 3) := by decide +kernel
theorem dX8_first_54 : decode cX8_first 54 = .ok (.iconst 0, 1) := by decide +kernel
theorem dX8_first_55 : decode cX8_first 55 = .ok (.istore 6, 2) := by decide +kernel
theorem dX8_first_57 : decode cX8_first 57 = .ok (.iload 6, 2) := by decide +kernel
theorem dX8_first_59 : decode cX8_first 59 = .ok (.iconst 4, 1) := by decide +kernel
theorem dX8_first_60 : decode cX8_first 60 = .ok (.if_icmp .ge 17, 3) := by decide +kernel
theorem dX8_first_63 : decode cX8_first 63 = .ok (.aload_n 0, 1) := by decide +kernel
theorem dX8_first_64 : decode cX8_first 64 = .ok (.getfield 62, 3) := by decide +kernel
theorem dX8_first_67 : decode cX8_first 67 = .ok (.iload 6, 2) := by decide +kernel
theorem dX8_first_69 : decode cX8_first 69 = .ok (.iconst 0, 1) := by decide +kernel
theorem dX8_first_70 : decode cX8_first 70 = .ok (.bastore, 1) := by decide +kernel
theorem dX8_first_71 : decode cX8_first 71 = .ok (.iinc 6 1, 3) := by decide +kernel
theorem dX8_first_74 : decode cX8_first 74 = .ok (.goto (-17), 3) := by decide +kernel
theorem dX8_first_77 : decode cX8_first 77 = .ok (.aload_n 0, 1) := by decide +kernel
theorem dX8_first_78 : decode cX8_first 78 = .ok (.getfield 59, 3) := by decide +kernel
theorem dX8_first_81 : decode cX8_first 81 = .ok (.bipush 6, 2) := by decide +kernel
theorem dX8_first_83 : decode cX8_first 83 = .ok (.aload_n 0, 1) := by decide +kernel
theorem dX8_first_84 : decode cX8_first 84 = .ok (.getfield 13, 3) := by decide +kernel
theorem dX8_first_87 : decode cX8_first 87 = .ok (.sipush 1573, 3) := by decide +kernel
theorem dX8_first_90 : decode cX8_first 90 = .ok (.iconst 5, 1) := by decide +kernel
theorem dX8_first_91 : decode cX8_first 91 = .ok (.iload 5, 2) := by decide +kernel
theorem dX8_first_93 : decode cX8_first 93 = .ok (.imul, 1) := by decide +kernel
theorem dX8_first_94 : decode cX8_first 94 = .ok (.iadd, 1) := by decide +kernel
theorem dX8_first_95 : decode cX8_first 95 = .ok (.iconst 3, 1) := by decide +kernel
theorem dX8_first_96 : decode cX8_first 96 = .ok (.iadd, 1) := by decide +kernel
theorem dX8_first_97 : decode cX8_first 97 = .ok (.iaload, 1) := by decide +kernel
theorem dX8_first_98 : decode cX8_first 98 = .ok (.i2l, 1) := by decide +kernel
theorem dX8_first_99 : decode cX8_first 99 = .ok (.lastore, 1) := by decide +kernel
theorem dX8_first_100 : decode cX8_first 100 = .ok (.aload_n 0, 1) := by decide +kernel
theorem dX8_first_101 : decode cX8_first 101 = .ok (.getfield 59, 3) := by decide +kernel
theorem dX8_first_104 : decode cX8_first 104 = .ok (.bipush 7, 2) := by decide +kernel
theorem dX8_first_106 : decode cX8_first 106 = .ok (.aload_n 0, 1) := by decide +kernel
theorem dX8_first_107 : decode cX8_first 107 = .ok (.getfield 13, 3) := by decide +kernel
theorem dX8_first_110 : decode cX8_first 110 = .ok (.sipush 1573, 3) := by decide +kernel
theorem dX8_first_113 : decode cX8_first 113 = .ok (.iconst 5, 1) := by decide +kernel
theorem dX8_first_114 : decode cX8_first 114 = .ok (.iload 5, 2) := by decide +kernel
theorem dX8_first_116 : decode cX8_first 116 = .ok (.imul, 1) := by decide +kernel
theorem dX8_first_117 : decode cX8_first 117 = .ok (.iadd, 1) := by decide +kernel
theorem dX8_first_118 : decode cX8_first 118 = .ok (.iaload, 1) := by decide +kernel
theorem dX8_first_119 : decode cX8_first 119 = .ok (.i2l, 1) := by decide +kernel
theorem dX8_first_120 : decode cX8_first 120 = .ok (.lastore, 1) := by decide +kernel
theorem dX8_first_121 : decode cX8_first 121 = .ok (.aload_n 0, 1) := by decide +kernel
theorem dX8_first_122 : decode cX8_first 122 = .ok (.getfield 59, 3) := by decide +kernel
theorem dX8_first_125 : decode cX8_first 125 = .ok (.bipush 8, 2) := by decide +kernel
theorem dX8_first_127 : decode cX8_first 127 = .ok (.aload_n 0, 1) := by decide +kernel
theorem dX8_first_128 : decode cX8_first 128 = .ok (.getfield 13, 3) := by decide +kernel
theorem dX8_first_131 : decode cX8_first 131 = .ok (.sipush 1573, 3) := by decide +kernel
theorem dX8_first_134 : decode cX8_first 134 = .ok (.iconst 5, 1) := by decide +kernel
theorem dX8_first_135 : decode cX8_first 135 = .ok (.iload 5, 2) := by decide +kernel
theorem dX8_first_137 : decode cX8_first 137 = .ok (.imul, 1) := by decide +kernel
theorem dX8_first_138 : decode cX8_first 138 = .ok (.iadd, 1) := by decide +kernel
theorem dX8_first_139 : decode cX8_first 139 = .ok (.iconst 1, 1) := by decide +kernel
theorem dX8_first_140 : decode cX8_first 140 = .ok (.iadd, 1) := by decide +kernel
theorem dX8_first_141 : decode cX8_first 141 = .ok (.iaload, 1) := by decide +kernel
theorem dX8_first_142 : decode cX8_first 142 = .ok (.i2l, 1) := by decide +kernel
theorem dX8_first_143 : decode cX8_first 143 = .ok (.lastore, 1) := by decide +kernel
theorem dX8_first_144 : decode cX8_first 144 = .ok (.aload_n 0, 1) := by decide +kernel
theorem dX8_first_145 : decode cX8_first 145 = .ok (.getfield 59, 3) := by decide +kernel
theorem dX8_first_148 : decode cX8_first 148 = .ok (.bipush 9, 2) := by decide +kernel
theorem dX8_first_150 : decode cX8_first 150 = .ok (.aload_n 0, 1) := by decide +kernel
theorem dX8_first_151 : decode cX8_first 151 = .ok (.getfield 13, 3) := by decide +kernel
theorem dX8_first_154 : decode cX8_first 154 = .ok (.sipush 1573, 3) := by decide +kernel
theorem dX8_first_157 : decode cX8_first 157 = .ok (.iconst 5, 1) := by decide +kernel
theorem dX8_first_158 : decode cX8_first 158 = .ok (.iload 5, 2) := by decide +kernel
theorem dX8_first_160 : decode cX8_first 160 = .ok (.imul, 1) := by decide +kernel
theorem dX8_first_161 : decode cX8_first 161 = .ok (.iadd, 1) := by decide +kernel
theorem dX8_first_162 : decode cX8_first 162 = .ok (.iconst 2, 1) := by decide +kernel
theorem dX8_first_163 : decode cX8_first 163 = .ok (.iadd, 1) := by decide +kernel
theorem dX8_first_164 : decode cX8_first 164 = .ok (.iaload, 1) := by decide +kernel
theorem dX8_first_165 : decode cX8_first 165 = .ok (.i2l, 1) := by decide +kernel
theorem dX8_first_166 : decode cX8_first 166 = .ok (.lastore, 1) := by decide +kernel
theorem dX8_first_167 : decode cX8_first 167 = .ok (.aload_n 0, 1) := by decide +kernel
theorem dX8_first_168 : decode cX8_first 168 = .ok (.getfield 62, 3) := by decide +kernel
theorem dX8_first_171 : decode cX8_first 171 = .ok (.iconst 1, 1) := by decide +kernel
theorem dX8_first_172 : decode cX8_first 172 = .ok (.aload_n 0, 1) := by decide +kernel
theorem dX8_first_173 : decode cX8_first 173 = .ok (.getfield 13, 3) := by decide +kernel
theorem dX8_first_176 : decode cX8_first 176 = .ok (.sipush 1573, 3) := by decide +kernel
theorem dX8_first_179 : decode cX8_first 179 = .ok (.iconst 5, 1) := by decide +kernel
theorem dX8_first_180 : decode cX8_first 180 = .ok (.iload 5, 2) := by decide +kernel
theorem dX8_first_182 : decode cX8_first 182 = .ok (.imul, 1) := by decide +kernel
theorem dX8_first_183 : decode cX8_first 183 = .ok (.iadd, 1) := by decide +kernel
theorem dX8_first_184 : decode cX8_first 184 = .ok (.iconst 4, 1) := by decide +kernel
theorem dX8_first_185 : decode cX8_first 185 = .ok (.iadd, 1) := by decide +kernel
theorem dX8_first_186 : decode cX8_first 186 = .ok (.iaload, 1) := by decide +kernel
theorem dX8_first_187 : decode cX8_first 187 = .ok (.iconst 1, 1) := by decide +kernel
theorem dX8_first_188 : decode cX8_first 188 = .ok (.if_icmp .ne 7, 3) := by decide +kernel
theorem dX8_first_191 : decode cX8_first 191 = .ok (.iconst 1, 1) := by decide +kernel
theorem dX8_first_192 : decode cX8_first 192 = .ok (.goto 4, 3) := by decide +kernel
theorem dX8_first_195 : decode cX8_first 195 = .ok (.iconst 0, 1) := by decide +kernel
theorem dX8_first_196 : decode cX8_first 196 = .ok (.bastore, 1) := by decide +kernel
theorem dX8_first_197 : decode cX8_first 197 = .ok (.aload_n 0, 1) := by decide +kernel
theorem dX8_first_198 : decode cX8_first 198 = .ok (.iload_n 1, 1) := by decide +kernel
theorem dX8_first_199 : decode cX8_first 199 = .ok (.invokevirtual 303, 3) := by decide +kernel
theorem dX8_first_202 : decode cX8_first 202 = .ok (.aload_n 0, 1) := by decide +kernel
theorem dX8_first_203 : decode cX8_first 203 = .ok (.getfield 287, 3) := by decide +kernel
theorem dX8_first_206 : decode cX8_first 206 = .ok (.ifCond .eq 28, 3) := by decide +kernel
theorem dX8_first_209 : decode cX8_first 209 = .ok (.iload_n 2, 1) := by decide +kernel
theorem dX8_first_210 : decode cX8_first 210 = .ok (.iconst (-1), 1) := by decide +kernel
theorem dX8_first_211 : decode cX8_first 211 = .ok (.if_icmp .eq 15, 3) := by decide +kernel
theorem dX8_first_214 : decode cX8_first 214 = .ok (.aload_n 0, 1) := by decide +kernel
theorem dX8_first_215 : decode cX8_first 215 = .ok (.getfield 296, 3) := by decide +kernel
theorem dX8_first_218 : decode cX8_first 218 = .ok (.lload_n 3, 1) := by decide +kernel
theorem dX8_first_219 : decode cX8_first 219 = .ok (.lcmp, 1) := by decide +kernel
theorem dX8_first_220 : decode cX8_first 220 = .ok (.ifCond .gt 6, 3) := by decide +kernel
theorem dX8_first_223 : decode cX8_first 223 = .ok (.goto 11, 3) := by decide +kernel
theorem dX8_first_226 : decode cX8_first 226 = .ok (.iload 5, 2) := by decide +kernel
theorem dX8_first_228 : decode cX8_first 228 = .ok (.istore_n 2, 1) := by decide +kernel
theorem dX8_first_229 : decode cX8_first 229 = .ok (.aload_n 0, 1) := by decide +kernel
theorem dX8_first_230 : decode cX8_first 230 = .ok (.getfield 296, 3) := by decide +kernel
theorem dX8_first_233 : decode cX8_first 233 = .ok (.lstore_n 3, 1) := by decide +kernel
theorem dX8_first_234 : decode cX8_first 234 = .ok (.iinc 5 1, 3) := by decide +kernel
theorem dX8_first_237 : decode cX8_first 237 = .ok (.goto (-220), 3) := by decide +kernel
theorem dX8_first_240 : decode cX8_first 240 = .ok (.iload_n 2, 1) := by decide +kernel
theorem dX8_first_241 : decode cX8_first 241 = .ok (.ireturn, 1) := by decide +kernel
theorem dX8_count_0 : decode cX8_count 0 = .ok (.iload_n 1, 1) := by decide +kernel
theorem dX8_count_1 : decode cX8_count 1 = .ok (.tableswitch 111 0 7 #[47, 56, 65, 74, 79, 88, 97, 106], 47) := by decide +kernel
theorem dX8_count_48 : decode cX8_count 48 = .ok (.aload_n 0, 1) := by decide +kernel
theorem dX8_count_49 : decode cX8_count 49 = .ok (.getfield 13, 3) := by decide +kernel
theorem dX8_count_52 : decode cX8_count 52 = .ok (.sipush 1633, 3) := by decide +kernel
theorem dX8_count_55 : decode cX8_count 55 = .ok (.iaload, 1) := by decide +kernel
theorem dX8_count_56 : decode cX8_count 56 = .ok (.ireturn, 1) := by decide +kernel
theorem dX8_count_57 : decode cX8_count 57 = .ok (.aload_n 0, 1) := by decide +kernel
theorem dX8_count_58 : decode cX8_count 58 = .ok (.getfield 13, 3) := by decide +kernel
theorem dX8_count_61 : decode cX8_count 61 = .ok (.sipush 1634, 3) := by decide +kernel
theorem dX8_count_64 : decode cX8_count 64 = .ok (.iaload, 1) := by decide +kernel
theorem dX8_count_65 : decode cX8_count 65 = .ok (.ireturn, 1) := by decide +kernel
theorem dX8_count_66 : decode cX8_count 66 = .ok (.aload_n 0, 1) := by decide +kernel
theorem dX8_count_67 : decode cX8_count 67 = .ok (.getfield 13, 3) := by decide +kernel
theorem dX8_count_70 : decode cX8_count 70 = .ok (.sipush 1635, 3) := by decide +kernel
theorem dX8_count_73 : decode cX8_count 73 = .ok (.iaload, 1) := by decide +kernel
theorem dX8_count_74 : decode cX8_count 74 = .ok (.ireturn, 1) := by decide +kernel
theorem dX8_count_75 : decode cX8_count 75 = .ok (.aload_n 0, 1) := by decide +kernel
theorem dX8_count_76 : decode cX8_count 76 = .ok (.getfield 338, 3) := by decide +kernel
theorem dX8_count_79 : decode cX8_count 79 = .ok (.ireturn, 1) := by decide +kernel
theorem dX8_count_80 : decode cX8_count 80 = .ok (.aload_n 0, 1) := by decide +kernel
theorem dX8_count_81 : decode cX8_count 81 = .ok (.getfield 13, 3) := by decide +kernel
theorem dX8_count_84 : decode cX8_count 84 = .ok (.sipush 1636, 3) := by decide +kernel
theorem dX8_count_87 : decode cX8_count 87 = .ok (.iaload, 1) := by decide +kernel
theorem dX8_count_88 : decode cX8_count 88 = .ok (.ireturn, 1) := by decide +kernel
theorem dX8_count_89 : decode cX8_count 89 = .ok (.aload_n 0, 1) := by decide +kernel
theorem dX8_count_90 : decode cX8_count 90 = .ok (.getfield 13, 3) := by decide +kernel
theorem dX8_count_93 : decode cX8_count 93 = .ok (.sipush 1637, 3) := by decide +kernel
theorem dX8_count_96 : decode cX8_count 96 = .ok (.iaload, 1) := by decide +kernel
theorem dX8_count_97 : decode cX8_count 97 = .ok (.ireturn, 1) := by decide +kernel
theorem dX8_count_98 : decode cX8_count 98 = .ok (.aload_n 0, 1) := by decide +kernel
theorem dX8_count_99 : decode cX8_count 99 = .ok (.getfield 13, 3) := by decide +kernel
theorem dX8_count_102 : decode cX8_count 102 = .ok (.sipush 1638, 3) := by decide +kernel
theorem dX8_count_105 : decode cX8_count 105 = .ok (.iaload, 1) := by decide +kernel
theorem dX8_count_106 : decode cX8_count 106 = .ok (.ireturn, 1) := by decide +kernel
theorem dX8_count_107 : decode cX8_count 107 = .ok (.aload_n 0, 1) := by decide +kernel
theorem dX8_count_108 : decode cX8_count 108 = .ok (.getfield 165, 3) := by decide +kernel
theorem dX8_count_111 : decode cX8_count 111 = .ok (.ireturn, 1) := by decide +kernel
theorem dX8_count_112 : decode cX8_count 112 = .ok (.iconst (-1), 1) := by decide +kernel
theorem dX8_count_113 : decode cX8_count 113 = .ok (.ireturn, 1) := by decide +kernel
theorem dX8_status_0 : decode cX8_status 0 = .ok (.aload_n 0, 1) := by decide +kernel
theorem dX8_status_1 : decode cX8_status 1 = .ok (.getfield 3, 3) := by decide +kernel
theorem dX8_status_4 : decode cX8_status 4 = .ok (.ireturn, 1) := by decide +kernel

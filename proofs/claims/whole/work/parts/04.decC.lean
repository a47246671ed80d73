theorem dX6_init_0 : decode cX6_init 0 = .ok (.aload_n 0, 1) := by decide +kernel
theorem dX6_init_1 : decode cX6_init 1 = .ok (.invokespecial 1, 3) := by decide +kernel
theorem dX6_init_4 : decode cX6_init 4 = .ok (.aload_n 0, 1) := by decide +kernel
theorem dX6_init_5 : decode cX6_init 5 = .ok (.bipush 125, 2) := by decide +kernel
theorem dX6_init_7 : decode cX6_init 7 = .ok (.newarray .int, 2) := by decide +kernel
theorem dX6_init_9 : decode cX6_init 9 = .ok (.putfield 7, 3) := by decide +kernel
theorem dX6_init_12 : decode cX6_init 12 = .ok (.aload_n 0, 1) := by decide +kernel
theorem dX6_init_13 : decode cX6_init 13 = .ok (.iconst 4, 1) := by decide +kernel
theorem dX6_init_14 : decode cX6_init 14 = .ok (.newarray .int, 2) := by decide +kernel
theorem dX6_init_16 : decode cX6_init 16 = .ok (.putfield 13, 3) := by decide +kernel
theorem dX6_init_19 : decode cX6_init 19 = .ok (.aload_n 0, 1) := by decide +kernel
theorem dX6_init_20 : decode cX6_init 20 = .ok (.bipush 25, 2) := by decide +kernel
theorem dX6_init_22 : decode cX6_init 22 = .ok (.newarray .int, 2) := by decide +kernel
theorem dX6_init_24 : decode cX6_init 24 = .ok (.putfield 16, 3) := by decide +kernel
theorem dX6_init_27 : decode cX6_init 27 = .ok (.aload_n 0, 1) := by decide +kernel
theorem dX6_init_28 : decode cX6_init 28 = .ok (.iconst 4, 1) := by decide +kernel
theorem dX6_init_29 : decode cX6_init 29 = .ok (.newarray .int, 2) := by decide +kernel
theorem dX6_init_31 : decode cX6_init 31 = .ok (.putfield 19, 3) := by decide +kernel
theorem dX6_init_34 : decode cX6_init 34 = .ok (.aload_n 0, 1) := by decide +kernel
theorem dX6_init_35 : decode cX6_init 35 = .ok (.sipush 160, 3) := by decide +kernel
theorem dX6_init_38 : decode cX6_init 38 = .ok (.newarray .int, 2) := by decide +kernel
theorem dX6_init_40 : decode cX6_init 40 = .ok (.putfield 22, 3) := by decide +kernel
theorem dX6_init_43 : decode cX6_init 43 = .ok (.aload_n 0, 1) := by decide +kernel
theorem dX6_init_44 : decode cX6_init 44 = .ok (.bipush 12, 2) := by decide +kernel
theorem dX6_init_46 : decode cX6_init 46 = .ok (.newarray .int, 2) := by decide +kernel
theorem dX6_init_48 : decode cX6_init 48 = .ok (.dup, 1) := by decide +kernel
theorem dX6_init_49 : decode cX6_init 49 = .ok (.iconst 0, 1) := by decide +kernel
theorem dX6_init_50 : decode cX6_init 50 = .ok (.iconst 0, 1) := by decide +kernel
theorem dX6_init_51 : decode cX6_init 51 = .ok (.iastore, 1) := by decide +kernel
theorem dX6_init_52 : decode cX6_init 52 = .ok (.dup, 1) := by decide +kernel
theorem dX6_init_53 : decode cX6_init 53 = .ok (.iconst 1, 1) := by decide +kernel
theorem dX6_init_54 : decode cX6_init 54 = .ok (.iconst 4, 1) := by decide +kernel
theorem dX6_init_55 : decode cX6_init 55 = .ok (.iastore, 1) := by decide +kernel
theorem dX6_init_56 : decode cX6_init 56 = .ok (.dup, 1) := by decide +kernel
theorem dX6_init_57 : decode cX6_init 57 = .ok (.iconst 2, 1) := by decide +kernel
theorem dX6_init_58 : decode cX6_init 58 = .ok (.bipush 9, 2) := by decide +kernel
theorem dX6_init_60 : decode cX6_init 60 = .ok (.iastore, 1) := by decide +kernel
theorem dX6_init_61 : decode cX6_init 61 = .ok (.dup, 1) := by decide +kernel
theorem dX6_init_62 : decode cX6_init 62 = .ok (.iconst 3, 1) := by decide +kernel
theorem dX6_init_63 : decode cX6_init 63 = .ok (.bipush 15, 2) := by decide +kernel
theorem dX6_init_65 : decode cX6_init 65 = .ok (.iastore, 1) := by decide +kernel
theorem dX6_init_66 : decode cX6_init 66 = .ok (.dup, 1) := by decide +kernel
theorem dX6_init_67 : decode cX6_init 67 = .ok (.iconst 4, 1) := by decide +kernel
theorem dX6_init_68 : decode cX6_init 68 = .ok (.bipush 22, 2) := by decide +kernel
theorem dX6_init_70 : decode cX6_init 70 = .ok (.iastore, 1) := by decide +kernel
theorem dX6_init_71 : decode cX6_init 71 = .ok (.dup, 1) := by decide +kernel
theorem dX6_init_72 : decode cX6_init 72 = .ok (.iconst 5, 1) := by decide +kernel
theorem dX6_init_73 : decode cX6_init 73 = .ok (.bipush 27, 2) := by decide +kernel
theorem dX6_init_75 : decode cX6_init 75 = .ok (.iastore, 1) := by decide +kernel
theorem dX6_init_76 : decode cX6_init 76 = .ok (.dup, 1) := by decide +kernel
theorem dX6_init_77 : decode cX6_init 77 = .ok (.bipush 6, 2) := by decide +kernel
theorem dX6_init_79 : decode cX6_init 79 = .ok (.bipush 34, 2) := by decide +kernel
theorem dX6_init_81 : decode cX6_init 81 = .ok (.iastore, 1) := by decide +kernel
theorem dX6_init_82 : decode cX6_init 82 = .ok (.dup, 1) := by decide +kernel
theorem dX6_init_83 : decode cX6_init 83 = .ok (.bipush 7, 2) := by decide +kernel
theorem dX6_init_85 : decode cX6_init 85 = .ok (.bipush 37, 2) := by decide +kernel
theorem dX6_init_87 : decode cX6_init 87 = .ok (.iastore, 1) := by decide +kernel
theorem dX6_init_88 : decode cX6_init 88 = .ok (.dup, 1) := by decide +kernel
theorem dX6_init_89 : decode cX6_init 89 = .ok (.bipush 8, 2) := by decide +kernel
theorem dX6_init_91 : decode cX6_init 91 = .ok (.bipush 41, 2) := by decide +kernel
theorem dX6_init_93 : decode cX6_init 93 = .ok (.iastore, 1) := by decide +kernel
theorem dX6_init_94 : decode cX6_init 94 = .ok (.dup, 1) := by decide +kernel
theorem dX6_init_95 : decode cX6_init 95 = .ok (.bipush 9, 2) := by decide +kernel
theorem dX6_init_97 : decode cX6_init 97 = .ok (.bipush 46, 2) := by decide +kernel
theorem dX6_init_99 : decode cX6_init 99 = .ok (.iastore, 1) := by decide +kernel
theorem dX6_init_100 : decode cX6_init 100 = .ok (.dup, 1) := by decide +kernel
theorem dX6_init_101 : decode cX6_init 101 = .ok (.bipush 10, 2) := by decide +kernel
theorem dX6_init_103 : decode cX6_init 103 = .ok (.bipush 50, 2) := by decide +kernel
theorem dX6_init_105 : decode cX6_init 105 = .ok (.iastore, 1) := by decide +kernel
theorem dX6_init_106 : decode cX6_init 106 = .ok (.dup, 1) := by decide +kernel
theorem dX6_init_107 : decode cX6_init 107 = .ok (.bipush 11, 2) := by decide +kernel
theorem dX6_init_109 : decode cX6_init 109 = .ok (.bipush 54, 2) := by decide +kernel
theorem dX6_init_111 : decode cX6_init 111 = .ok (.iastore, 1) := by decide +kernel
theorem dX6_init_112 : decode cX6_init 112 = .ok (.putfield 25, 3) := by decide +kernel
theorem dX6_init_115 : decode cX6_init 115 = .ok (.aload_n 0, 1) := by decide +kernel
theorem dX6_init_116 : decode cX6_init 116 = .ok (.bipush 54, 2) := by decide +kernel
theorem dX6_init_118 : decode cX6_init 118 = .ok (.newarray .int, 2) := by decide +kernel
theorem dX6_init_120 : decode cX6_init 120 = .ok (.dup, 1) := by decide +kernel
theorem dX6_init_121 : decode cX6_init 121 = .ok (.iconst 0, 1) := by decide +kernel
theorem dX6_init_122 : decode cX6_init 122 = .ok (.bipush 108, 2) := by decide +kernel
theorem dX6_init_124 : decode cX6_init 124 = .ok (.iastore, 1) := by decide +kernel
theorem dX6_init_125 : decode cX6_init 125 = .ok (.dup, 1) := by decide +kernel
theorem dX6_init_126 : decode cX6_init 126 = .ok (.iconst 1, 1) := by decide +kernel
theorem dX6_init_127 : decode cX6_init 127 = .ok (.bipush 97, 2) := by decide +kernel
theorem dX6_init_129 : decode cX6_init 129 = .ok (.iastore, 1) := by decide +kernel
theorem dX6_init_130 : decode cX6_init 130 = .ok (.dup, 1) := by decide +kernel
theorem dX6_init_131 : decode cX6_init 131 = .ok (.iconst 2, 1) := by decide +kernel
theorem dX6_init_132 : decode cX6_init 132 = .ok (.bipush 110, 2) := by decide +kernel
theorem dX6_init_134 : decode cX6_init 134 = .ok (.iastore, 1) := by decide +kernel
theorem dX6_init_135 : decode cX6_init 135 = .ok (.dup, 1) := by decide +kernel
theorem dX6_init_136 : decode cX6_init 136 = .ok (.iconst 3, 1) := by decide +kernel
theorem dX6_init_137 : decode cX6_init 137 = .ok (.bipush 100, 2) := by decide +kernel
theorem dX6_init_139 : decode cX6_init 139 = .ok (.iastore, 1) := by decide +kernel
theorem dX6_init_140 : decode cX6_init 140 = .ok (.dup, 1) := by decide +kernel
theorem dX6_init_141 : decode cX6_init 141 = .ok (.iconst 4, 1) := by decide +kernel
theorem dX6_init_142 : decode cX6_init 142 = .ok (.bipush 100, 2) := by decide +kernel
theorem dX6_init_144 : decode cX6_init 144 = .ok (.iastore, 1) := by decide +kernel
theorem dX6_init_145 : decode cX6_init 145 = .ok (.dup, 1) := by decide +kernel
theorem dX6_init_146 : decode cX6_init 146 = .ok (.iconst 5, 1) := by decide +kernel
theorem dX6_init_147 : decode cX6_init 147 = .ok (.bipush 114, 2) := by decide +kernel
theorem dX6_init_149 : decode cX6_init 149 = .ok (.iastore, 1) := by decide +kernel
theorem dX6_init_150 : decode cX6_init 150 = .ok (.dup, 1) := by decide +kernel
theorem dX6_init_151 : decode cX6_init 151 = .ok (.bipush 6, 2) := by decide +kernel
theorem dX6_init_153 : decode cX6_init 153 = .ok (.bipush 101, 2) := by decide +kernel
theorem dX6_init_155 : decode cX6_init 155 = .ok (.iastore, 1) := by decide +kernel
theorem dX6_init_156 : decode cX6_init 156 = .ok (.dup, 1) := by decide +kernel
theorem dX6_init_157 : decode cX6_init 157 = .ok (.bipush 7, 2) := by decide +kernel
theorem dX6_init_159 : decode cX6_init 159 = .ok (.bipush 97, 2) := by decide +kernel
theorem dX6_init_161 : decode cX6_init 161 = .ok (.iastore, 1) := by decide +kernel
theorem dX6_init_162 : decode cX6_init 162 = .ok (.dup, 1) := by decide +kernel
theorem dX6_init_163 : decode cX6_init 163 = .ok (.bipush 8, 2) := by decide +kernel
theorem dX6_init_165 : decode cX6_init 165 = .ok (.bipush 109, 2) := by decide +kernel
theorem dX6_init_167 : decode cX6_init 167 = .ok (.iastore, 1) := by decide +kernel
theorem dX6_init_168 : decode cX6_init 168 = .ok (.dup, 1) := by decide +kernel
theorem dX6_init_169 : decode cX6_init 169 = .ok (.bipush 9, 2) := by decide +kernel
theorem dX6_init_171 : decode cX6_init 171 = .ok (.bipush 112, 2) := by decide +kernel
theorem dX6_init_173 : decode cX6_init 173 = .ok (.iastore, 1) := by decide +kernel
theorem dX6_init_174 : decode cX6_init 174 = .ok (.dup, 1) := by decide +kernel
theorem dX6_init_175 : decode cX6_init 175 = .ok (.bipush 10, 2) := by decide +kernel
theorem dX6_init_177 : decode cX6_init 177 = .ok (.bipush 101, 2) := by decide +kernel
theorem dX6_init_179 : decode cX6_init 179 = .ok (.iastore, 1) := by decide +kernel
theorem dX6_init_180 : decode cX6_init 180 = .ok (.dup, 1) := by decide +kernel
theorem dX6_init_181 : decode cX6_init 181 = .ok (.bipush 11, 2) := by decide +kernel
theorem dX6_init_183 : decode cX6_init 183 = .ok (.bipush 111, 2) := by decide +kernel
theorem dX6_init_185 : decode cX6_init 185 = .ok (.iastore, 1) := by decide +kernel
theorem dX6_init_186 : decode cX6_init 186 = .ok (.dup, 1) := by decide +kernel
theorem dX6_init_187 : decode cX6_init 187 = .ok (.bipush 12, 2) := by decide +kernel
theorem dX6_init_189 : decode cX6_init 189 = .ok (.bipush 112, 2) := by decide +kernel
theorem dX6_init_191 : decode cX6_init 191 = .ok (.iastore, 1) := by decide +kernel
theorem dX6_init_192 : decode cX6_init 192 = .ok (.dup, 1) := by decide +kernel
theorem dX6_init_193 : decode cX6_init 193 = .ok (.bipush 13, 2) := by decide +kernel
theorem dX6_init_195 : decode cX6_init 195 = .ok (.bipush 108, 2) := by decide +kernel
theorem dX6_init_197 : decode cX6_init 197 = .ok (.iastore, 1) := by decide +kernel
theorem dX6_init_198 : decode cX6_init 198 = .ok (.dup, 1) := by decide +kernel
theorem dX6_init_199 : decode cX6_init 199 = .ok (.bipush 14, 2) := by decide +kernel
theorem dX6_init_201 : decode cX6_init 201 = .ok (.bipush 101, 2) := by decide +kernel
theorem dX6_init_203 : decode cX6_init 203 = .ok (.iastore, 1) := by decide +kernel
theorem dX6_init_204 : decode cX6_init 204 = .ok (.dup, 1) := by decide +kernel
theorem dX6_init_205 : decode cX6_init 205 = .ok (.bipush 15, 2) := by decide +kernel
theorem dX6_init_207 : decode cX6_init 207 = .ok (.bipush 103, 2) := by decide +kernel
theorem dX6_init_209 : decode cX6_init 209 = .ok (.iastore, 1) := by decide +kernel
theorem dX6_init_210 : decode cX6_init 210 = .ok (.dup, 1) := by decide +kernel
theorem dX6_init_211 : decode cX6_init 211 = .ok (.bipush 16, 2) := by decide +kernel
theorem dX6_init_213 : decode cX6_init 213 = .ok (.bipush 114, 2) := by decide +kernel
theorem dX6_init_215 : decode cX6_init 215 = .ok (.iastore, 1) := by decide +kernel
theorem dX6_init_216 : decode cX6_init 216 = .ok (.dup, 1) := by decide +kernel
theorem dX6_init_217 : decode cX6_init 217 = .ok (.bipush 17, 2) := by decide +kernel
theorem dX6_init_219 : decode cX6_init 219 = .ok (.bipush 97, 2) := by decide +kernel
theorem dX6_init_221 : decode cX6_init 221 = .ok (.iastore, 1) := by decide +kernel
theorem dX6_init_222 : decode cX6_init 222 = .ok (.dup, 1) := by decide +kernel
theorem dX6_init_223 : decode cX6_init 223 = .ok (.bipush 18, 2) := by decide +kernel
theorem dX6_init_225 : decode cX6_init 225 = .ok (.bipush 110, 2) := by decide +kernel
theorem dX6_init_227 : decode cX6_init 227 = .ok (.iastore, 1) := by decide +kernel
theorem dX6_init_228 : decode cX6_init 228 = .ok (.dup, 1) := by decide +kernel
theorem dX6_init_229 : decode cX6_init 229 = .ok (.bipush 19, 2) := by decide +kernel
theorem dX6_init_231 : decode cX6_init 231 = .ok (.bipush 97, 2) := by decide +kernel
theorem dX6_init_233 : decode cX6_init 233 = .ok (.iastore, 1) := by decide +kernel
theorem dX6_init_234 : decode cX6_init 234 = .ok (.dup, 1) := by decide +kernel
theorem dX6_init_235 : decode cX6_init 235 = .ok (.bipush 20, 2) := by decide +kernel
theorem dX6_init_237 : decode cX6_init 237 = .ok (.bipush 114, 2) := by decide +kernel
theorem dX6_init_239 : decode cX6_init 239 = .ok (.iastore, 1) := by decide +kernel
theorem dX6_init_240 : decode cX6_init 240 = .ok (.dup, 1) := by decide +kernel
theorem dX6_init_241 : decode cX6_init 241 = .ok (.bipush 21, 2) := by decide +kernel
theorem dX6_init_243 : decode cX6_init 243 = .ok (.bipush 121, 2) := by decide +kernel
theorem dX6_init_245 : decode cX6_init 245 = .ok (.iastore, 1) := by decide +kernel
theorem dX6_init_246 : decode cX6_init 246 = .ok (.dup, 1) := by decide +kernel
theorem dX6_init_247 : decode cX6_init 247 = .ok (.bipush 22, 2) := by decide +kernel
theorem dX6_init_249 : decode cX6_init 249 = .ok (.bipush 112, 2) := by decide +kernel
theorem dX6_init_251 : decode cX6_init 251 = .ok (.iastore, 1) := by decide +kernel
theorem dX6_init_252 : decode cX6_init 252 = .ok (.dup, 1) := by decide +kernel
theorem dX6_init_253 : decode cX6_init 253 = .ok (.bipush 23, 2) := by decide +kernel
theorem dX6_init_255 : decode cX6_init 255 = .ok (.bipush 114, 2) := by decide +kernel
theorem dX6_init_257 : decode cX6_init 257 = .ok (.iastore, 1) := by decide +kernel
theorem dX6_init_258 : decode cX6_init 258 = .ok (.dup, 1) := by decide +kernel
theorem dX6_init_259 : decode cX6_init 259 = .ok (.bipush 24, 2) := by decide +kernel
theorem dX6_init_261 : decode cX6_init 261 = .ok (.bipush 105, 2) := by decide +kernel
theorem dX6_init_263 : decode cX6_init 263 = .ok (.iastore, 1) := by decide +kernel
theorem dX6_init_264 : decode cX6_init 264 = .ok (.dup, 1) := by decide +kernel
theorem dX6_init_265 : decode cX6_init 265 = .ok (.bipush 25, 2) := by decide +kernel
theorem dX6_init_267 : decode cX6_init 267 = .ok (.bipush 99, 2) := by decide +kernel
theorem dX6_init_269 : decode cX6_init 269 = .ok (.iastore, 1) := by decide +kernel
theorem dX6_init_270 : decode cX6_init 270 = .ok (.dup, 1) := by decide +kernel
theorem dX6_init_271 : decode cX6_init 271 = .ok (.bipush 26, 2) := by decide +kernel
theorem dX6_init_273 : decode cX6_init 273 = .ok (.bipush 101, 2) := by decide +kernel
theorem dX6_init_275 : decode cX6_init 275 = .ok (.iastore, 1) := by decide +kernel
theorem dX6_init_276 : decode cX6_init 276 = .ok (.dup, 1) := by decide +kernel
theorem dX6_init_277 : decode cX6_init 277 = .ok (.bipush 27, 2) := by decide +kernel
theorem dX6_init_279 : decode cX6_init 279 = .ok (.bipush 115, 2) := by decide +kernel
theorem dX6_init_281 : decode cX6_init 281 = .ok (.iastore, 1) := by decide +kernel
theorem dX6_init_282 : decode cX6_init 282 = .ok (.dup, 1) := by decide +kernel
theorem dX6_init_283 : decode cX6_init 283 = .ok (.bipush 28, 2) := by decide +kernel
theorem dX6_init_285 : decode cX6_init 285 = .ok (.bipush 116, 2) := by decide +kernel
theorem dX6_init_287 : decode cX6_init 287 = .ok (.iastore, 1) := by decide +kernel
theorem dX6_init_288 : decode cX6_init 288 = .ok (.dup, 1) := by decide +kernel
theorem dX6_init_289 : decode cX6_init 289 = .ok (.bipush 29, 2) := by decide +kernel
theorem dX6_init_291 : decode cX6_init 291 = .ok (.bipush 101, 2) := by decide +kernel
theorem dX6_init_293 : decode cX6_init 293 = .ok (.iastore, 1) := by decide +kernel
theorem dX6_init_294 : decode cX6_init 294 = .ok (.dup, 1) := by decide +kernel
theorem dX6_init_295 : decode cX6_init 295 = .ok (.bipush 30, 2) := by decide +kernel
theorem dX6_init_297 : decode cX6_init 297 = .ok (.bipush 119, 2) := by decide +kernel
theorem dX6_init_299 : decode cX6_init 299 = .ok (.iastore, 1) := by decide +kernel
theorem dX6_init_300 : decode cX6_init 300 = .ok (.dup, 1) := by decide +kernel
theorem dX6_init_301 : decode cX6_init 301 = .ok (.bipush 31, 2) := by decide +kernel
theorem dX6_init_303 : decode cX6_init 303 = .ok (.bipush 97, 2) := by decide +kernel
theorem dX6_init_305 : decode cX6_init 305 = .ok (.iastore, 1) := by decide +kernel
theorem dX6_init_306 : decode cX6_init 306 = .ok (.dup, 1) := by decide +kernel
theorem dX6_init_307 : decode cX6_init 307 = .ok (.bipush 32, 2) := by decide +kernel
theorem dX6_init_309 : decode cX6_init 309 = .ok (.bipush 114, 2) := by decide +kernel
theorem dX6_init_311 : decode cX6_init 311 = .ok (.iastore, 1) := by decide +kernel
theorem dX6_init_312 : decode cX6_init 312 = .ok (.dup, 1) := by decide +kernel
theorem dX6_init_313 : decode cX6_init 313 = .ok (.bipush 33, 2) := by decide +kernel
theorem dX6_init_315 : decode cX6_init 315 = .ok (.bipush 100, 2) := by decide +kernel
theorem dX6_init_317 : decode cX6_init 317 = .ok (.iastore, 1) := by decide +kernel
theorem dX6_init_318 : decode cX6_init 318 = .ok (.dup, 1) := by decide +kernel
theorem dX6_init_319 : decode cX6_init 319 = .ok (.bipush 34, 2) := by decide +kernel
theorem dX6_init_321 : decode cX6_init 321 = .ok (.bipush 97, 2) := by decide +kernel
theorem dX6_init_323 : decode cX6_init 323 = .ok (.iastore, 1) := by decide +kernel
theorem dX6_init_324 : decode cX6_init 324 = .ok (.dup, 1) := by decide +kernel
theorem dX6_init_325 : decode cX6_init 325 = .ok (.bipush 35, 2) := by decide +kernel
theorem dX6_init_327 : decode cX6_init 327 = .ok (.bipush 108, 2) := by decide +kernel
theorem dX6_init_329 : decode cX6_init 329 = .ok (.iastore, 1) := by decide +kernel
theorem dX6_init_330 : decode cX6_init 330 = .ok (.dup, 1) := by decide +kernel
theorem dX6_init_331 : decode cX6_init 331 = .ok (.bipush 36, 2) := by decide +kernel
theorem dX6_init_333 : decode cX6_init 333 = .ok (.bipush 108, 2) := by decide +kernel
theorem dX6_init_335 : decode cX6_init 335 = .ok (.iastore, 1) := by decide +kernel
theorem dX6_init_336 : decode cX6_init 336 = .ok (.dup, 1) := by decide +kernel
theorem dX6_init_337 : decode cX6_init 337 = .ok (.bipush 37, 2) := by decide +kernel
theorem dX6_init_339 : decode cX6_init 339 = .ok (.bipush 112, 2) := by decide +kernel
theorem dX6_init_341 : decode cX6_init 341 = .ok (.iastore, 1) := by decide +kernel
theorem dX6_init_342 : decode cX6_init 342 = .ok (.dup, 1) := by decide +kernel
theorem dX6_init_343 : decode cX6_init 343 = .ok (.bipush 38, 2) := by decide +kernel
theorem dX6_init_345 : decode cX6_init 345 = .ok (.bipush 97, 2) := by decide +kernel
theorem dX6_init_347 : decode cX6_init 347 = .ok (.iastore, 1) := by decide +kernel
theorem dX6_init_348 : decode cX6_init 348 = .ok (.dup, 1) := by decide +kernel
theorem dX6_init_349 : decode cX6_init 349 = .ok (.bipush 39, 2) := by decide +kernel
theorem dX6_init_351 : decode cX6_init 351 = .ok (.bipush 114, 2) := by decide +kernel
theorem dX6_init_353 : decode cX6_init 353 = .ok (.iastore, 1) := by decide +kernel
theorem dX6_init_354 : decode cX6_init 354 = .ok (.dup, 1) := by decide +kernel
theorem dX6_init_355 : decode cX6_init 355 = .ok (.bipush 40, 2) := by decide +kernel
theorem dX6_init_357 : decode cX6_init 357 = .ok (.bipush 116, 2) := by decide +kernel
theorem dX6_init_359 : decode cX6_init 359 = .ok (.iastore, 1) := by decide +kernel
theorem dX6_init_360 : decode cX6_init 360 = .ok (.dup, 1) := by decide +kernel
theorem dX6_init_361 : decode cX6_init 361 = .ok (.bipush 41, 2) := by decide +kernel
theorem dX6_init_363 : decode cX6_init 363 = .ok (.bipush 108, 2) := by decide +kernel
theorem dX6_init_365 : decode cX6_init 365 = .ok (.iastore, 1) := by decide +kernel
theorem dX6_init_366 : decode cX6_init 366 = .ok (.dup, 1) := by decide +kernel
theorem dX6_init_367 : decode cX6_init 367 = .ok (.bipush 42, 2) := by decide +kernel
theorem dX6_init_369 : decode cX6_init 369 = .ok (.bipush 101, 2) := by decide +kernel
theorem dX6_init_371 : decode cX6_init 371 = .ok (.iastore, 1) := by decide +kernel
theorem dX6_init_372 : decode cX6_init 372 = .ok (.dup, 1) := by decide +kernel
theorem dX6_init_373 : decode cX6_init 373 = .ok (.bipush 43, 2) := by decide +kernel
theorem dX6_init_375 : decode cX6_init 375 = .ok (.bipush 118, 2) := by decide +kernel
theorem dX6_init_377 : decode cX6_init 377 = .ok (.iastore, 1) := by decide +kernel
theorem dX6_init_378 : decode cX6_init 378 = .ok (.dup, 1) := by decide +kernel
theorem dX6_init_379 : decode cX6_init 379 = .ok (.bipush 44, 2) := by decide +kernel
theorem dX6_init_381 : decode cX6_init 381 = .ok (.bipush 101, 2) := by decide +kernel
theorem dX6_init_383 : decode cX6_init 383 = .ok (.iastore, 1) := by decide +kernel
theorem dX6_init_384 : decode cX6_init 384 = .ok (.dup, 1) := by decide +kernel
theorem dX6_init_385 : decode cX6_init 385 = .ok (.bipush 45, 2) := by decide +kernel
theorem dX6_init_387 : decode cX6_init 387 = .ok (.bipush 108, 2) := by decide +kernel
theorem dX6_init_389 : decode cX6_init 389 = .ok (.iastore, 1) := by decide +kernel
theorem dX6_init_390 : decode cX6_init 390 = .ok (.dup, 1) := by decide +kernel
theorem dX6_init_391 : decode cX6_init 391 = .ok (.bipush 46, 2) := by decide +kernel
theorem dX6_init_393 : decode cX6_init 393 = .ok (.bipush 110, 2) := by decide +kernel
theorem dX6_init_395 : decode cX6_init 395 = .ok (.iastore, 1) := by decide +kernel
theorem dX6_init_396 : decode cX6_init 396 = .ok (.dup, 1) := by decide +kernel
theorem dX6_init_397 : decode cX6_init 397 = .ok (.bipush 47, 2) := by decide +kernel
theorem dX6_init_399 : decode cX6_init 399 = .ok (.bipush 111, 2) := by decide +kernel
theorem dX6_init_401 : decode cX6_init 401 = .ok (.iastore, 1) := by decide +kernel
theorem dX6_init_402 : decode cX6_init 402 = .ok (.dup, 1) := by decide +kernel
theorem dX6_init_403 : decode cX6_init 403 = .ok (.bipush 48, 2) := by decide +kernel
theorem dX6_init_405 : decode cX6_init 405 = .ok (.bipush 110, 2) := by decide +kernel
theorem dX6_init_407 : decode cX6_init 407 = .ok (.iastore, 1) := by decide +kernel
theorem dX6_init_408 : decode cX6_init 408 = .ok (.dup, 1) := by decide +kernel
theorem dX6_init_409 : decode cX6_init 409 = .ok (.bipush 49, 2) := by decide +kernel
theorem dX6_init_411 : decode cX6_init 411 = .ok (.bipush 101, 2) := by decide +kernel
theorem dX6_init_413 : decode cX6_init 413 = .ok (.iastore, 1) := by decide +kernel
theorem dX6_init_414 : decode cX6_init 414 = .ok (.dup, 1) := by decide +kernel
theorem dX6_init_415 : decode cX6_init 415 = .ok (.bipush 50, 2) := by decide +kernel
theorem dX6_init_417 : decode cX6_init 417 = .ok (.bipush 110, 2) := by decide +kernel
theorem dX6_init_419 : decode cX6_init 419 = .ok (.iastore, 1) := by decide +kernel
theorem dX6_init_420 : decode cX6_init 420 = .ok (.dup, 1) := by decide +kernel
theorem dX6_init_421 : decode cX6_init 421 = .ok (.bipush 51, 2) := by decide +kernel
theorem dX6_init_423 : decode cX6_init 423 = .ok (.bipush 101, 2) := by decide +kernel
theorem dX6_init_425 : decode cX6_init 425 = .ok (.iastore, 1) := by decide +kernel
theorem dX6_init_426 : decode cX6_init 426 = .ok (.dup, 1) := by decide +kernel
theorem dX6_init_427 : decode cX6_init 427 = .ok (.bipush 52, 2) := by decide +kernel
theorem dX6_init_429 : decode cX6_init 429 = .ok (.bipush 101, 2) := by decide +kernel
theorem dX6_init_431 : decode cX6_init 431 = .ok (.iastore, 1) := by decide +kernel
theorem dX6_init_432 : decode cX6_init 432 = .ok (.dup, 1) := by decide +kernel
theorem dX6_init_433 : decode cX6_init 433 = .ok (.bipush 53, 2) := by decide +kernel
theorem dX6_init_435 : decode cX6_init 435 = .ok (.bipush 100, 2) := by decide +kernel
theorem dX6_init_437 : decode cX6_init 437 = .ok (.iastore, 1) := by decide +kernel
theorem dX6_init_438 : decode cX6_init 438 = .ok (.putfield 28, 3) := by decide +kernel
theorem dX6_init_441 : decode cX6_init 441 = .ok (.aload_n 0, 1) := by decide +kernel
theorem dX6_init_442 : decode cX6_init 442 = .ok (.sipush 3936, 3) := by decide +kernel
theorem dX6_init_445 : decode cX6_init 445 = .ok (.newarray .long, 2) := by decide +kernel
theorem dX6_init_447 : decode cX6_init 447 = .ok (.putfield 31, 3) := by decide +kernel
theorem dX6_init_450 : decode cX6_init 450 = .ok (.aload_n 0, 1) := by decide +kernel
theorem dX6_init_451 : decode cX6_init 451 = .ok (.bipush 12, 2) := by decide +kernel
theorem dX6_init_453 : decode cX6_init 453 = .ok (.newarray .int, 2) := by decide +kernel
theorem dX6_init_455 : decode cX6_init 455 = .ok (.putfield 35, 3) := by decide +kernel
theorem dX6_init_458 : decode cX6_init 458 = .ok (.aload_n 0, 1) := by decide +kernel
theorem dX6_init_459 : decode cX6_init 459 = .ok (.iconst 2, 1) := by decide +kernel
theorem dX6_init_460 : decode cX6_init 460 = .ok (.newarray .boolean, 2) := by decide +kernel
theorem dX6_init_462 : decode cX6_init 462 = .ok (.putfield 38, 3) := by decide +kernel
theorem dX6_init_465 : decode cX6_init 465 = .ok (.aload_n 0, 1) := by decide +kernel
theorem dX6_init_466 : decode cX6_init 466 = .ok (.iconst 4, 1) := by decide +kernel
theorem dX6_init_467 : decode cX6_init 467 = .ok (.newarray .int, 2) := by decide +kernel
theorem dX6_init_469 : decode cX6_init 469 = .ok (.dup, 1) := by decide +kernel
theorem dX6_init_470 : decode cX6_init 470 = .ok (.iconst 0, 1) := by decide +kernel
theorem dX6_init_471 : decode cX6_init 471 = .ok (.bipush (-4), 2) := by decide +kernel
theorem dX6_init_473 : decode cX6_init 473 = .ok (.iastore, 1) := by decide +kernel
theorem dX6_init_474 : decode cX6_init 474 = .ok (.dup, 1) := by decide +kernel
theorem dX6_init_475 : decode cX6_init 475 = .ok (.iconst 1, 1) := by decide +kernel
theorem dX6_init_476 : decode cX6_init 476 = .ok (.bipush (-4), 2) := by decide +kernel
theorem dX6_init_478 : decode cX6_init 478 = .ok (.iastore, 1) := by decide +kernel
theorem dX6_init_479 : decode cX6_init 479 = .ok (.dup, 1) := by decide +kernel
theorem dX6_init_480 : decode cX6_init 480 = .ok (.iconst 2, 1) := by decide +kernel
theorem dX6_init_481 : decode cX6_init 481 = .ok (.bipush (-4), 2) := by decide +kernel
theorem dX6_init_483 : decode cX6_init 483 = .ok (.iastore, 1) := by decide +kernel
theorem dX6_init_484 : decode cX6_init 484 = .ok (.dup, 1) := by decide +kernel
theorem dX6_init_485 : decode cX6_init 485 = .ok (.iconst 3, 1) := by decide +kernel
theorem dX6_init_486 : decode cX6_init 486 = .ok (.bipush (-4), 2) := by decide +kernel
theorem dX6_init_488 : decode cX6_init 488 = .ok (.iastore, 1) := by decide +kernel
theorem dX6_init_489 : decode cX6_init 489 = .ok (.putfield 42, 3) := by decide +kernel
theorem dX6_init_492 : decode cX6_init 492 = .ok (.aload_n 0, 1) := by decide +kernel
theorem dX6_init_493 : decode cX6_init 493 = .ok (.iconst 4, 1) := by decide +kernel
theorem dX6_init_494 : decode cX6_init 494 = .ok (.newarray .int, 2) := by decide +kernel
theorem dX6_init_496 : decode cX6_init 496 = .ok (.putfield 45, 3) := by decide +kernel
theorem dX6_init_499 : decode cX6_init 499 = .ok (.aload_n 0, 1) := by decide +kernel
theorem dX6_init_500 : decode cX6_init 500 = .ok (.sipush 160, 3) := by decide +kernel
theorem dX6_init_503 : decode cX6_init 503 = .ok (.newarray .int, 2) := by decide +kernel
theorem dX6_init_505 : decode cX6_init 505 = .ok (.putfield 48, 3) := by decide +kernel
theorem dX6_init_508 : decode cX6_init 508 = .ok (.return_, 1) := by decide +kernel
theorem dX6_in_0 : decode cX6_in 0 = .ok (.lload_n 0, 1) := by decide +kernel
theorem dX6_in_1 : decode cX6_in 1 = .ok (.lload_n 2, 1) := by decide +kernel
theorem dX6_in_2 : decode cX6_in 2 = .ok (.lcmp, 1) := by decide +kernel
theorem dX6_in_3 : decode cX6_in 3 = .ok (.ifCond .lt 14, 3) := by decide +kernel
theorem dX6_in_6 : decode cX6_in 6 = .ok (.lload_n 0, 1) := by decide +kernel
theorem dX6_in_7 : decode cX6_in 7 = .ok (.lload 4, 2) := by decide +kernel
theorem dX6_in_9 : decode cX6_in 9 = .ok (.lcmp, 1) := by decide +kernel
theorem dX6_in_10 : decode cX6_in 10 = .ok (.ifCond .gt 7, 3) := by decide +kernel
theorem dX6_in_13 : decode cX6_in 13 = .ok (.iconst 1, 1) := by decide +kernel
theorem dX6_in_14 : decode cX6_in 14 = .ok (.goto 4, 3) := by decide +kernel
theorem dX6_in_17 : decode cX6_in 17 = .ok (.iconst 0, 1) := by decide +kernel
theorem dX6_in_18 : decode cX6_in 18 = .ok (.ireturn, 1) := by decide +kernel
theorem dX6_feed_0 : decode cX6_feed 0 = .ok (.iload_n 1, 1) := by decide +kernel
theorem dX6_feed_1 : decode cX6_feed 1 = .ok (.i2l, 1) := by decide +kernel
theorem dX6_feed_2 : decode cX6_feed 2 = .ok (.lconst 0, 1) := by decide +kernel
theorem dX6_feed_3 : decode cX6_feed 3 = .ok (.ldc2_w 51, 3) := by decide +kernel
theorem dX6_feed_6 : decode cX6_feed 6 = .ok (.invokestatic 53, 3) := by decide +kernel
theorem dX6_feed_9 : decode cX6_feed 9 = .ok (.ifCond .ne 5, 3) := by decide +kernel
theorem dX6_feed_12 : decode cX6_feed 12 = .ok (.iconst (-1), 1) := by decide +kernel
theorem dX6_feed_13 : decode cX6_feed 13 = .ok (.ireturn, 1) := by decide +kernel
theorem dX6_feed_14 : decode cX6_feed 14 = .ok (.aload_n 0, 1) := by decide +kernel
theorem dX6_feed_15 : decode cX6_feed 15 = .ok (.getfield 57, 3) := by decide +kernel
theorem dX6_feed_18 : decode cX6_feed 18 = .ok (.sipush 160, 3) := by decide +kernel
theorem dX6_feed_21 : decode cX6_feed 21 = .ok (.if_icmp .ne 6, 3) := by decide +kernel
theorem dX6_feed_24 : decode cX6_feed 24 = .ok (.bipush (-3), 2) := by decide +kernel
theorem dX6_feed_26 : decode cX6_feed 26 = .ok (.ireturn, 1) := by decide +kernel
theorem dX6_feed_27 : decode cX6_feed 27 = .ok (.aload_n 0, 1) := by decide +kernel
theorem dX6_feed_28 : decode cX6_feed 28 = .ok (.getfield 22, 3) := by decide +kernel
theorem dX6_feed_31 : decode cX6_feed 31 = .ok (.aload_n 0, 1) := by decide +kernel
theorem dX6_feed_32 : decode cX6_feed 32 = .ok (.getfield 57, 3) := by decide +kernel
theorem dX6_feed_35 : decode cX6_feed 35 = .ok (.iload_n 1, 1) := by decide +kernel
theorem dX6_feed_36 : decode cX6_feed 36 = .ok (.iastore, 1) := by decide +kernel
theorem dX6_feed_37 : decode cX6_feed 37 = .ok (.aload_n 0, 1) := by decide +kernel
theorem dX6_feed_38 : decode cX6_feed 38 = .ok (.dup, 1) := by decide +kernel
theorem dX6_feed_39 : decode cX6_feed 39 = .ok (.getfield 57, 3) := by decide +kernel
theorem dX6_feed_42 : decode cX6_feed 42 = .ok (.iconst 1, 1) := by decide +kernel
theorem dX6_feed_43 : decode cX6_feed 43 = .ok (.iadd, 1) := by decide +kernel
theorem dX6_feed_44 : decode cX6_feed 44 = .ok (.putfield 57, 3) := by decide +kernel
theorem dX6_feed_47 : decode cX6_feed 47 = .ok (.aload_n 0, 1) := by decide +kernel
theorem dX6_feed_48 : decode cX6_feed 48 = .ok (.getfield 57, 3) := by decide +kernel
theorem dX6_feed_51 : decode cX6_feed 51 = .ok (.ireturn, 1) := by decide +kernel
theorem dX6_end_0 : decode cX6_end 0 = .ok (.iload_n 1, 1) := by decide +kernel
theorem dX6_end_1 : decode cX6_end 1 = .ok (.i2l, 1) := by decide +kernel
theorem dX6_end_2 : decode cX6_end 2 = .ok (.lconst 0, 1) := by decide +kernel
theorem dX6_end_3 : decode cX6_end 3 = .ok (.aload_n 0, 1) := by decide +kernel
theorem dX6_end_4 : decode cX6_end 4 = .ok (.getfield 57, 3) := by decide +kernel
theorem dX6_end_7 : decode cX6_end 7 = .ok (.i2l, 1) := by decide +kernel
theorem dX6_end_8 : decode cX6_end 8 = .ok (.invokestatic 53, 3) := by decide +kernel
theorem dX6_end_11 : decode cX6_end 11 = .ok (.ifCond .ne 5, 3) := by decide +kernel
theorem dX6_end_14 : decode cX6_end 14 = .ok (.iconst (-1), 1) := by decide +kernel
theorem dX6_end_15 : decode cX6_end 15 = .ok (.ireturn, 1) := by decide +kernel
theorem dX6_end_16 : decode cX6_end 16 = .ok (.aload_n 0, 1) := by decide +kernel
theorem dX6_end_17 : decode cX6_end 17 = .ok (.getfield 57, 3) := by decide +kernel
theorem dX6_end_20 : decode cX6_end 20 = .ok (.istore_n 2, 1) := by decide +kernel
theorem dX6_end_21 : decode cX6_end 21 = .ok (.aload_n 0, 1) := by decide +kernel
theorem dX6_end_22 : decode cX6_end 22 = .ok (.iload_n 1, 1) := by decide +kernel
theorem dX6_end_23 : decode cX6_end 23 = .ok (.putfield 57, 3) := by decide +kernel
theorem dX6_end_26 : decode cX6_end 26 = .ok (.iload_n 2, 1) := by decide +kernel
theorem dX6_end_27 : decode cX6_end 27 = .ok (.ireturn, 1) := by decide +kernel
theorem dX6_byteAt_0 : decode cX6_byteAt 0 = .ok (.iload_n 1, 1) := by decide +kernel
theorem dX6_byteAt_1 : decode cX6_byteAt 1 = .ok (.aload_n 0, 1) := by decide +kernel
theorem dX6_byteAt_2 : decode cX6_byteAt 2 = .ok (.getfield 57, 3) := by decide +kernel
theorem dX6_byteAt_5 : decode cX6_byteAt 5 = .ok (.if_icmp .ge 12, 3) := by decide +kernel
theorem dX6_byteAt_8 : decode cX6_byteAt 8 = .ok (.aload_n 0, 1) := by decide +kernel
theorem dX6_byteAt_9 : decode cX6_byteAt 9 = .ok (.getfield 22, 3) := by decide +kernel
theorem dX6_byteAt_12 : decode cX6_byteAt 12 = .ok (.iload_n 1, 1) := by decide +kernel
theorem dX6_byteAt_13 : decode cX6_byteAt 13 = .ok (.iaload, 1) := by decide +kernel
theorem dX6_byteAt_14 : decode cX6_byteAt 14 = .ok (.goto 5, 3) := by decide +kernel
theorem dX6_byteAt_17 : decode cX6_byteAt 17 = .ok (.bipush (-4), 2) := by decide +kernel
theorem dX6_byteAt_19 : decode cX6_byteAt 19 = .ok (.ireturn, 1) := by decide +kernel
theorem dX6_fails_0 : decode cX6_fails 0 = .ok (.aload_n 0, 1) := by decide +kernel
theorem dX6_fails_1 : decode cX6_fails 1 = .ok (.getfield 61, 3) := by decide +kernel
theorem dX6_fails_4 : decode cX6_fails 4 = .ok (.ifCond .ne 16, 3) := by decide +kernel
theorem dX6_fails_7 : decode cX6_fails 7 = .ok (.aload_n 0, 1) := by decide +kernel
theorem dX6_fails_8 : decode cX6_fails 8 = .ok (.iload_n 1, 1) := by decide +kernel
theorem dX6_fails_9 : decode cX6_fails 9 = .ok (.putfield 61, 3) := by decide +kernel
theorem dX6_fails_12 : decode cX6_fails 12 = .ok (.aload_n 0, 1) := by decide +kernel
theorem dX6_fails_13 : decode cX6_fails 13 = .ok (.aload_n 0, 1) := by decide +kernel
theorem dX6_fails_14 : decode cX6_fails 14 = .ok (.getfield 64, 3) := by decide +kernel
theorem dX6_fails_17 : decode cX6_fails 17 = .ok (.putfield 67, 3) := by decide +kernel
theorem dX6_fails_20 : decode cX6_fails 20 = .ok (.return_, 1) := by decide +kernel
theorem dX6_wordHere_0 : decode cX6_wordHere 0 = .ok (.iconst 0, 1) := by decide +kernel
theorem dX6_wordHere_1 : decode cX6_wordHere 1 = .ok (.istore_n 1, 1) := by decide +kernel
theorem dX6_wordHere_2 : decode cX6_wordHere 2 = .ok (.iload_n 1, 1) := by decide +kernel
theorem dX6_wordHere_3 : decode cX6_wordHere 3 = .ok (.bipush 11, 2) := by decide +kernel
theorem dX6_wordHere_5 : decode cX6_wordHere 5 = .ok (.if_icmp .ge 113, 3) := by decide +kernel
theorem dX6_wordHere_8 : decode cX6_wordHere 8 = .ok (.aload_n 0, 1) := by decide +kernel
theorem dX6_wordHere_9 : decode cX6_wordHere 9 = .ok (.getfield 70, 3) := by decide +kernel
theorem dX6_wordHere_12 : decode cX6_wordHere 12 = .ok (.iconst 1, 1) := by decide +kernel
theorem dX6_wordHere_13 : decode cX6_wordHere 13 = .ok (.if_icmp .ne 105, 3) := by decide +kernel
theorem dX6_wordHere_16 : decode cX6_wordHere 16 = .ok (.aload_n 0, 1) := by decide +kernel
theorem dX6_wordHere_17 : decode cX6_wordHere 17 = .ok (.getfield 73, 3) := by decide +kernel
theorem dX6_wordHere_20 : decode cX6_wordHere 20 = .ok (.aload_n 0, 1) := by decide +kernel
theorem dX6_wordHere_21 : decode cX6_wordHere 21 = .ok (.getfield 64, 3) := by decide +kernel
theorem dX6_wordHere_24 : decode cX6_wordHere 24 = .ok (.isub, 1) := by decide +kernel
theorem dX6_wordHere_25 : decode cX6_wordHere 25 = .ok (.aload_n 0, 1) := by decide +kernel
theorem dX6_wordHere_26 : decode cX6_wordHere 26 = .ok (.getfield 25, 3) := by decide +kernel
theorem dX6_wordHere_29 : decode cX6_wordHere 29 = .ok (.iload_n 1, 1) := by decide +kernel
theorem dX6_wordHere_30 : decode cX6_wordHere 30 = .ok (.iconst 1, 1) := by decide +kernel
theorem dX6_wordHere_31 : decode cX6_wordHere 31 = .ok (.iadd, 1) := by decide +kernel
theorem dX6_wordHere_32 : decode cX6_wordHere 32 = .ok (.iaload, 1) := by decide +kernel
theorem dX6_wordHere_33 : decode cX6_wordHere 33 = .ok (.aload_n 0, 1) := by decide +kernel
theorem dX6_wordHere_34 : decode cX6_wordHere 34 = .ok (.getfield 25, 3) := by decide +kernel
theorem dX6_wordHere_37 : decode cX6_wordHere 37 = .ok (.iload_n 1, 1) := by decide +kernel
theorem dX6_wordHere_38 : decode cX6_wordHere 38 = .ok (.iaload, 1) := by decide +kernel
theorem dX6_wordHere_39 : decode cX6_wordHere 39 = .ok (.isub, 1) := by decide +kernel
theorem dX6_wordHere_40 : decode cX6_wordHere 40 = .ok (.if_icmp .ne 7, 3) := by decide +kernel
theorem dX6_wordHere_43 : decode cX6_wordHere 43 = .ok (.iconst 1, 1) := by decide +kernel
theorem dX6_wordHere_44 : decode cX6_wordHere 44 = .ok (.goto 4, 3) := by decide +kernel
theorem dX6_wordHere_47 : decode cX6_wordHere 47 = .ok (.iconst 0, 1) := by decide +kernel
theorem dX6_wordHere_48 : decode cX6_wordHere 48 = .ok (.istore_n 2, 1) := by decide +kernel
theorem dX6_wordHere_49 : decode cX6_wordHere 49 = .ok (.iconst 0, 1) := by decide +kernel
theorem dX6_wordHere_50 : decode cX6_wordHere 50 = .ok (.istore_n 3, 1) := by decide +kernel
theorem dX6_wordHere_51 : decode cX6_wordHere 51 = .ok (.iload_n 2, 1) := by decide +kernel
theorem dX6_wordHere_52 : decode cX6_wordHere 52 = .ok (.ifCond .eq 54, 3) := by decide +kernel
theorem dX6_wordHere_55 : decode cX6_wordHere 55 = .ok (.iload_n 3, 1) := by decide +kernel
theorem dX6_wordHere_56 : decode cX6_wordHere 56 = .ok (.aload_n 0, 1) := by decide +kernel
theorem dX6_wordHere_57 : decode cX6_wordHere 57 = .ok (.getfield 73, 3) := by decide +kernel
theorem dX6_wordHere_60 : decode cX6_wordHere 60 = .ok (.aload_n 0, 1) := by decide +kernel
theorem dX6_wordHere_61 : decode cX6_wordHere 61 = .ok (.getfield 64, 3) := by decide +kernel
theorem dX6_wordHere_64 : decode cX6_wordHere 64 = .ok (.isub, 1) := by decide +kernel
theorem dX6_wordHere_65 : decode cX6_wordHere 65 = .ok (.if_icmp .ge 41, 3) := by decide +kernel
theorem dX6_wordHere_68 : decode cX6_wordHere 68 = .ok (.aload_n 0, 1) := by decide +kernel
theorem dX6_wordHere_69 : decode cX6_wordHere 69 = .ok (.aload_n 0, 1) := by decide +kernel
theorem dX6_wordHere_70 : decode cX6_wordHere 70 = .ok (.getfield 64, 3) := by decide +kernel
theorem dX6_wordHere_73 : decode cX6_wordHere 73 = .ok (.iload_n 3, 1) := by decide +kernel
theorem dX6_wordHere_74 : decode cX6_wordHere 74 = .ok (.iadd, 1) := by decide +kernel
theorem dX6_wordHere_75 : decode cX6_wordHere 75 = .ok (.invokevirtual 76, 3) := by decide +kernel
theorem dX6_wordHere_78 : decode cX6_wordHere 78 = .ok (.aload_n 0, 1) := by decide +kernel
theorem dX6_wordHere_79 : decode cX6_wordHere 79 = .ok (.getfield 28, 3) := by decide +kernel
theorem dX6_wordHere_82 : decode cX6_wordHere 82 = .ok (.aload_n 0, 1) := by decide +kernel
theorem dX6_wordHere_83 : decode cX6_wordHere 83 = .ok (.getfield 25, 3) := by decide +kernel
theorem dX6_wordHere_86 : decode cX6_wordHere 86 = .ok (.iload_n 1, 1) := by decide +kernel
theorem dX6_wordHere_87 : decode cX6_wordHere 87 = .ok (.iaload, 1) := by decide +kernel
theorem dX6_wordHere_88 : decode cX6_wordHere 88 = .ok (.iload_n 3, 1) := by decide +kernel
theorem dX6_wordHere_89 : decode cX6_wordHere 89 = .ok (.iadd, 1) := by decide +kernel
theorem dX6_wordHere_90 : decode cX6_wordHere 90 = .ok (.iaload, 1) := by decide +kernel
theorem dX6_wordHere_91 : decode cX6_wordHere 91 = .ok (.if_icmp .ne 7, 3) := by decide +kernel
theorem dX6_wordHere_94 : decode cX6_wordHere 94 = .ok (.iconst 1, 1) := by decide +kernel
theorem dX6_wordHere_95 : decode cX6_wordHere 95 = .ok (.goto 4, 3) := by decide +kernel
theorem dX6_wordHere_98 : decode cX6_wordHere 98 = .ok (.iconst 0, 1) := by decide +kernel
theorem dX6_wordHere_99 : decode cX6_wordHere 99 = .ok (.istore_n 2, 1) := by decide +kernel
theorem dX6_wordHere_100 : decode cX6_wordHere 100 = .ok (.iinc 3 1, 3) := by decide +kernel
theorem dX6_wordHere_103 : decode cX6_wordHere 103 = .ok (.goto (-52), 3) := by decide +kernel
theorem dX6_wordHere_106 : decode cX6_wordHere 106 = .ok (.iload_n 2, 1) := by decide +kernel
theorem dX6_wordHere_107 : decode cX6_wordHere 107 = .ok (.ifCond .eq 5, 3) := by decide +kernel
theorem dX6_wordHere_110 : decode cX6_wordHere 110 = .ok (.iload_n 1, 1) := by decide +kernel
theorem dX6_wordHere_111 : decode cX6_wordHere 111 = .ok (.ireturn, 1) := by decide +kernel
theorem dX6_wordHere_112 : decode cX6_wordHere 112 = .ok (.iinc 1 1, 3) := by decide +kernel
theorem dX6_wordHere_115 : decode cX6_wordHere 115 = .ok (.goto (-113), 3) := by decide +kernel
theorem dX6_wordHere_118 : decode cX6_wordHere 118 = .ok (.bipush (-4), 2) := by decide +kernel
theorem dX6_wordHere_120 : decode cX6_wordHere 120 = .ok (.ireturn, 1) := by decide +kernel
theorem dX6_step_0 : decode cX6_step 0 = .ok (.aload_n 0, 1) := by decide +kernel
theorem dX6_step_1 : decode cX6_step 1 = .ok (.getfield 61, 3) := by decide +kernel
theorem dX6_step_4 : decode cX6_step 4 = .ok (.ifCond .le 4, 3) := by decide +kernel
theorem dX6_step_7 : decode cX6_step 7 = .ok (.return_, 1) := by decide +kernel
theorem dX6_step_8 : decode cX6_step 8 = .ok (.aload_n 0, 1) := by decide +kernel
theorem dX6_step_9 : decode cX6_step 9 = .ok (.aload_n 0, 1) := by decide +kernel
theorem dX6_step_10 : decode cX6_step 10 = .ok (.getfield 73, 3) := by decide +kernel
theorem dX6_step_13 : decode cX6_step 13 = .ok (.invokevirtual 76, 3) := by decide +kernel
theorem dX6_step_16 : decode cX6_step 16 = .ok (.bipush 32, 2) := by decide +kernel
theorem dX6_step_18 : decode cX6_step 18 = .ok (.if_icmp .ne 16, 3) := by decide +kernel
theorem dX6_step_21 : decode cX6_step 21 = .ok (.aload_n 0, 1) := by decide +kernel
theorem dX6_step_22 : decode cX6_step 22 = .ok (.dup, 1) := by decide +kernel
theorem dX6_step_23 : decode cX6_step 23 = .ok (.getfield 73, 3) := by decide +kernel
theorem dX6_step_26 : decode cX6_step 26 = .ok (.iconst 1, 1) := by decide +kernel
theorem dX6_step_27 : decode cX6_step 27 = .ok (.iadd, 1) := by decide +kernel
theorem dX6_step_28 : decode cX6_step 28 = .ok (.putfield 73, 3) := by decide +kernel
theorem dX6_step_31 : decode cX6_step 31 = .ok (.goto (-23), 3) := by decide +kernel
theorem dX6_step_34 : decode cX6_step 34 = .ok (.aload_n 0, 1) := by decide +kernel
theorem dX6_step_35 : decode cX6_step 35 = .ok (.aload_n 0, 1) := by decide +kernel
theorem dX6_step_36 : decode cX6_step 36 = .ok (.getfield 73, 3) := by decide +kernel
theorem dX6_step_39 : decode cX6_step 39 = .ok (.putfield 64, 3) := by decide +kernel
theorem dX6_step_42 : decode cX6_step 42 = .ok (.aload_n 0, 1) := by decide +kernel
theorem dX6_step_43 : decode cX6_step 43 = .ok (.aload_n 0, 1) := by decide +kernel
theorem dX6_step_44 : decode cX6_step 44 = .ok (.getfield 73, 3) := by decide +kernel
theorem dX6_step_47 : decode cX6_step 47 = .ok (.invokevirtual 76, 3) := by decide +kernel
theorem dX6_step_50 : decode cX6_step 50 = .ok (.istore_n 1, 1) := by decide +kernel
theorem dX6_step_51 : decode cX6_step 51 = .ok (.aload_n 0, 1) := by decide +kernel
theorem dX6_step_52 : decode cX6_step 52 = .ok (.iconst 0, 1) := by decide +kernel
theorem dX6_step_53 : decode cX6_step 53 = .ok (.putfield 80, 3) := by decide +kernel
theorem dX6_step_56 : decode cX6_step 56 = .ok (.iload_n 1, 1) := by decide +kernel
theorem dX6_step_57 : decode cX6_step 57 = .ok (.bipush (-4), 2) := by decide +kernel
theorem dX6_step_59 : decode cX6_step 59 = .ok (.if_icmp .ne 11, 3) := by decide +kernel
theorem dX6_step_62 : decode cX6_step 62 = .ok (.aload_n 0, 1) := by decide +kernel
theorem dX6_step_63 : decode cX6_step 63 = .ok (.iconst 0, 1) := by decide +kernel
theorem dX6_step_64 : decode cX6_step 64 = .ok (.putfield 70, 3) := by decide +kernel
theorem dX6_step_67 : decode cX6_step 67 = .ok (.goto 202, 3) := by decide +kernel
theorem dX6_step_70 : decode cX6_step 70 = .ok (.iload_n 1, 1) := by decide +kernel
theorem dX6_step_71 : decode cX6_step 71 = .ok (.i2l, 1) := by decide +kernel
theorem dX6_step_72 : decode cX6_step 72 = .ok (.ldc2_w 83, 3) := by decide +kernel
theorem dX6_step_75 : decode cX6_step 75 = .ok (.ldc2_w 85, 3) := by decide +kernel
theorem dX6_step_78 : decode cX6_step 78 = .ok (.invokestatic 53, 3) := by decide +kernel
theorem dX6_step_81 : decode cX6_step 81 = .ok (.ifCond .eq 45, 3) := by decide +kernel
theorem dX6_step_84 : decode cX6_step 84 = .ok (.aload_n 0, 1) := by decide +kernel
theorem dX6_step_85 : decode cX6_step 85 = .ok (.aload_n 0, 1) := by decide +kernel
theorem dX6_step_86 : decode cX6_step 86 = .ok (.getfield 73, 3) := by decide +kernel
theorem dX6_step_89 : decode cX6_step 89 = .ok (.invokevirtual 76, 3) := by decide +kernel
theorem dX6_step_92 : decode cX6_step 92 = .ok (.i2l, 1) := by decide +kernel
theorem dX6_step_93 : decode cX6_step 93 = .ok (.ldc2_w 83, 3) := by decide +kernel
theorem dX6_step_96 : decode cX6_step 96 = .ok (.ldc2_w 85, 3) := by decide +kernel
theorem dX6_step_99 : decode cX6_step 99 = .ok (.invokestatic 53, 3) := by decide +kernel
theorem dX6_step_102 : decode cX6_step 102 = .ok (.ifCond .eq 16, 3) := by decide +kernel
theorem dX6_step_105 : decode cX6_step 105 = .ok (.aload_n 0, 1) := by decide +kernel
theorem dX6_step_106 : decode cX6_step 106 = .ok (.dup, 1) := by decide +kernel
theorem dX6_step_107 : decode cX6_step 107 = .ok (.getfield 73, 3) := by decide +kernel
theorem dX6_step_110 : decode cX6_step 110 = .ok (.iconst 1, 1) := by decide +kernel
theorem dX6_step_111 : decode cX6_step 111 = .ok (.iadd, 1) := by decide +kernel
theorem dX6_step_112 : decode cX6_step 112 = .ok (.putfield 73, 3) := by decide +kernel
theorem dX6_step_115 : decode cX6_step 115 = .ok (.goto (-31), 3) := by decide +kernel
theorem dX6_step_118 : decode cX6_step 118 = .ok (.aload_n 0, 1) := by decide +kernel
theorem dX6_step_119 : decode cX6_step 119 = .ok (.iconst 1, 1) := by decide +kernel
theorem dX6_step_120 : decode cX6_step 120 = .ok (.putfield 70, 3) := by decide +kernel
theorem dX6_step_123 : decode cX6_step 123 = .ok (.goto 146, 3) := by decide +kernel
theorem dX6_step_126 : decode cX6_step 126 = .ok (.iload_n 1, 1) := by decide +kernel
theorem dX6_step_127 : decode cX6_step 127 = .ok (.i2l, 1) := by decide +kernel
theorem dX6_step_128 : decode cX6_step 128 = .ok (.ldc2_w 87, 3) := by decide +kernel
theorem dX6_step_131 : decode cX6_step 131 = .ok (.ldc2_w 89, 3) := by decide +kernel
theorem dX6_step_134 : decode cX6_step 134 = .ok (.invokestatic 53, 3) := by decide +kernel
theorem dX6_step_137 : decode cX6_step 137 = .ok (.ifCond .eq 106, 3) := by decide +kernel
theorem dX6_step_140 : decode cX6_step 140 = .ok (.aload_n 0, 1) := by decide +kernel
theorem dX6_step_141 : decode cX6_step 141 = .ok (.aload_n 0, 1) := by decide +kernel
theorem dX6_step_142 : decode cX6_step 142 = .ok (.getfield 73, 3) := by decide +kernel
theorem dX6_step_145 : decode cX6_step 145 = .ok (.invokevirtual 76, 3) := by decide +kernel
theorem dX6_step_148 : decode cX6_step 148 = .ok (.i2l, 1) := by decide +kernel
theorem dX6_step_149 : decode cX6_step 149 = .ok (.ldc2_w 87, 3) := by decide +kernel
theorem dX6_step_152 : decode cX6_step 152 = .ok (.ldc2_w 89, 3) := by decide +kernel
theorem dX6_step_155 : decode cX6_step 155 = .ok (.invokestatic 53, 3) := by decide +kernel
theorem dX6_step_158 : decode cX6_step 158 = .ok (.ifCond .eq 59, 3) := by decide +kernel
theorem dX6_step_161 : decode cX6_step 161 = .ok (.aload_n 0, 1) := by decide +kernel
theorem dX6_step_162 : decode cX6_step 162 = .ok (.aload_n 0, 1) := by decide +kernel
theorem dX6_step_163 : decode cX6_step 163 = .ok (.getfield 73, 3) := by decide +kernel
theorem dX6_step_166 : decode cX6_step 166 = .ok (.aload_n 0, 1) := by decide +kernel
theorem dX6_step_167 : decode cX6_step 167 = .ok (.getfield 64, 3) := by decide +kernel
theorem dX6_step_170 : decode cX6_step 170 = .ok (.isub, 1) := by decide +kernel
theorem dX6_step_171 : decode cX6_step 171 = .ok (.iconst 2, 1) := by decide +kernel
theorem dX6_step_172 : decode cX6_step 172 = .ok (.if_icmp .ge 25, 3) := by decide +kernel
theorem dX6_step_175 : decode cX6_step 175 = .ok (.bipush 10, 2) := by decide +kernel
theorem dX6_step_177 : decode cX6_step 177 = .ok (.aload_n 0, 1) := by decide +kernel
theorem dX6_step_178 : decode cX6_step 178 = .ok (.getfield 80, 3) := by decide +kernel
theorem dX6_step_181 : decode cX6_step 181 = .ok (.imul, 1) := by decide +kernel
theorem dX6_step_182 : decode cX6_step 182 = .ok (.aload_n 0, 1) := by decide +kernel
theorem dX6_step_183 : decode cX6_step 183 = .ok (.aload_n 0, 1) := by decide +kernel
theorem dX6_step_184 : decode cX6_step 184 = .ok (.getfield 73, 3) := by decide +kernel
theorem dX6_step_187 : decode cX6_step 187 = .ok (.invokevirtual 76, 3) := by decide +kernel
theorem dX6_step_190 : decode cX6_step 190 = .ok (.iadd, 1) := by decide +kernel
theorem dX6_step_191 : decode cX6_step 191 = .ok (.bipush 48, 2) := by decide +kernel
theorem dX6_step_193 : decode cX6_step 193 = .ok (.isub, 1) := by decide +kernel
theorem dX6_step_194 : decode cX6_step 194 = .ok (.goto 7, 3) := by decide +kernel
theorem dX6_step_197 : decode cX6_step 197 = .ok (.aload_n 0, 1) := by decide +kernel
theorem dX6_step_198 : decode cX6_step 198 = .ok (.getfield 80, 3) := by decide +kernel
theorem dX6_step_201 : decode cX6_step 201 = .ok (.putfield 80, 3) := by decide +kernel
theorem dX6_step_204 : decode cX6_step 204 = .ok (.aload_n 0, 1) := by decide +kernel
theorem dX6_step_205 : decode cX6_step 205 = .ok (.dup, 1) := by decide +kernel
theorem dX6_step_206 : decode cX6_step 206 = .ok (.getfield 73, 3) := by decide +kernel
theorem dX6_step_209 : decode cX6_step 209 = .ok (.iconst 1, 1) := by decide +kernel
theorem dX6_step_210 : decode cX6_step 210 = .ok (.iadd, 1) := by decide +kernel
theorem dX6_step_211 : decode cX6_step 211 = .ok (.putfield 73, 3) := by decide +kernel
theorem dX6_step_214 : decode cX6_step 214 = .ok (.goto (-74), 3) := by decide +kernel
theorem dX6_step_217 : decode cX6_step 217 = .ok (.aload_n 0, 1) := by decide +kernel
theorem dX6_step_218 : decode cX6_step 218 = .ok (.iconst 2, 1) := by decide +kernel
theorem dX6_step_219 : decode cX6_step 219 = .ok (.putfield 70, 3) := by decide +kernel
theorem dX6_step_222 : decode cX6_step 222 = .ok (.aload_n 0, 1) := by decide +kernel
theorem dX6_step_223 : decode cX6_step 223 = .ok (.getfield 73, 3) := by decide +kernel
theorem dX6_step_226 : decode cX6_step 226 = .ok (.aload_n 0, 1) := by decide +kernel
theorem dX6_step_227 : decode cX6_step 227 = .ok (.getfield 64, 3) := by decide +kernel
theorem dX6_step_230 : decode cX6_step 230 = .ok (.isub, 1) := by decide +kernel
theorem dX6_step_231 : decode cX6_step 231 = .ok (.iconst 2, 1) := by decide +kernel
theorem dX6_step_232 : decode cX6_step 232 = .ok (.if_icmp .le 37, 3) := by decide +kernel
theorem dX6_step_235 : decode cX6_step 235 = .ok (.aload_n 0, 1) := by decide +kernel
theorem dX6_step_236 : decode cX6_step 236 = .ok (.iconst 1, 1) := by decide +kernel
theorem dX6_step_237 : decode cX6_step 237 = .ok (.invokevirtual 91, 3) := by decide +kernel
theorem dX6_step_240 : decode cX6_step 240 = .ok (.goto 29, 3) := by decide +kernel
theorem dX6_step_243 : decode cX6_step 243 = .ok (.aload_n 0, 1) := by decide +kernel
theorem dX6_step_244 : decode cX6_step 244 = .ok (.iconst 3, 1) := by decide +kernel
theorem dX6_step_245 : decode cX6_step 245 = .ok (.putfield 70, 3) := by decide +kernel
theorem dX6_step_248 : decode cX6_step 248 = .ok (.aload_n 0, 1) := by decide +kernel
theorem dX6_step_249 : decode cX6_step 249 = .ok (.dup, 1) := by decide +kernel
theorem dX6_step_250 : decode cX6_step 250 = .ok (.getfield 73, 3) := by decide +kernel
theorem dX6_step_253 : decode cX6_step 253 = .ok (.iconst 1, 1) := by decide +kernel
theorem dX6_step_254 : decode cX6_step 254 = .ok (.iadd, 1) := by decide +kernel
theorem dX6_step_255 : decode cX6_step 255 = .ok (.putfield 73, 3) := by decide +kernel
theorem dX6_step_258 : decode cX6_step 258 = .ok (.iload_n 1, 1) := by decide +kernel
theorem dX6_step_259 : decode cX6_step 259 = .ok (.bipush 59, 2) := by decide +kernel
theorem dX6_step_261 : decode cX6_step 261 = .ok (.if_icmp .eq 8, 3) := by decide +kernel
theorem dX6_step_264 : decode cX6_step 264 = .ok (.aload_n 0, 1) := by decide +kernel
theorem dX6_step_265 : decode cX6_step 265 = .ok (.iconst 1, 1) := by decide +kernel
theorem dX6_step_266 : decode cX6_step 266 = .ok (.invokevirtual 91, 3) := by decide +kernel
theorem dX6_step_269 : decode cX6_step 269 = .ok (.return_, 1) := by decide +kernel
theorem dX6_number_0 : decode cX6_number 0 = .ok (.aload_n 0, 1) := by decide +kernel
theorem dX6_number_1 : decode cX6_number 1 = .ok (.getfield 61, 3) := by decide +kernel
theorem dX6_number_4 : decode cX6_number 4 = .ok (.ifCond .ne 16, 3) := by decide +kernel
theorem dX6_number_7 : decode cX6_number 7 = .ok (.aload_n 0, 1) := by decide +kernel
theorem dX6_number_8 : decode cX6_number 8 = .ok (.getfield 70, 3) := by decide +kernel
theorem dX6_number_11 : decode cX6_number 11 = .ok (.iconst 2, 1) := by decide +kernel
theorem dX6_number_12 : decode cX6_number 12 = .ok (.if_icmp .eq 8, 3) := by decide +kernel
theorem dX6_number_15 : decode cX6_number 15 = .ok (.aload_n 0, 1) := by decide +kernel
theorem dX6_number_16 : decode cX6_number 16 = .ok (.iconst 2, 1) := by decide +kernel
theorem dX6_number_17 : decode cX6_number 17 = .ok (.invokevirtual 91, 3) := by decide +kernel
theorem dX6_number_20 : decode cX6_number 20 = .ok (.aload_n 0, 1) := by decide +kernel
theorem dX6_number_21 : decode cX6_number 21 = .ok (.getfield 61, 3) := by decide +kernel
theorem dX6_number_24 : decode cX6_number 24 = .ok (.ifCond .ne 23, 3) := by decide +kernel
theorem dX6_number_27 : decode cX6_number 27 = .ok (.aload_n 0, 1) := by decide +kernel
theorem dX6_number_28 : decode cX6_number 28 = .ok (.getfield 80, 3) := by decide +kernel
theorem dX6_number_31 : decode cX6_number 31 = .ok (.i2l, 1) := by decide +kernel
theorem dX6_number_32 : decode cX6_number 32 = .ok (.iload_n 1, 1) := by decide +kernel
theorem dX6_number_33 : decode cX6_number 33 = .ok (.i2l, 1) := by decide +kernel
theorem dX6_number_34 : decode cX6_number 34 = .ok (.iload_n 2, 1) := by decide +kernel
theorem dX6_number_35 : decode cX6_number 35 = .ok (.i2l, 1) := by decide +kernel
theorem dX6_number_36 : decode cX6_number 36 = .ok (.invokestatic 53, 3) := by decide +kernel
theorem dX6_number_39 : decode cX6_number 39 = .ok (.ifCond .ne 8, 3) := by decide +kernel
theorem dX6_number_42 : decode cX6_number 42 = .ok (.aload_n 0, 1) := by decide +kernel
theorem dX6_number_43 : decode cX6_number 43 = .ok (.iconst 3, 1) := by decide +kernel
theorem dX6_number_44 : decode cX6_number 44 = .ok (.invokevirtual 91, 3) := by decide +kernel
theorem dX6_number_47 : decode cX6_number 47 = .ok (.aload_n 0, 1) := by decide +kernel
theorem dX6_number_48 : decode cX6_number 48 = .ok (.getfield 61, 3) := by decide +kernel
theorem dX6_number_51 : decode cX6_number 51 = .ok (.ifCond .ne 10, 3) := by decide +kernel
theorem dX6_number_54 : decode cX6_number 54 = .ok (.aload_n 0, 1) := by decide +kernel
theorem dX6_number_55 : decode cX6_number 55 = .ok (.getfield 80, 3) := by decide +kernel
theorem dX6_number_58 : decode cX6_number 58 = .ok (.goto 4, 3) := by decide +kernel
theorem dX6_number_61 : decode cX6_number 61 = .ok (.iload_n 1, 1) := by decide +kernel
theorem dX6_number_62 : decode cX6_number 62 = .ok (.istore_n 3, 1) := by decide +kernel
theorem dX6_number_63 : decode cX6_number 63 = .ok (.aload_n 0, 1) := by decide +kernel
theorem dX6_number_64 : decode cX6_number 64 = .ok (.invokevirtual 95, 3) := by decide +kernel
theorem dX6_number_67 : decode cX6_number 67 = .ok (.iload_n 3, 1) := by decide +kernel
theorem dX6_number_68 : decode cX6_number 68 = .ok (.ireturn, 1) := by decide +kernel
theorem dX6_readDream_0 : decode cX6_readDream 0 = .ok (.aload_n 0, 1) := by decide +kernel
theorem dX6_readDream_1 : decode cX6_readDream 1 = .ok (.getfield 70, 3) := by decide +kernel
theorem dX6_readDream_4 : decode cX6_readDream 4 = .ok (.iconst 1, 1) := by decide +kernel
theorem dX6_readDream_5 : decode cX6_readDream 5 = .ok (.if_icmp .eq 9, 3) := by decide +kernel
theorem dX6_readDream_8 : decode cX6_readDream 8 = .ok (.aload_n 0, 1) := by decide +kernel
theorem dX6_readDream_9 : decode cX6_readDream 9 = .ok (.iconst 2, 1) := by decide +kernel
theorem dX6_readDream_10 : decode cX6_readDream 10 = .ok (.invokevirtual 91, 3) := by decide +kernel
theorem dX6_readDream_13 : decode cX6_readDream 13 = .ok (.return_, 1) := by decide +kernel
theorem dX6_readDream_14 : decode cX6_readDream 14 = .ok (.aload_n 0, 1) := by decide +kernel
theorem dX6_readDream_15 : decode cX6_readDream 15 = .ok (.getfield 73, 3) := by decide +kernel
theorem dX6_readDream_18 : decode cX6_readDream 18 = .ok (.aload_n 0, 1) := by decide +kernel
theorem dX6_readDream_19 : decode cX6_readDream 19 = .ok (.getfield 64, 3) := by decide +kernel
theorem dX6_readDream_22 : decode cX6_readDream 22 = .ok (.isub, 1) := by decide +kernel
theorem dX6_readDream_23 : decode cX6_readDream 23 = .ok (.bipush 8, 2) := by decide +kernel
theorem dX6_readDream_25 : decode cX6_readDream 25 = .ok (.if_icmp .gt 7, 3) := by decide +kernel
theorem dX6_readDream_28 : decode cX6_readDream 28 = .ok (.iconst 1, 1) := by decide +kernel
theorem dX6_readDream_29 : decode cX6_readDream 29 = .ok (.goto 4, 3) := by decide +kernel
theorem dX6_readDream_32 : decode cX6_readDream 32 = .ok (.iconst 0, 1) := by decide +kernel
theorem dX6_readDream_33 : decode cX6_readDream 33 = .ok (.istore_n 1, 1) := by decide +kernel
theorem dX6_readDream_34 : decode cX6_readDream 34 = .ok (.iconst 0, 1) := by decide +kernel
theorem dX6_readDream_35 : decode cX6_readDream 35 = .ok (.istore_n 2, 1) := by decide +kernel
theorem dX6_readDream_36 : decode cX6_readDream 36 = .ok (.aload_n 0, 1) := by decide +kernel
theorem dX6_readDream_37 : decode cX6_readDream 37 = .ok (.getfield 64, 3) := by decide +kernel
theorem dX6_readDream_40 : decode cX6_readDream 40 = .ok (.istore_n 3, 1) := by decide +kernel
theorem dX6_readDream_41 : decode cX6_readDream 41 = .ok (.iload_n 3, 1) := by decide +kernel
theorem dX6_readDream_42 : decode cX6_readDream 42 = .ok (.aload_n 0, 1) := by decide +kernel
theorem dX6_readDream_43 : decode cX6_readDream 43 = .ok (.getfield 73, 3) := by decide +kernel
theorem dX6_readDream_46 : decode cX6_readDream 46 = .ok (.if_icmp .ge 64, 3) := by decide +kernel
theorem dX6_readDream_49 : decode cX6_readDream 49 = .ok (.iload_n 1, 1) := by decide +kernel
theorem dX6_readDream_50 : decode cX6_readDream 50 = .ok (.ifCond .eq 60, 3) := by decide +kernel
theorem dX6_readDream_53 : decode cX6_readDream 53 = .ok (.aload_n 0, 1) := by decide +kernel
theorem dX6_readDream_54 : decode cX6_readDream 54 = .ok (.iload_n 3, 1) := by decide +kernel
theorem dX6_readDream_55 : decode cX6_readDream 55 = .ok (.invokevirtual 76, 3) := by decide +kernel
theorem dX6_readDream_58 : decode cX6_readDream 58 = .ok (.bipush 102, 2) := by decide +kernel
theorem dX6_readDream_60 : decode cX6_readDream 60 = .ok (.if_icmp .eq 13, 3) := by decide +kernel
theorem dX6_readDream_63 : decode cX6_readDream 63 = .ok (.aload_n 0, 1) := by decide +kernel
theorem dX6_readDream_64 : decode cX6_readDream 64 = .ok (.iload_n 3, 1) := by decide +kernel
theorem dX6_readDream_65 : decode cX6_readDream 65 = .ok (.invokevirtual 76, 3) := by decide +kernel
theorem dX6_readDream_68 : decode cX6_readDream 68 = .ok (.bipush 108, 2) := by decide +kernel
theorem dX6_readDream_70 : decode cX6_readDream 70 = .ok (.if_icmp .ne 7, 3) := by decide +kernel
theorem dX6_readDream_73 : decode cX6_readDream 73 = .ok (.iconst 1, 1) := by decide +kernel
theorem dX6_readDream_74 : decode cX6_readDream 74 = .ok (.goto 4, 3) := by decide +kernel
theorem dX6_readDream_77 : decode cX6_readDream 77 = .ok (.iconst 0, 1) := by decide +kernel
theorem dX6_readDream_78 : decode cX6_readDream 78 = .ok (.istore_n 1, 1) := by decide +kernel
theorem dX6_readDream_79 : decode cX6_readDream 79 = .ok (.iload_n 2, 1) := by decide +kernel
theorem dX6_readDream_80 : decode cX6_readDream 80 = .ok (.aload_n 0, 1) := by decide +kernel
theorem dX6_readDream_81 : decode cX6_readDream 81 = .ok (.iload_n 3, 1) := by decide +kernel
theorem dX6_readDream_82 : decode cX6_readDream 82 = .ok (.invokevirtual 76, 3) := by decide +kernel
theorem dX6_readDream_85 : decode cX6_readDream 85 = .ok (.bipush 102, 2) := by decide +kernel
theorem dX6_readDream_87 : decode cX6_readDream 87 = .ok (.if_icmp .ne 14, 3) := by decide +kernel
theorem dX6_readDream_90 : decode cX6_readDream 90 = .ok (.iconst 1, 1) := by decide +kernel
theorem dX6_readDream_91 : decode cX6_readDream 91 = .ok (.iload_n 3, 1) := by decide +kernel
theorem dX6_readDream_92 : decode cX6_readDream 92 = .ok (.aload_n 0, 1) := by decide +kernel
theorem dX6_readDream_93 : decode cX6_readDream 93 = .ok (.getfield 64, 3) := by decide +kernel
theorem dX6_readDream_96 : decode cX6_readDream 96 = .ok (.isub, 1) := by decide +kernel
theorem dX6_readDream_97 : decode cX6_readDream 97 = .ok (.ishl, 1) := by decide +kernel
theorem dX6_readDream_98 : decode cX6_readDream 98 = .ok (.goto 4, 3) := by decide +kernel
theorem dX6_readDream_101 : decode cX6_readDream 101 = .ok (.iconst 0, 1) := by decide +kernel
theorem dX6_readDream_102 : decode cX6_readDream 102 = .ok (.ior, 1) := by decide +kernel
theorem dX6_readDream_103 : decode cX6_readDream 103 = .ok (.istore_n 2, 1) := by decide +kernel
theorem dX6_readDream_104 : decode cX6_readDream 104 = .ok (.iinc 3 1, 3) := by decide +kernel
theorem dX6_readDream_107 : decode cX6_readDream 107 = .ok (.goto (-66), 3) := by decide +kernel
theorem dX6_readDream_110 : decode cX6_readDream 110 = .ok (.iload_n 1, 1) := by decide +kernel
theorem dX6_readDream_111 : decode cX6_readDream 111 = .ok (.ifCond .ne 9, 3) := by decide +kernel
theorem dX6_readDream_114 : decode cX6_readDream 114 = .ok (.aload_n 0, 1) := by decide +kernel
theorem dX6_readDream_115 : decode cX6_readDream 115 = .ok (.iconst 3, 1) := by decide +kernel
theorem dX6_readDream_116 : decode cX6_readDream 116 = .ok (.invokevirtual 91, 3) := by decide +kernel
theorem dX6_readDream_119 : decode cX6_readDream 119 = .ok (.return_, 1) := by decide +kernel
theorem dX6_readDream_120 : decode cX6_readDream 120 = .ok (.aload_n 0, 1) := by decide +kernel
theorem dX6_readDream_121 : decode cX6_readDream 121 = .ok (.getfield 19, 3) := by decide +kernel
theorem dX6_readDream_124 : decode cX6_readDream 124 = .ok (.aload_n 0, 1) := by decide +kernel
theorem dX6_readDream_125 : decode cX6_readDream 125 = .ok (.getfield 98, 3) := by decide +kernel
theorem dX6_readDream_128 : decode cX6_readDream 128 = .ok (.iload_n 2, 1) := by decide +kernel
theorem dX6_readDream_129 : decode cX6_readDream 129 = .ok (.iastore, 1) := by decide +kernel
theorem dX6_readDream_130 : decode cX6_readDream 130 = .ok (.aload_n 0, 1) := by decide +kernel
theorem dX6_readDream_131 : decode cX6_readDream 131 = .ok (.invokevirtual 95, 3) := by decide +kernel
theorem dX6_readDream_134 : decode cX6_readDream 134 = .ok (.aload_n 0, 1) := by decide +kernel
theorem dX6_readDream_135 : decode cX6_readDream 135 = .ok (.getfield 16, 3) := by decide +kernel
theorem dX6_readDream_138 : decode cX6_readDream 138 = .ok (.bipush 8, 2) := by decide +kernel
theorem dX6_readDream_140 : decode cX6_readDream 140 = .ok (.aload_n 0, 1) := by decide +kernel
theorem dX6_readDream_141 : decode cX6_readDream 141 = .ok (.getfield 98, 3) := by decide +kernel
theorem dX6_readDream_144 : decode cX6_readDream 144 = .ok (.iadd, 1) := by decide +kernel
theorem dX6_readDream_145 : decode cX6_readDream 145 = .ok (.aload_n 0, 1) := by decide +kernel
theorem dX6_readDream_146 : decode cX6_readDream 146 = .ok (.iconst 1, 1) := by decide +kernel
theorem dX6_readDream_147 : decode cX6_readDream 147 = .ok (.bipush 9, 2) := by decide +kernel
theorem dX6_readDream_149 : decode cX6_readDream 149 = .ok (.invokevirtual 101, 3) := by decide +kernel
theorem dX6_readDream_152 : decode cX6_readDream 152 = .ok (.iastore, 1) := by decide +kernel
theorem dX6_readDream_153 : decode cX6_readDream 153 = .ok (.aload_n 0, 1) := by decide +kernel
theorem dX6_readDream_154 : decode cX6_readDream 154 = .ok (.dup, 1) := by decide +kernel
theorem dX6_readDream_155 : decode cX6_readDream 155 = .ok (.getfield 98, 3) := by decide +kernel
theorem dX6_readDream_158 : decode cX6_readDream 158 = .ok (.iconst 1, 1) := by decide +kernel
theorem dX6_readDream_159 : decode cX6_readDream 159 = .ok (.iadd, 1) := by decide +kernel
theorem dX6_readDream_160 : decode cX6_readDream 160 = .ok (.putfield 98, 3) := by decide +kernel
theorem dX6_readDream_163 : decode cX6_readDream 163 = .ok (.return_, 1) := by decide +kernel
theorem dX6_readOnce_0 : decode cX6_readOnce 0 = .ok (.iload_n 1, 1) := by decide +kernel
theorem dX6_readOnce_1 : decode cX6_readOnce 1 = .ok (.iconst 2, 1) := by decide +kernel
theorem dX6_readOnce_2 : decode cX6_readOnce 2 = .ok (.if_icmp .ne 34, 3) := by decide +kernel
theorem dX6_readOnce_5 : decode cX6_readOnce 5 = .ok (.aload_n 0, 1) := by decide +kernel
theorem dX6_readOnce_6 : decode cX6_readOnce 6 = .ok (.getfield 16, 3) := by decide +kernel
theorem dX6_readOnce_9 : decode cX6_readOnce 9 = .ok (.bipush 12, 2) := by decide +kernel
theorem dX6_readOnce_11 : decode cX6_readOnce 11 = .ok (.aload_n 0, 1) := by decide +kernel
theorem dX6_readOnce_12 : decode cX6_readOnce 12 = .ok (.iconst 0, 1) := by decide +kernel
theorem dX6_readOnce_13 : decode cX6_readOnce 13 = .ok (.bipush 40, 2) := by decide +kernel
theorem dX6_readOnce_15 : decode cX6_readOnce 15 = .ok (.invokevirtual 101, 3) := by decide +kernel
theorem dX6_readOnce_18 : decode cX6_readOnce 18 = .ok (.iastore, 1) := by decide +kernel
theorem dX6_readOnce_19 : decode cX6_readOnce 19 = .ok (.aload_n 0, 1) := by decide +kernel
theorem dX6_readOnce_20 : decode cX6_readOnce 20 = .ok (.getfield 16, 3) := by decide +kernel
theorem dX6_readOnce_23 : decode cX6_readOnce 23 = .ok (.bipush 13, 2) := by decide +kernel
theorem dX6_readOnce_25 : decode cX6_readOnce 25 = .ok (.aload_n 0, 1) := by decide +kernel
theorem dX6_readOnce_26 : decode cX6_readOnce 26 = .ok (.iconst 0, 1) := by decide +kernel
theorem dX6_readOnce_27 : decode cX6_readOnce 27 = .ok (.bipush 20, 2) := by decide +kernel
theorem dX6_readOnce_29 : decode cX6_readOnce 29 = .ok (.invokevirtual 101, 3) := by decide +kernel
theorem dX6_readOnce_32 : decode cX6_readOnce 32 = .ok (.iastore, 1) := by decide +kernel
theorem dX6_readOnce_33 : decode cX6_readOnce 33 = .ok (.goto 175, 3) := by decide +kernel
theorem dX6_readOnce_36 : decode cX6_readOnce 36 = .ok (.iload_n 1, 1) := by decide +kernel
theorem dX6_readOnce_37 : decode cX6_readOnce 37 = .ok (.iconst 3, 1) := by decide +kernel
theorem dX6_readOnce_38 : decode cX6_readOnce 38 = .ok (.if_icmp .ne 80, 3) := by decide +kernel
theorem dX6_readOnce_41 : decode cX6_readOnce 41 = .ok (.aload_n 0, 1) := by decide +kernel
theorem dX6_readOnce_42 : decode cX6_readOnce 42 = .ok (.iconst 0, 1) := by decide +kernel
theorem dX6_readOnce_43 : decode cX6_readOnce 43 = .ok (.bipush 40, 2) := by decide +kernel
theorem dX6_readOnce_45 : decode cX6_readOnce 45 = .ok (.invokevirtual 101, 3) := by decide +kernel
theorem dX6_readOnce_48 : decode cX6_readOnce 48 = .ok (.istore_n 2, 1) := by decide +kernel
theorem dX6_readOnce_49 : decode cX6_readOnce 49 = .ok (.aload_n 0, 1) := by decide +kernel
theorem dX6_readOnce_50 : decode cX6_readOnce 50 = .ok (.getfield 16, 3) := by decide +kernel
theorem dX6_readOnce_53 : decode cX6_readOnce 53 = .ok (.bipush 14, 2) := by decide +kernel
theorem dX6_readOnce_55 : decode cX6_readOnce 55 = .ok (.bipush 40, 2) := by decide +kernel
theorem dX6_readOnce_57 : decode cX6_readOnce 57 = .ok (.iload_n 2, 1) := by decide +kernel
theorem dX6_readOnce_58 : decode cX6_readOnce 58 = .ok (.isub, 1) := by decide +kernel
theorem dX6_readOnce_59 : decode cX6_readOnce 59 = .ok (.iastore, 1) := by decide +kernel
theorem dX6_readOnce_60 : decode cX6_readOnce 60 = .ok (.aload_n 0, 1) := by decide +kernel
theorem dX6_readOnce_61 : decode cX6_readOnce 61 = .ok (.getfield 61, 3) := by decide +kernel
theorem dX6_readOnce_64 : decode cX6_readOnce 64 = .ok (.ifCond .ne 24, 3) := by decide +kernel
theorem dX6_readOnce_67 : decode cX6_readOnce 67 = .ok (.aload_n 0, 1) := by decide +kernel
theorem dX6_readOnce_68 : decode cX6_readOnce 68 = .ok (.getfield 70, 3) := by decide +kernel
theorem dX6_readOnce_71 : decode cX6_readOnce 71 = .ok (.iconst 2, 1) := by decide +kernel
theorem dX6_readOnce_72 : decode cX6_readOnce 72 = .ok (.if_icmp .ne 16, 3) := by decide +kernel
theorem dX6_readOnce_75 : decode cX6_readOnce 75 = .ok (.aload_n 0, 1) := by decide +kernel
theorem dX6_readOnce_76 : decode cX6_readOnce 76 = .ok (.getfield 80, 3) := by decide +kernel
theorem dX6_readOnce_79 : decode cX6_readOnce 79 = .ok (.iconst 1, 1) := by decide +kernel
theorem dX6_readOnce_80 : decode cX6_readOnce 80 = .ok (.if_icmp .ne 8, 3) := by decide +kernel
theorem dX6_readOnce_83 : decode cX6_readOnce 83 = .ok (.aload_n 0, 1) := by decide +kernel
theorem dX6_readOnce_84 : decode cX6_readOnce 84 = .ok (.iconst 3, 1) := by decide +kernel
theorem dX6_readOnce_85 : decode cX6_readOnce 85 = .ok (.invokevirtual 91, 3) := by decide +kernel
theorem dX6_readOnce_88 : decode cX6_readOnce 88 = .ok (.aload_n 0, 1) := by decide +kernel
theorem dX6_readOnce_89 : decode cX6_readOnce 89 = .ok (.getfield 16, 3) := by decide +kernel
theorem dX6_readOnce_92 : decode cX6_readOnce 92 = .ok (.bipush 15, 2) := by decide +kernel
theorem dX6_readOnce_94 : decode cX6_readOnce 94 = .ok (.aload_n 0, 1) := by decide +kernel
theorem dX6_readOnce_95 : decode cX6_readOnce 95 = .ok (.iconst 0, 1) := by decide +kernel
theorem dX6_readOnce_96 : decode cX6_readOnce 96 = .ok (.bipush 9, 2) := by decide +kernel
theorem dX6_readOnce_98 : decode cX6_readOnce 98 = .ok (.invokevirtual 101, 3) := by decide +kernel
theorem dX6_readOnce_101 : decode cX6_readOnce 101 = .ok (.iastore, 1) := by decide +kernel
theorem dX6_readOnce_102 : decode cX6_readOnce 102 = .ok (.aload_n 0, 1) := by decide +kernel
theorem dX6_readOnce_103 : decode cX6_readOnce 103 = .ok (.getfield 16, 3) := by decide +kernel
theorem dX6_readOnce_106 : decode cX6_readOnce 106 = .ok (.bipush 16, 2) := by decide +kernel
theorem dX6_readOnce_108 : decode cX6_readOnce 108 = .ok (.aload_n 0, 1) := by decide +kernel
theorem dX6_readOnce_109 : decode cX6_readOnce 109 = .ok (.iconst 0, 1) := by decide +kernel
theorem dX6_readOnce_110 : decode cX6_readOnce 110 = .ok (.iload_n 2, 1) := by decide +kernel
theorem dX6_readOnce_111 : decode cX6_readOnce 111 = .ok (.invokevirtual 101, 3) := by decide +kernel
theorem dX6_readOnce_114 : decode cX6_readOnce 114 = .ok (.iastore, 1) := by decide +kernel
theorem dX6_readOnce_115 : decode cX6_readOnce 115 = .ok (.goto 93, 3) := by decide +kernel
theorem dX6_readOnce_118 : decode cX6_readOnce 118 = .ok (.iload_n 1, 1) := by decide +kernel
theorem dX6_readOnce_119 : decode cX6_readOnce 119 = .ok (.iconst 4, 1) := by decide +kernel
theorem dX6_readOnce_120 : decode cX6_readOnce 120 = .ok (.if_icmp .ne 38, 3) := by decide +kernel
theorem dX6_readOnce_123 : decode cX6_readOnce 123 = .ok (.aload_n 0, 1) := by decide +kernel
theorem dX6_readOnce_124 : decode cX6_readOnce 124 = .ok (.getfield 16, 3) := by decide +kernel
theorem dX6_readOnce_127 : decode cX6_readOnce 127 = .ok (.bipush 18, 2) := by decide +kernel
theorem dX6_readOnce_129 : decode cX6_readOnce 129 = .ok (.aload_n 0, 1) := by decide +kernel
theorem dX6_readOnce_130 : decode cX6_readOnce 130 = .ok (.iconst 0, 1) := by decide +kernel
theorem dX6_readOnce_131 : decode cX6_readOnce 131 = .ok (.bipush 9, 2) := by decide +kernel
theorem dX6_readOnce_133 : decode cX6_readOnce 133 = .ok (.invokevirtual 101, 3) := by decide +kernel
theorem dX6_readOnce_136 : decode cX6_readOnce 136 = .ok (.iconst 1, 1) := by decide +kernel
theorem dX6_readOnce_137 : decode cX6_readOnce 137 = .ok (.isub, 1) := by decide +kernel
theorem dX6_readOnce_138 : decode cX6_readOnce 138 = .ok (.iastore, 1) := by decide +kernel
theorem dX6_readOnce_139 : decode cX6_readOnce 139 = .ok (.aload_n 0, 1) := by decide +kernel
theorem dX6_readOnce_140 : decode cX6_readOnce 140 = .ok (.getfield 16, 3) := by decide +kernel
theorem dX6_readOnce_143 : decode cX6_readOnce 143 = .ok (.bipush 17, 2) := by decide +kernel
theorem dX6_readOnce_145 : decode cX6_readOnce 145 = .ok (.aload_n 0, 1) := by decide +kernel
theorem dX6_readOnce_146 : decode cX6_readOnce 146 = .ok (.iconst 0, 1) := by decide +kernel
theorem dX6_readOnce_147 : decode cX6_readOnce 147 = .ok (.bipush 9, 2) := by decide +kernel
theorem dX6_readOnce_149 : decode cX6_readOnce 149 = .ok (.invokevirtual 101, 3) := by decide +kernel
theorem dX6_readOnce_152 : decode cX6_readOnce 152 = .ok (.iconst 1, 1) := by decide +kernel
theorem dX6_readOnce_153 : decode cX6_readOnce 153 = .ok (.isub, 1) := by decide +kernel
theorem dX6_readOnce_154 : decode cX6_readOnce 154 = .ok (.iastore, 1) := by decide +kernel
theorem dX6_readOnce_155 : decode cX6_readOnce 155 = .ok (.goto 53, 3) := by decide +kernel
theorem dX6_readOnce_158 : decode cX6_readOnce 158 = .ok (.aload_n 0, 1) := by decide +kernel
theorem dX6_readOnce_159 : decode cX6_readOnce 159 = .ok (.invokevirtual 105, 3) := by decide +kernel
theorem dX6_readOnce_162 : decode cX6_readOnce 162 = .ok (.bipush 6, 2) := by decide +kernel
theorem dX6_readOnce_164 : decode cX6_readOnce 164 = .ok (.isub, 1) := by decide +kernel
theorem dX6_readOnce_165 : decode cX6_readOnce 165 = .ok (.istore_n 2, 1) := by decide +kernel
theorem dX6_readOnce_166 : decode cX6_readOnce 166 = .ok (.aload_n 0, 1) := by decide +kernel
theorem dX6_readOnce_167 : decode cX6_readOnce 167 = .ok (.getfield 61, 3) := by decide +kernel
theorem dX6_readOnce_170 : decode cX6_readOnce 170 = .ok (.ifCond .ne 12, 3) := by decide +kernel
theorem dX6_readOnce_173 : decode cX6_readOnce 173 = .ok (.iload_n 2, 1) := by decide +kernel
theorem dX6_readOnce_174 : decode cX6_readOnce 174 = .ok (.ifCond .ge 8, 3) := by decide +kernel
theorem dX6_readOnce_177 : decode cX6_readOnce 177 = .ok (.aload_n 0, 1) := by decide +kernel
theorem dX6_readOnce_178 : decode cX6_readOnce 178 = .ok (.iconst 2, 1) := by decide +kernel
theorem dX6_readOnce_179 : decode cX6_readOnce 179 = .ok (.invokevirtual 91, 3) := by decide +kernel
theorem dX6_readOnce_182 : decode cX6_readOnce 182 = .ok (.aload_n 0, 1) := by decide +kernel
theorem dX6_readOnce_183 : decode cX6_readOnce 183 = .ok (.getfield 16, 3) := by decide +kernel
theorem dX6_readOnce_186 : decode cX6_readOnce 186 = .ok (.bipush 19, 2) := by decide +kernel
theorem dX6_readOnce_188 : decode cX6_readOnce 188 = .ok (.iload_n 2, 1) := by decide +kernel
theorem dX6_readOnce_189 : decode cX6_readOnce 189 = .ok (.iastore, 1) := by decide +kernel
theorem dX6_readOnce_190 : decode cX6_readOnce 190 = .ok (.aload_n 0, 1) := by decide +kernel
theorem dX6_readOnce_191 : decode cX6_readOnce 191 = .ok (.invokevirtual 95, 3) := by decide +kernel
theorem dX6_readOnce_194 : decode cX6_readOnce 194 = .ok (.aload_n 0, 1) := by decide +kernel
theorem dX6_readOnce_195 : decode cX6_readOnce 195 = .ok (.getfield 16, 3) := by decide +kernel
theorem dX6_readOnce_198 : decode cX6_readOnce 198 = .ok (.bipush 20, 2) := by decide +kernel
theorem dX6_readOnce_200 : decode cX6_readOnce 200 = .ok (.aload_n 0, 1) := by decide +kernel
theorem dX6_readOnce_201 : decode cX6_readOnce 201 = .ok (.iconst 0, 1) := by decide +kernel
theorem dX6_readOnce_202 : decode cX6_readOnce 202 = .ok (.bipush 9, 2) := by decide +kernel
theorem dX6_readOnce_204 : decode cX6_readOnce 204 = .ok (.invokevirtual 101, 3) := by decide +kernel
theorem dX6_readOnce_207 : decode cX6_readOnce 207 = .ok (.iastore, 1) := by decide +kernel
theorem dX6_readOnce_208 : decode cX6_readOnce 208 = .ok (.return_, 1) := by decide +kernel
theorem dX6_readLine_0 : decode cX6_readLine 0 = .ok (.aload_n 0, 1) := by decide +kernel
theorem dX6_readLine_1 : decode cX6_readLine 1 = .ok (.invokevirtual 105, 3) := by decide +kernel
theorem dX6_readLine_4 : decode cX6_readLine 4 = .ok (.istore_n 1, 1) := by decide +kernel
theorem dX6_readLine_5 : decode cX6_readLine 5 = .ok (.iload_n 1, 1) := by decide +kernel
theorem dX6_readLine_6 : decode cX6_readLine 6 = .ok (.i2l, 1) := by decide +kernel
theorem dX6_readLine_7 : decode cX6_readLine 7 = .ok (.lconst 0, 1) := by decide +kernel
theorem dX6_readLine_8 : decode cX6_readLine 8 = .ok (.ldc2_w 109, 3) := by decide +kernel
theorem dX6_readLine_11 : decode cX6_readLine 11 = .ok (.invokestatic 53, 3) := by decide +kernel
theorem dX6_readLine_14 : decode cX6_readLine 14 = .ok (.ifCond .ne 9, 3) := by decide +kernel
theorem dX6_readLine_17 : decode cX6_readLine 17 = .ok (.aload_n 0, 1) := by decide +kernel
theorem dX6_readLine_18 : decode cX6_readLine 18 = .ok (.iconst 2, 1) := by decide +kernel
theorem dX6_readLine_19 : decode cX6_readLine 19 = .ok (.invokevirtual 91, 3) := by decide +kernel
theorem dX6_readLine_22 : decode cX6_readLine 22 = .ok (.return_, 1) := by decide +kernel
theorem dX6_readLine_23 : decode cX6_readLine 23 = .ok (.iload_n 1, 1) := by decide +kernel
theorem dX6_readLine_24 : decode cX6_readLine 24 = .ok (.ifCond .ne 11, 3) := by decide +kernel
theorem dX6_readLine_27 : decode cX6_readLine 27 = .ok (.aload_n 0, 1) := by decide +kernel
theorem dX6_readLine_28 : decode cX6_readLine 28 = .ok (.getfield 111, 3) := by decide +kernel
theorem dX6_readLine_31 : decode cX6_readLine 31 = .ok (.iconst 4, 1) := by decide +kernel
theorem dX6_readLine_32 : decode cX6_readLine 32 = .ok (.if_icmp .eq 16, 3) := by decide +kernel
theorem dX6_readLine_35 : decode cX6_readLine 35 = .ok (.iload_n 1, 1) := by decide +kernel
theorem dX6_readLine_36 : decode cX6_readLine 36 = .ok (.iconst 1, 1) := by decide +kernel
theorem dX6_readLine_37 : decode cX6_readLine 37 = .ok (.if_icmp .ne 16, 3) := by decide +kernel
theorem dX6_readLine_40 : decode cX6_readLine 40 = .ok (.aload_n 0, 1) := by decide +kernel
theorem dX6_readLine_41 : decode cX6_readLine 41 = .ok (.getfield 98, 3) := by decide +kernel
theorem dX6_readLine_44 : decode cX6_readLine 44 = .ok (.iconst 4, 1) := by decide +kernel
theorem dX6_readLine_45 : decode cX6_readLine 45 = .ok (.if_icmp .ne 8, 3) := by decide +kernel
theorem dX6_readLine_48 : decode cX6_readLine 48 = .ok (.aload_n 0, 1) := by decide +kernel
theorem dX6_readLine_49 : decode cX6_readLine 49 = .ok (.iconst 5, 1) := by decide +kernel
theorem dX6_readLine_50 : decode cX6_readLine 50 = .ok (.invokevirtual 91, 3) := by decide +kernel
theorem dX6_readLine_53 : decode cX6_readLine 53 = .ok (.iload_n 1, 1) := by decide +kernel
theorem dX6_readLine_54 : decode cX6_readLine 54 = .ok (.iconst 1, 1) := by decide +kernel
theorem dX6_readLine_55 : decode cX6_readLine 55 = .ok (.if_icmp .le 20, 3) := by decide +kernel
theorem dX6_readLine_58 : decode cX6_readLine 58 = .ok (.aload_n 0, 1) := by decide +kernel
theorem dX6_readLine_59 : decode cX6_readLine 59 = .ok (.getfield 114, 3) := by decide +kernel
theorem dX6_readLine_62 : decode cX6_readLine 62 = .ok (.iload_n 1, 1) := by decide +kernel
theorem dX6_readLine_63 : decode cX6_readLine 63 = .ok (.ishr, 1) := by decide +kernel
theorem dX6_readLine_64 : decode cX6_readLine 64 = .ok (.iconst 1, 1) := by decide +kernel
theorem dX6_readLine_65 : decode cX6_readLine 65 = .ok (.iand, 1) := by decide +kernel
theorem dX6_readLine_66 : decode cX6_readLine 66 = .ok (.iconst 1, 1) := by decide +kernel
theorem dX6_readLine_67 : decode cX6_readLine 67 = .ok (.if_icmp .ne 8, 3) := by decide +kernel
theorem dX6_readLine_70 : decode cX6_readLine 70 = .ok (.aload_n 0, 1) := by decide +kernel
theorem dX6_readLine_71 : decode cX6_readLine 71 = .ok (.iconst 4, 1) := by decide +kernel
theorem dX6_readLine_72 : decode cX6_readLine 72 = .ok (.invokevirtual 91, 3) := by decide +kernel
theorem dX6_readLine_75 : decode cX6_readLine 75 = .ok (.aload_n 0, 1) := by decide +kernel
theorem dX6_readLine_76 : decode cX6_readLine 76 = .ok (.dup, 1) := by decide +kernel
theorem dX6_readLine_77 : decode cX6_readLine 77 = .ok (.getfield 114, 3) := by decide +kernel
theorem dX6_readLine_80 : decode cX6_readLine 80 = .ok (.iconst 1, 1) := by decide +kernel
theorem dX6_readLine_81 : decode cX6_readLine 81 = .ok (.iload_n 1, 1) := by decide +kernel
theorem dX6_readLine_82 : decode cX6_readLine 82 = .ok (.ishl, 1) := by decide +kernel
theorem dX6_readLine_83 : decode cX6_readLine 83 = .ok (.ior, 1) := by decide +kernel
theorem dX6_readLine_84 : decode cX6_readLine 84 = .ok (.putfield 114, 3) := by decide +kernel
theorem dX6_readLine_87 : decode cX6_readLine 87 = .ok (.aload_n 0, 1) := by decide +kernel
theorem dX6_readLine_88 : decode cX6_readLine 88 = .ok (.invokevirtual 95, 3) := by decide +kernel
theorem dX6_readLine_91 : decode cX6_readLine 91 = .ok (.aload_n 0, 1) := by decide +kernel
theorem dX6_readLine_92 : decode cX6_readLine 92 = .ok (.getfield 61, 3) := by decide +kernel
theorem dX6_readLine_95 : decode cX6_readLine 95 = .ok (.ifCond .le 4, 3) := by decide +kernel
theorem dX6_readLine_98 : decode cX6_readLine 98 = .ok (.return_, 1) := by decide +kernel
theorem dX6_readLine_99 : decode cX6_readLine 99 = .ok (.iload_n 1, 1) := by decide +kernel
theorem dX6_readLine_100 : decode cX6_readLine 100 = .ok (.ifCond .ne 54, 3) := by decide +kernel
theorem dX6_readLine_103 : decode cX6_readLine 103 = .ok (.aload_n 0, 1) := by decide +kernel
theorem dX6_readLine_104 : decode cX6_readLine 104 = .ok (.getfield 16, 3) := by decide +kernel
theorem dX6_readLine_107 : decode cX6_readLine 107 = .ok (.iconst 2, 1) := by decide +kernel
theorem dX6_readLine_108 : decode cX6_readLine 108 = .ok (.aload_n 0, 1) := by decide +kernel
theorem dX6_readLine_109 : decode cX6_readLine 109 = .ok (.getfield 111, 3) := by decide +kernel
theorem dX6_readLine_112 : decode cX6_readLine 112 = .ok (.imul, 1) := by decide +kernel
theorem dX6_readLine_113 : decode cX6_readLine 113 = .ok (.iconst 1, 1) := by decide +kernel
theorem dX6_readLine_114 : decode cX6_readLine 114 = .ok (.iadd, 1) := by decide +kernel
theorem dX6_readLine_115 : decode cX6_readLine 115 = .ok (.aload_n 0, 1) := by decide +kernel
theorem dX6_readLine_116 : decode cX6_readLine 116 = .ok (.iconst 0, 1) := by decide +kernel
theorem dX6_readLine_117 : decode cX6_readLine 117 = .ok (.bipush 9, 2) := by decide +kernel
theorem dX6_readLine_119 : decode cX6_readLine 119 = .ok (.invokevirtual 101, 3) := by decide +kernel
theorem dX6_readLine_122 : decode cX6_readLine 122 = .ok (.iastore, 1) := by decide +kernel
theorem dX6_readLine_123 : decode cX6_readLine 123 = .ok (.aload_n 0, 1) := by decide +kernel
theorem dX6_readLine_124 : decode cX6_readLine 124 = .ok (.getfield 16, 3) := by decide +kernel
theorem dX6_readLine_127 : decode cX6_readLine 127 = .ok (.iconst 2, 1) := by decide +kernel
theorem dX6_readLine_128 : decode cX6_readLine 128 = .ok (.aload_n 0, 1) := by decide +kernel
theorem dX6_readLine_129 : decode cX6_readLine 129 = .ok (.getfield 111, 3) := by decide +kernel
theorem dX6_readLine_132 : decode cX6_readLine 132 = .ok (.imul, 1) := by decide +kernel
theorem dX6_readLine_133 : decode cX6_readLine 133 = .ok (.aload_n 0, 1) := by decide +kernel
theorem dX6_readLine_134 : decode cX6_readLine 134 = .ok (.iconst 0, 1) := by decide +kernel
theorem dX6_readLine_135 : decode cX6_readLine 135 = .ok (.bipush 9, 2) := by decide +kernel
theorem dX6_readLine_137 : decode cX6_readLine 137 = .ok (.invokevirtual 101, 3) := by decide +kernel
theorem dX6_readLine_140 : decode cX6_readLine 140 = .ok (.iastore, 1) := by decide +kernel
theorem dX6_readLine_141 : decode cX6_readLine 141 = .ok (.aload_n 0, 1) := by decide +kernel
theorem dX6_readLine_142 : decode cX6_readLine 142 = .ok (.dup, 1) := by decide +kernel
theorem dX6_readLine_143 : decode cX6_readLine 143 = .ok (.getfield 111, 3) := by decide +kernel
theorem dX6_readLine_146 : decode cX6_readLine 146 = .ok (.iconst 1, 1) := by decide +kernel
theorem dX6_readLine_147 : decode cX6_readLine 147 = .ok (.iadd, 1) := by decide +kernel
theorem dX6_readLine_148 : decode cX6_readLine 148 = .ok (.putfield 111, 3) := by decide +kernel
theorem dX6_readLine_151 : decode cX6_readLine 151 = .ok (.goto 20, 3) := by decide +kernel
theorem dX6_readLine_154 : decode cX6_readLine 154 = .ok (.iload_n 1, 1) := by decide +kernel
theorem dX6_readLine_155 : decode cX6_readLine 155 = .ok (.iconst 1, 1) := by decide +kernel
theorem dX6_readLine_156 : decode cX6_readLine 156 = .ok (.if_icmp .ne 10, 3) := by decide +kernel
theorem dX6_readLine_159 : decode cX6_readLine 159 = .ok (.aload_n 0, 1) := by decide +kernel
theorem dX6_readLine_160 : decode cX6_readLine 160 = .ok (.invokevirtual 117, 3) := by decide +kernel
theorem dX6_readLine_163 : decode cX6_readLine 163 = .ok (.goto 8, 3) := by decide +kernel
theorem dX6_readLine_166 : decode cX6_readLine 166 = .ok (.aload_n 0, 1) := by decide +kernel
theorem dX6_readLine_167 : decode cX6_readLine 167 = .ok (.iload_n 1, 1) := by decide +kernel
theorem dX6_readLine_168 : decode cX6_readLine 168 = .ok (.invokevirtual 120, 3) := by decide +kernel
theorem dX6_readLine_171 : decode cX6_readLine 171 = .ok (.aload_n 0, 1) := by decide +kernel
theorem dX6_readLine_172 : decode cX6_readLine 172 = .ok (.getfield 61, 3) := by decide +kernel
theorem dX6_readLine_175 : decode cX6_readLine 175 = .ok (.ifCond .ne 16, 3) := by decide +kernel
theorem dX6_readLine_178 : decode cX6_readLine 178 = .ok (.aload_n 0, 1) := by decide +kernel
theorem dX6_readLine_179 : decode cX6_readLine 179 = .ok (.getfield 70, 3) := by decide +kernel
theorem dX6_readLine_182 : decode cX6_readLine 182 = .ok (.iconst 3, 1) := by decide +kernel
theorem dX6_readLine_183 : decode cX6_readLine 183 = .ok (.if_icmp .eq 8, 3) := by decide +kernel
theorem dX6_readLine_186 : decode cX6_readLine 186 = .ok (.aload_n 0, 1) := by decide +kernel
theorem dX6_readLine_187 : decode cX6_readLine 187 = .ok (.iconst 2, 1) := by decide +kernel
theorem dX6_readLine_188 : decode cX6_readLine 188 = .ok (.invokevirtual 91, 3) := by decide +kernel
theorem dX6_readLine_191 : decode cX6_readLine 191 = .ok (.aload_n 0, 1) := by decide +kernel
theorem dX6_readLine_192 : decode cX6_readLine 192 = .ok (.invokevirtual 95, 3) := by decide +kernel
theorem dX6_readLine_195 : decode cX6_readLine 195 = .ok (.return_, 1) := by decide +kernel
theorem dX6_text_0 : decode cX6_text 0 = .ok (.aload_n 0, 1) := by decide +kernel
theorem dX6_text_1 : decode cX6_text 1 = .ok (.iconst 0, 1) := by decide +kernel
theorem dX6_text_2 : decode cX6_text 2 = .ok (.putfield 61, 3) := by decide +kernel
theorem dX6_text_5 : decode cX6_text 5 = .ok (.aload_n 0, 1) := by decide +kernel
theorem dX6_text_6 : decode cX6_text 6 = .ok (.iconst 0, 1) := by decide +kernel
theorem dX6_text_7 : decode cX6_text 7 = .ok (.putfield 73, 3) := by decide +kernel
theorem dX6_text_10 : decode cX6_text 10 = .ok (.aload_n 0, 1) := by decide +kernel
theorem dX6_text_11 : decode cX6_text 11 = .ok (.iconst 0, 1) := by decide +kernel
theorem dX6_text_12 : decode cX6_text 12 = .ok (.putfield 111, 3) := by decide +kernel
theorem dX6_text_15 : decode cX6_text 15 = .ok (.aload_n 0, 1) := by decide +kernel
theorem dX6_text_16 : decode cX6_text 16 = .ok (.iconst 0, 1) := by decide +kernel
theorem dX6_text_17 : decode cX6_text 17 = .ok (.putfield 98, 3) := by decide +kernel
theorem dX6_text_20 : decode cX6_text 20 = .ok (.aload_n 0, 1) := by decide +kernel
theorem dX6_text_21 : decode cX6_text 21 = .ok (.iconst 0, 1) := by decide +kernel
theorem dX6_text_22 : decode cX6_text 22 = .ok (.putfield 114, 3) := by decide +kernel
theorem dX6_text_25 : decode cX6_text 25 = .ok (.iconst 0, 1) := by decide +kernel
theorem dX6_text_26 : decode cX6_text 26 = .ok (.istore_n 1, 1) := by decide +kernel
theorem dX6_text_27 : decode cX6_text 27 = .ok (.iconst 0, 1) := by decide +kernel
theorem dX6_text_28 : decode cX6_text 28 = .ok (.istore_n 2, 1) := by decide +kernel
theorem dX6_text_29 : decode cX6_text 29 = .ok (.iload_n 2, 1) := by decide +kernel
theorem dX6_text_30 : decode cX6_text 30 = .ok (.bipush 25, 2) := by decide +kernel
theorem dX6_text_32 : decode cX6_text 32 = .ok (.if_icmp .ge 16, 3) := by decide +kernel
theorem dX6_text_35 : decode cX6_text 35 = .ok (.aload_n 0, 1) := by decide +kernel
theorem dX6_text_36 : decode cX6_text 36 = .ok (.getfield 16, 3) := by decide +kernel
theorem dX6_text_39 : decode cX6_text 39 = .ok (.iload_n 2, 1) := by decide +kernel
theorem dX6_text_40 : decode cX6_text 40 = .ok (.iconst 0, 1) := by decide +kernel
theorem dX6_text_41 : decode cX6_text 41 = .ok (.iastore, 1) := by decide +kernel
theorem dX6_text_42 : decode cX6_text 42 = .ok (.iinc 2 1, 3) := by decide +kernel
theorem dX6_text_45 : decode cX6_text 45 = .ok (.goto (-16), 3) := by decide +kernel
theorem dX6_text_48 : decode cX6_text 48 = .ok (.aload_n 0, 1) := by decide +kernel
theorem dX6_text_49 : decode cX6_text 49 = .ok (.invokevirtual 95, 3) := by decide +kernel
theorem dX6_text_52 : decode cX6_text 52 = .ok (.aload_n 0, 1) := by decide +kernel
theorem dX6_text_53 : decode cX6_text 53 = .ok (.getfield 61, 3) := by decide +kernel
theorem dX6_text_56 : decode cX6_text 56 = .ok (.ifCond .ne 20, 3) := by decide +kernel
theorem dX6_text_59 : decode cX6_text 59 = .ok (.aload_n 0, 1) := by decide +kernel
theorem dX6_text_60 : decode cX6_text 60 = .ok (.getfield 70, 3) := by decide +kernel
theorem dX6_text_63 : decode cX6_text 63 = .ok (.ifCond .eq 13, 3) := by decide +kernel
theorem dX6_text_66 : decode cX6_text 66 = .ok (.aload_n 0, 1) := by decide +kernel
theorem dX6_text_67 : decode cX6_text 67 = .ok (.invokevirtual 123, 3) := by decide +kernel
theorem dX6_text_70 : decode cX6_text 70 = .ok (.iinc 1 1, 3) := by decide +kernel
theorem dX6_text_73 : decode cX6_text 73 = .ok (.goto (-21), 3) := by decide +kernel
theorem dX6_text_76 : decode cX6_text 76 = .ok (.aload_n 0, 1) := by decide +kernel
theorem dX6_text_77 : decode cX6_text 77 = .ok (.iconst 0, 1) := by decide +kernel
theorem dX6_text_78 : decode cX6_text 78 = .ok (.putfield 57, 3) := by decide +kernel
theorem dX6_text_81 : decode cX6_text 81 = .ok (.aload_n 0, 1) := by decide +kernel
theorem dX6_text_82 : decode cX6_text 82 = .ok (.aload_n 0, 1) := by decide +kernel
theorem dX6_text_83 : decode cX6_text 83 = .ok (.getfield 61, 3) := by decide +kernel
theorem dX6_text_86 : decode cX6_text 86 = .ok (.putfield 126, 3) := by decide +kernel
theorem dX6_text_89 : decode cX6_text 89 = .ok (.aload_n 0, 1) := by decide +kernel
theorem dX6_text_90 : decode cX6_text 90 = .ok (.getfield 61, 3) := by decide +kernel
theorem dX6_text_93 : decode cX6_text 93 = .ok (.ifCond .le 11, 3) := by decide +kernel
theorem dX6_text_96 : decode cX6_text 96 = .ok (.bipush (-10), 2) := by decide +kernel
theorem dX6_text_98 : decode cX6_text 98 = .ok (.aload_n 0, 1) := by decide +kernel
theorem dX6_text_99 : decode cX6_text 99 = .ok (.getfield 67, 3) := by decide +kernel
theorem dX6_text_102 : decode cX6_text 102 = .ok (.isub, 1) := by decide +kernel
theorem dX6_text_103 : decode cX6_text 103 = .ok (.ireturn, 1) := by decide +kernel
theorem dX6_text_104 : decode cX6_text 104 = .ok (.iconst 0, 1) := by decide +kernel
theorem dX6_text_105 : decode cX6_text 105 = .ok (.istore_n 2, 1) := by decide +kernel
theorem dX6_text_106 : decode cX6_text 106 = .ok (.iload_n 2, 1) := by decide +kernel
theorem dX6_text_107 : decode cX6_text 107 = .ok (.bipush 25, 2) := by decide +kernel
theorem dX6_text_109 : decode cX6_text 109 = .ok (.if_icmp .ge 37, 3) := by decide +kernel
theorem dX6_text_112 : decode cX6_text 112 = .ok (.aload_n 0, 1) := by decide +kernel
theorem dX6_text_113 : decode cX6_text 113 = .ok (.getfield 7, 3) := by decide +kernel
theorem dX6_text_116 : decode cX6_text 116 = .ok (.iload_n 2, 1) := by decide +kernel
theorem dX6_text_117 : decode cX6_text 117 = .ok (.aload_n 0, 1) := by decide +kernel
theorem dX6_text_118 : decode cX6_text 118 = .ok (.getfield 16, 3) := by decide +kernel
theorem dX6_text_121 : decode cX6_text 121 = .ok (.iload_n 2, 1) := by decide +kernel
theorem dX6_text_122 : decode cX6_text 122 = .ok (.iaload, 1) := by decide +kernel
theorem dX6_text_123 : decode cX6_text 123 = .ok (.iastore, 1) := by decide +kernel
theorem dX6_text_124 : decode cX6_text 124 = .ok (.aload_n 0, 1) := by decide +kernel
theorem dX6_text_125 : decode cX6_text 125 = .ok (.getfield 13, 3) := by decide +kernel
theorem dX6_text_128 : decode cX6_text 128 = .ok (.iload_n 2, 1) := by decide +kernel
theorem dX6_text_129 : decode cX6_text 129 = .ok (.iconst 4, 1) := by decide +kernel
theorem dX6_text_130 : decode cX6_text 130 = .ok (.irem, 1) := by decide +kernel
theorem dX6_text_131 : decode cX6_text 131 = .ok (.aload_n 0, 1) := by decide +kernel
theorem dX6_text_132 : decode cX6_text 132 = .ok (.getfield 19, 3) := by decide +kernel
theorem dX6_text_135 : decode cX6_text 135 = .ok (.iload_n 2, 1) := by decide +kernel
theorem dX6_text_136 : decode cX6_text 136 = .ok (.iconst 4, 1) := by decide +kernel
theorem dX6_text_137 : decode cX6_text 137 = .ok (.irem, 1) := by decide +kernel
theorem dX6_text_138 : decode cX6_text 138 = .ok (.iaload, 1) := by decide +kernel
theorem dX6_text_139 : decode cX6_text 139 = .ok (.iastore, 1) := by decide +kernel
theorem dX6_text_140 : decode cX6_text 140 = .ok (.iinc 2 1, 3) := by decide +kernel
theorem dX6_text_143 : decode cX6_text 143 = .ok (.goto (-37), 3) := by decide +kernel
theorem dX6_text_146 : decode cX6_text 146 = .ok (.aload_n 0, 1) := by decide +kernel
theorem dX6_text_147 : decode cX6_text 147 = .ok (.aload_n 0, 1) := by decide +kernel
theorem dX6_text_148 : decode cX6_text 148 = .ok (.getfield 111, 3) := by decide +kernel
theorem dX6_text_151 : decode cX6_text 151 = .ok (.putfield 129, 3) := by decide +kernel
theorem dX6_text_154 : decode cX6_text 154 = .ok (.aload_n 0, 1) := by decide +kernel
theorem dX6_text_155 : decode cX6_text 155 = .ok (.aload_n 0, 1) := by decide +kernel
theorem dX6_text_156 : decode cX6_text 156 = .ok (.getfield 98, 3) := by decide +kernel
theorem dX6_text_159 : decode cX6_text 159 = .ok (.putfield 132, 3) := by decide +kernel
theorem dX6_text_162 : decode cX6_text 162 = .ok (.aload_n 0, 1) := by decide +kernel
theorem dX6_text_163 : decode cX6_text 163 = .ok (.iconst 0, 1) := by decide +kernel
theorem dX6_text_164 : decode cX6_text 164 = .ok (.putfield 135, 3) := by decide +kernel
theorem dX6_text_167 : decode cX6_text 167 = .ok (.aload_n 0, 1) := by decide +kernel
theorem dX6_text_168 : decode cX6_text 168 = .ok (.getfield 38, 3) := by decide +kernel
theorem dX6_text_171 : decode cX6_text 171 = .ok (.iconst 0, 1) := by decide +kernel
theorem dX6_text_172 : decode cX6_text 172 = .ok (.iconst 0, 1) := by decide +kernel
theorem dX6_text_173 : decode cX6_text 173 = .ok (.bastore, 1) := by decide +kernel
theorem dX6_text_174 : decode cX6_text 174 = .ok (.aload_n 0, 1) := by decide +kernel
theorem dX6_text_175 : decode cX6_text 175 = .ok (.getfield 38, 3) := by decide +kernel
theorem dX6_text_178 : decode cX6_text 178 = .ok (.iconst 1, 1) := by decide +kernel
theorem dX6_text_179 : decode cX6_text 179 = .ok (.iconst 0, 1) := by decide +kernel
theorem dX6_text_180 : decode cX6_text 180 = .ok (.bastore, 1) := by decide +kernel
theorem dX6_text_181 : decode cX6_text 181 = .ok (.iload_n 1, 1) := by decide +kernel
theorem dX6_text_182 : decode cX6_text 182 = .ok (.ireturn, 1) := by decide +kernel
theorem dX6_fault_0 : decode cX6_fault 0 = .ok (.aload_n 0, 1) := by decide +kernel
theorem dX6_fault_1 : decode cX6_fault 1 = .ok (.getfield 126, 3) := by decide +kernel
theorem dX6_fault_4 : decode cX6_fault 4 = .ok (.ireturn, 1) := by decide +kernel
theorem dX6_isLand_0 : decode cX6_isLand 0 = .ok (.iload_n 1, 1) := by decide +kernel
theorem dX6_isLand_1 : decode cX6_isLand 1 = .ok (.i2l, 1) := by decide +kernel
theorem dX6_isLand_2 : decode cX6_isLand 2 = .ok (.lconst 0, 1) := by decide +kernel
theorem dX6_isLand_3 : decode cX6_isLand 3 = .ok (.aload_n 0, 1) := by decide +kernel
theorem dX6_isLand_4 : decode cX6_isLand 4 = .ok (.getfield 129, 3) := by decide +kernel
theorem dX6_isLand_7 : decode cX6_isLand 7 = .ok (.iconst 1, 1) := by decide +kernel
theorem dX6_isLand_8 : decode cX6_isLand 8 = .ok (.isub, 1) := by decide +kernel
theorem dX6_isLand_9 : decode cX6_isLand 9 = .ok (.i2l, 1) := by decide +kernel
theorem dX6_isLand_10 : decode cX6_isLand 10 = .ok (.invokestatic 53, 3) := by decide +kernel
theorem dX6_isLand_13 : decode cX6_isLand 13 = .ok (.ireturn, 1) := by decide +kernel
theorem dX6_isReading_0 : decode cX6_isReading 0 = .ok (.iload_n 1, 1) := by decide +kernel
theorem dX6_isReading_1 : decode cX6_isReading 1 = .ok (.i2l, 1) := by decide +kernel
theorem dX6_isReading_2 : decode cX6_isReading 2 = .ok (.lconst 0, 1) := by decide +kernel
theorem dX6_isReading_3 : decode cX6_isReading 3 = .ok (.aload_n 0, 1) := by decide +kernel
theorem dX6_isReading_4 : decode cX6_isReading 4 = .ok (.getfield 132, 3) := by decide +kernel
theorem dX6_isReading_7 : decode cX6_isReading 7 = .ok (.iconst 1, 1) := by decide +kernel
theorem dX6_isReading_8 : decode cX6_isReading 8 = .ok (.isub, 1) := by decide +kernel
theorem dX6_isReading_9 : decode cX6_isReading 9 = .ok (.i2l, 1) := by decide +kernel
theorem dX6_isReading_10 : decode cX6_isReading 10 = .ok (.invokestatic 53, 3) := by decide +kernel
theorem dX6_isReading_13 : decode cX6_isReading 13 = .ok (.ireturn, 1) := by decide +kernel
theorem dX6_isFat_0 : decode cX6_isFat 0 = .ok (.iload_n 0, 1) := by decide +kernel
theorem dX6_isFat_1 : decode cX6_isFat 1 = .ok (.i2l, 1) := by decide +kernel
theorem dX6_isFat_2 : decode cX6_isFat 2 = .ok (.lconst 0, 1) := by decide +kernel
theorem dX6_isFat_3 : decode cX6_isFat 3 = .ok (.lconst 1, 1) := by decide +kernel
theorem dX6_isFat_4 : decode cX6_isFat 4 = .ok (.invokestatic 53, 3) := by decide +kernel
theorem dX6_isFat_7 : decode cX6_isFat 7 = .ok (.ireturn, 1) := by decide +kernel
theorem dX6_capOn_0 : decode cX6_capOn 0 = .ok (.bipush 40, 2) := by decide +kernel
theorem dX6_capOn_2 : decode cX6_capOn 2 = .ok (.aload_n 0, 1) := by decide +kernel
theorem dX6_capOn_3 : decode cX6_capOn 3 = .ok (.getfield 7, 3) := by decide +kernel
theorem dX6_capOn_6 : decode cX6_capOn 6 = .ok (.iload_n 1, 1) := by decide +kernel
theorem dX6_capOn_7 : decode cX6_capOn 7 = .ok (.bipush 14, 2) := by decide +kernel
theorem dX6_capOn_9 : decode cX6_capOn 9 = .ok (.iadd, 1) := by decide +kernel
theorem dX6_capOn_10 : decode cX6_capOn 10 = .ok (.iaload, 1) := by decide +kernel
theorem dX6_capOn_11 : decode cX6_capOn 11 = .ok (.isub, 1) := by decide +kernel
theorem dX6_capOn_12 : decode cX6_capOn 12 = .ok (.ireturn, 1) := by decide +kernel
theorem dX6_rule_0 : decode cX6_rule 0 = .ok (.iload_n 1, 1) := by decide +kernel
theorem dX6_rule_1 : decode cX6_rule 1 = .ok (.tableswitch 119 0 8 #[51, 56, 61, 69, 77, 83, 91, 99, 109], 51) := by decide +kernel
theorem dX6_rule_52 : decode cX6_rule 52 = .ok (.aload_n 0, 1) := by decide +kernel
theorem dX6_rule_53 : decode cX6_rule 53 = .ok (.getfield 129, 3) := by decide +kernel
theorem dX6_rule_56 : decode cX6_rule 56 = .ok (.ireturn, 1) := by decide +kernel
theorem dX6_rule_57 : decode cX6_rule 57 = .ok (.aload_n 0, 1) := by decide +kernel
theorem dX6_rule_58 : decode cX6_rule 58 = .ok (.getfield 132, 3) := by decide +kernel
theorem dX6_rule_61 : decode cX6_rule 61 = .ok (.ireturn, 1) := by decide +kernel
theorem dX6_rule_62 : decode cX6_rule 62 = .ok (.aload_n 0, 1) := by decide +kernel
theorem dX6_rule_63 : decode cX6_rule 63 = .ok (.getfield 7, 3) := by decide +kernel
theorem dX6_rule_66 : decode cX6_rule 66 = .ok (.bipush 12, 2) := by decide +kernel
theorem dX6_rule_68 : decode cX6_rule 68 = .ok (.iaload, 1) := by decide +kernel
theorem dX6_rule_69 : decode cX6_rule 69 = .ok (.ireturn, 1) := by decide +kernel
theorem dX6_rule_70 : decode cX6_rule 70 = .ok (.aload_n 0, 1) := by decide +kernel
theorem dX6_rule_71 : decode cX6_rule 71 = .ok (.getfield 7, 3) := by decide +kernel
theorem dX6_rule_74 : decode cX6_rule 74 = .ok (.bipush 13, 2) := by decide +kernel
theorem dX6_rule_76 : decode cX6_rule 76 = .ok (.iaload, 1) := by decide +kernel
theorem dX6_rule_77 : decode cX6_rule 77 = .ok (.ireturn, 1) := by decide +kernel
theorem dX6_rule_78 : decode cX6_rule 78 = .ok (.aload_n 0, 1) := by decide +kernel
theorem dX6_rule_79 : decode cX6_rule 79 = .ok (.iconst 0, 1) := by decide +kernel
theorem dX6_rule_80 : decode cX6_rule 80 = .ok (.invokevirtual 138, 3) := by decide +kernel
theorem dX6_rule_83 : decode cX6_rule 83 = .ok (.ireturn, 1) := by decide +kernel
theorem dX6_rule_84 : decode cX6_rule 84 = .ok (.aload_n 0, 1) := by decide +kernel
theorem dX6_rule_85 : decode cX6_rule 85 = .ok (.getfield 7, 3) := by decide +kernel
theorem dX6_rule_88 : decode cX6_rule 88 = .ok (.bipush 15, 2) := by decide +kernel
theorem dX6_rule_90 : decode cX6_rule 90 = .ok (.iaload, 1) := by decide +kernel
theorem dX6_rule_91 : decode cX6_rule 91 = .ok (.ireturn, 1) := by decide +kernel
theorem dX6_rule_92 : decode cX6_rule 92 = .ok (.aload_n 0, 1) := by decide +kernel
theorem dX6_rule_93 : decode cX6_rule 93 = .ok (.getfield 7, 3) := by decide +kernel
theorem dX6_rule_96 : decode cX6_rule 96 = .ok (.bipush 16, 2) := by decide +kernel
theorem dX6_rule_98 : decode cX6_rule 98 = .ok (.iaload, 1) := by decide +kernel
theorem dX6_rule_99 : decode cX6_rule 99 = .ok (.ireturn, 1) := by decide +kernel
theorem dX6_rule_100 : decode cX6_rule 100 = .ok (.aload_n 0, 1) := by decide +kernel
theorem dX6_rule_101 : decode cX6_rule 101 = .ok (.getfield 7, 3) := by decide +kernel
theorem dX6_rule_104 : decode cX6_rule 104 = .ok (.bipush 18, 2) := by decide +kernel
theorem dX6_rule_106 : decode cX6_rule 106 = .ok (.iaload, 1) := by decide +kernel
theorem dX6_rule_107 : decode cX6_rule 107 = .ok (.iconst 1, 1) := by decide +kernel
theorem dX6_rule_108 : decode cX6_rule 108 = .ok (.iadd, 1) := by decide +kernel
theorem dX6_rule_109 : decode cX6_rule 109 = .ok (.ireturn, 1) := by decide +kernel
theorem dX6_rule_110 : decode cX6_rule 110 = .ok (.aload_n 0, 1) := by decide +kernel
theorem dX6_rule_111 : decode cX6_rule 111 = .ok (.getfield 7, 3) := by decide +kernel
theorem dX6_rule_114 : decode cX6_rule 114 = .ok (.bipush 17, 2) := by decide +kernel
theorem dX6_rule_116 : decode cX6_rule 116 = .ok (.iaload, 1) := by decide +kernel
theorem dX6_rule_117 : decode cX6_rule 117 = .ok (.iconst 1, 1) := by decide +kernel
theorem dX6_rule_118 : decode cX6_rule 118 = .ok (.iadd, 1) := by decide +kernel
theorem dX6_rule_119 : decode cX6_rule 119 = .ok (.ireturn, 1) := by decide +kernel
theorem dX6_rule_120 : decode cX6_rule 120 = .ok (.iload_n 1, 1) := by decide +kernel
theorem dX6_rule_121 : decode cX6_rule 121 = .ok (.i2l, 1) := by decide +kernel
theorem dX6_rule_122 : decode cX6_rule 122 = .ok (.ldc2_w 141, 3) := by decide +kernel
theorem dX6_rule_125 : decode cX6_rule 125 = .ok (.ldc2_w 143, 3) := by decide +kernel
theorem dX6_rule_128 : decode cX6_rule 128 = .ok (.invokestatic 53, 3) := by decide +kernel
theorem dX6_rule_131 : decode cX6_rule 131 = .ok (.ifCond .eq 18, 3) := by decide +kernel
theorem dX6_rule_134 : decode cX6_rule 134 = .ok (.aload_n 0, 1) := by decide +kernel
theorem dX6_rule_135 : decode cX6_rule 135 = .ok (.getfield 7, 3) := by decide +kernel
theorem dX6_rule_138 : decode cX6_rule 138 = .ok (.bipush 19, 2) := by decide +kernel
theorem dX6_rule_140 : decode cX6_rule 140 = .ok (.iload_n 1, 1) := by decide +kernel
theorem dX6_rule_141 : decode cX6_rule 141 = .ok (.iadd, 1) := by decide +kernel
theorem dX6_rule_142 : decode cX6_rule 142 = .ok (.bipush 9, 2) := by decide +kernel
theorem dX6_rule_144 : decode cX6_rule 144 = .ok (.isub, 1) := by decide +kernel
theorem dX6_rule_145 : decode cX6_rule 145 = .ok (.iaload, 1) := by decide +kernel
theorem dX6_rule_146 : decode cX6_rule 146 = .ok (.goto 33, 3) := by decide +kernel
theorem dX6_rule_149 : decode cX6_rule 149 = .ok (.iload_n 1, 1) := by decide +kernel
theorem dX6_rule_150 : decode cX6_rule 150 = .ok (.i2l, 1) := by decide +kernel
theorem dX6_rule_151 : decode cX6_rule 151 = .ok (.ldc2_w 145, 3) := by decide +kernel
theorem dX6_rule_154 : decode cX6_rule 154 = .ok (.ldc2_w 147, 3) := by decide +kernel
theorem dX6_rule_157 : decode cX6_rule 157 = .ok (.invokestatic 53, 3) := by decide +kernel
theorem dX6_rule_160 : decode cX6_rule 160 = .ok (.ifCond .eq 18, 3) := by decide +kernel
theorem dX6_rule_163 : decode cX6_rule 163 = .ok (.aload_n 0, 1) := by decide +kernel
theorem dX6_rule_164 : decode cX6_rule 164 = .ok (.getfield 7, 3) := by decide +kernel
theorem dX6_rule_167 : decode cX6_rule 167 = .ok (.bipush 23, 2) := by decide +kernel
theorem dX6_rule_169 : decode cX6_rule 169 = .ok (.iload_n 1, 1) := by decide +kernel
theorem dX6_rule_170 : decode cX6_rule 170 = .ok (.iadd, 1) := by decide +kernel
theorem dX6_rule_171 : decode cX6_rule 171 = .ok (.bipush 12, 2) := by decide +kernel
theorem dX6_rule_173 : decode cX6_rule 173 = .ok (.isub, 1) := by decide +kernel
theorem dX6_rule_174 : decode cX6_rule 174 = .ok (.iaload, 1) := by decide +kernel
theorem dX6_rule_175 : decode cX6_rule 175 = .ok (.goto 4, 3) := by decide +kernel
theorem dX6_rule_178 : decode cX6_rule 178 = .ok (.iconst (-1), 1) := by decide +kernel
theorem dX6_rule_179 : decode cX6_rule 179 = .ok (.ireturn, 1) := by decide +kernel
theorem dX6_land_0 : decode cX6_land 0 = .ok (.aload_n 0, 1) := by decide +kernel
theorem dX6_land_1 : decode cX6_land 1 = .ok (.iload_n 1, 1) := by decide +kernel
theorem dX6_land_2 : decode cX6_land 2 = .ok (.invokevirtual 149, 3) := by decide +kernel
theorem dX6_land_5 : decode cX6_land 5 = .ok (.ifCond .eq 26, 3) := by decide +kernel
theorem dX6_land_8 : decode cX6_land 8 = .ok (.iload_n 2, 1) := by decide +kernel
theorem dX6_land_9 : decode cX6_land 9 = .ok (.i2l, 1) := by decide +kernel
theorem dX6_land_10 : decode cX6_land 10 = .ok (.lconst 0, 1) := by decide +kernel
theorem dX6_land_11 : decode cX6_land 11 = .ok (.lconst 1, 1) := by decide +kernel
theorem dX6_land_12 : decode cX6_land 12 = .ok (.invokestatic 53, 3) := by decide +kernel
theorem dX6_land_15 : decode cX6_land 15 = .ok (.ifCond .eq 16, 3) := by decide +kernel
theorem dX6_land_18 : decode cX6_land 18 = .ok (.aload_n 0, 1) := by decide +kernel
theorem dX6_land_19 : decode cX6_land 19 = .ok (.getfield 7, 3) := by decide +kernel
theorem dX6_land_22 : decode cX6_land 22 = .ok (.iconst 2, 1) := by decide +kernel
theorem dX6_land_23 : decode cX6_land 23 = .ok (.iload_n 1, 1) := by decide +kernel
theorem dX6_land_24 : decode cX6_land 24 = .ok (.imul, 1) := by decide +kernel
theorem dX6_land_25 : decode cX6_land 25 = .ok (.iload_n 2, 1) := by decide +kernel
theorem dX6_land_26 : decode cX6_land 26 = .ok (.iadd, 1) := by decide +kernel
theorem dX6_land_27 : decode cX6_land 27 = .ok (.iaload, 1) := by decide +kernel
theorem dX6_land_28 : decode cX6_land 28 = .ok (.goto 4, 3) := by decide +kernel
theorem dX6_land_31 : decode cX6_land 31 = .ok (.iconst (-1), 1) := by decide +kernel
theorem dX6_land_32 : decode cX6_land 32 = .ok (.ireturn, 1) := by decide +kernel
theorem dX6_canBe_0 : decode cX6_canBe 0 = .ok (.iconst 1, 1) := by decide +kernel
theorem dX6_canBe_1 : decode cX6_canBe 1 = .ok (.aload_n 0, 1) := by decide +kernel
theorem dX6_canBe_2 : decode cX6_canBe 2 = .ok (.getfield 7, 3) := by decide +kernel
theorem dX6_canBe_5 : decode cX6_canBe 5 = .ok (.bipush 21, 2) := by decide +kernel
theorem dX6_canBe_7 : decode cX6_canBe 7 = .ok (.iaload, 1) := by decide +kernel
theorem dX6_canBe_8 : decode cX6_canBe 8 = .ok (.ishl, 1) := by decide +kernel
theorem dX6_canBe_9 : decode cX6_canBe 9 = .ok (.iconst 1, 1) := by decide +kernel
theorem dX6_canBe_10 : decode cX6_canBe 10 = .ok (.isub, 1) := by decide +kernel
theorem dX6_canBe_11 : decode cX6_canBe 11 = .ok (.istore_n 2, 1) := by decide +kernel
theorem dX6_canBe_12 : decode cX6_canBe 12 = .ok (.aload_n 0, 1) := by decide +kernel
theorem dX6_canBe_13 : decode cX6_canBe 13 = .ok (.getfield 13, 3) := by decide +kernel
theorem dX6_canBe_16 : decode cX6_canBe 16 = .ok (.iload_n 1, 1) := by decide +kernel
theorem dX6_canBe_17 : decode cX6_canBe 17 = .ok (.iaload, 1) := by decide +kernel
theorem dX6_canBe_18 : decode cX6_canBe 18 = .ok (.iload_n 2, 1) := by decide +kernel
theorem dX6_canBe_19 : decode cX6_canBe 19 = .ok (.iand, 1) := by decide +kernel
theorem dX6_canBe_20 : decode cX6_canBe 20 = .ok (.aload_n 0, 1) := by decide +kernel
theorem dX6_canBe_21 : decode cX6_canBe 21 = .ok (.getfield 7, 3) := by decide +kernel
theorem dX6_canBe_24 : decode cX6_canBe 24 = .ok (.bipush 22, 2) := by decide +kernel
theorem dX6_canBe_26 : decode cX6_canBe 26 = .ok (.iaload, 1) := by decide +kernel
theorem dX6_canBe_27 : decode cX6_canBe 27 = .ok (.if_icmp .ne 7, 3) := by decide +kernel
theorem dX6_canBe_30 : decode cX6_canBe 30 = .ok (.iconst 1, 1) := by decide +kernel
theorem dX6_canBe_31 : decode cX6_canBe 31 = .ok (.goto 4, 3) := by decide +kernel
theorem dX6_canBe_34 : decode cX6_canBe 34 = .ok (.iconst 0, 1) := by decide +kernel
theorem dX6_canBe_35 : decode cX6_canBe 35 = .ok (.ireturn, 1) := by decide +kernel
theorem dX6_reading_0 : decode cX6_reading 0 = .ok (.aload_n 0, 1) := by decide +kernel
theorem dX6_reading_1 : decode cX6_reading 1 = .ok (.iload_n 1, 1) := by decide +kernel
theorem dX6_reading_2 : decode cX6_reading 2 = .ok (.invokevirtual 153, 3) := by decide +kernel
theorem dX6_reading_5 : decode cX6_reading 5 = .ok (.ifCond .ne 5, 3) := by decide +kernel
theorem dX6_reading_8 : decode cX6_reading 8 = .ok (.iconst (-1), 1) := by decide +kernel
theorem dX6_reading_9 : decode cX6_reading 9 = .ok (.ireturn, 1) := by decide +kernel
theorem dX6_reading_10 : decode cX6_reading 10 = .ok (.iload_n 2, 1) := by decide +kernel
theorem dX6_reading_11 : decode cX6_reading 11 = .ok (.i2l, 1) := by decide +kernel
theorem dX6_reading_12 : decode cX6_reading 12 = .ok (.ldc2_w 156, 3) := by decide +kernel
theorem dX6_reading_15 : decode cX6_reading 15 = .ok (.ldc2_w 158, 3) := by decide +kernel
theorem dX6_reading_18 : decode cX6_reading 18 = .ok (.invokestatic 53, 3) := by decide +kernel
theorem dX6_reading_21 : decode cX6_reading 21 = .ok (.ifCond .eq 17, 3) := by decide +kernel
theorem dX6_reading_24 : decode cX6_reading 24 = .ok (.aload_n 0, 1) := by decide +kernel
theorem dX6_reading_25 : decode cX6_reading 25 = .ok (.getfield 13, 3) := by decide +kernel
theorem dX6_reading_28 : decode cX6_reading 28 = .ok (.iload_n 1, 1) := by decide +kernel
theorem dX6_reading_29 : decode cX6_reading 29 = .ok (.iaload, 1) := by decide +kernel
theorem dX6_reading_30 : decode cX6_reading 30 = .ok (.iload_n 2, 1) := by decide +kernel
theorem dX6_reading_31 : decode cX6_reading 31 = .ok (.bipush 10, 2) := by decide +kernel
theorem dX6_reading_33 : decode cX6_reading 33 = .ok (.isub, 1) := by decide +kernel
theorem dX6_reading_34 : decode cX6_reading 34 = .ok (.ishr, 1) := by decide +kernel
theorem dX6_reading_35 : decode cX6_reading 35 = .ok (.iconst 1, 1) := by decide +kernel
theorem dX6_reading_36 : decode cX6_reading 36 = .ok (.iand, 1) := by decide +kernel
theorem dX6_reading_37 : decode cX6_reading 37 = .ok (.ireturn, 1) := by decide +kernel
theorem dX6_reading_38 : decode cX6_reading 38 = .ok (.iload_n 2, 1) := by decide +kernel
theorem dX6_reading_39 : decode cX6_reading 39 = .ok (.ifCond .ne 15, 3) := by decide +kernel
theorem dX6_reading_42 : decode cX6_reading 42 = .ok (.aload_n 0, 1) := by decide +kernel
theorem dX6_reading_43 : decode cX6_reading 43 = .ok (.getfield 7, 3) := by decide +kernel
theorem dX6_reading_46 : decode cX6_reading 46 = .ok (.bipush 8, 2) := by decide +kernel
theorem dX6_reading_48 : decode cX6_reading 48 = .ok (.iload_n 1, 1) := by decide +kernel
theorem dX6_reading_49 : decode cX6_reading 49 = .ok (.iadd, 1) := by decide +kernel
theorem dX6_reading_50 : decode cX6_reading 50 = .ok (.iaload, 1) := by decide +kernel
theorem dX6_reading_51 : decode cX6_reading 51 = .ok (.goto 25, 3) := by decide +kernel
theorem dX6_reading_54 : decode cX6_reading 54 = .ok (.iload_n 2, 1) := by decide +kernel
theorem dX6_reading_55 : decode cX6_reading 55 = .ok (.iconst 1, 1) := by decide +kernel
theorem dX6_reading_56 : decode cX6_reading 56 = .ok (.if_icmp .ne 19, 3) := by decide +kernel
theorem dX6_reading_59 : decode cX6_reading 59 = .ok (.aload_n 0, 1) := by decide +kernel
theorem dX6_reading_60 : decode cX6_reading 60 = .ok (.iload_n 1, 1) := by decide +kernel
theorem dX6_reading_61 : decode cX6_reading 61 = .ok (.invokevirtual 160, 3) := by decide +kernel
theorem dX6_reading_64 : decode cX6_reading 64 = .ok (.ifCond .eq 7, 3) := by decide +kernel
theorem dX6_reading_67 : decode cX6_reading 67 = .ok (.iconst 1, 1) := by decide +kernel
theorem dX6_reading_68 : decode cX6_reading 68 = .ok (.goto 8, 3) := by decide +kernel
theorem dX6_reading_71 : decode cX6_reading 71 = .ok (.iconst 0, 1) := by decide +kernel
theorem dX6_reading_72 : decode cX6_reading 72 = .ok (.goto 4, 3) := by decide +kernel
theorem dX6_reading_75 : decode cX6_reading 75 = .ok (.iconst (-1), 1) := by decide +kernel
theorem dX6_reading_76 : decode cX6_reading 76 = .ok (.ireturn, 1) := by decide +kernel
theorem dX6_bearsOn_0 : decode cX6_bearsOn 0 = .ok (.iconst 0, 1) := by decide +kernel
theorem dX6_bearsOn_1 : decode cX6_bearsOn 1 = .ok (.istore_n 3, 1) := by decide +kernel
theorem dX6_bearsOn_2 : decode cX6_bearsOn 2 = .ok (.iconst 0, 1) := by decide +kernel
theorem dX6_bearsOn_3 : decode cX6_bearsOn 3 = .ok (.istore 4, 2) := by decide +kernel
theorem dX6_bearsOn_5 : decode cX6_bearsOn 5 = .ok (.iload 4, 2) := by decide +kernel
theorem dX6_bearsOn_7 : decode cX6_bearsOn 7 = .ok (.aload_n 0, 1) := by decide +kernel
theorem dX6_bearsOn_8 : decode cX6_bearsOn 8 = .ok (.getfield 129, 3) := by decide +kernel
theorem dX6_bearsOn_11 : decode cX6_bearsOn 11 = .ok (.if_icmp .ge 25, 3) := by decide +kernel
theorem dX6_bearsOn_14 : decode cX6_bearsOn 14 = .ok (.iload_n 3, 1) := by decide +kernel
theorem dX6_bearsOn_15 : decode cX6_bearsOn 15 = .ok (.aload_n 0, 1) := by decide +kernel
theorem dX6_bearsOn_16 : decode cX6_bearsOn 16 = .ok (.getfield 7, 3) := by decide +kernel
theorem dX6_bearsOn_19 : decode cX6_bearsOn 19 = .ok (.iload_n 1, 1) := by decide +kernel
theorem dX6_bearsOn_20 : decode cX6_bearsOn 20 = .ok (.iconst 2, 1) := by decide +kernel
theorem dX6_bearsOn_21 : decode cX6_bearsOn 21 = .ok (.iload 4, 2) := by decide +kernel
theorem dX6_bearsOn_23 : decode cX6_bearsOn 23 = .ok (.imul, 1) := by decide +kernel
theorem dX6_bearsOn_24 : decode cX6_bearsOn 24 = .ok (.iadd, 1) := by decide +kernel
theorem dX6_bearsOn_25 : decode cX6_bearsOn 25 = .ok (.iload_n 2, 1) := by decide +kernel
theorem dX6_bearsOn_26 : decode cX6_bearsOn 26 = .ok (.iadd, 1) := by decide +kernel
theorem dX6_bearsOn_27 : decode cX6_bearsOn 27 = .ok (.iaload, 1) := by decide +kernel
theorem dX6_bearsOn_28 : decode cX6_bearsOn 28 = .ok (.iadd, 1) := by decide +kernel
theorem dX6_bearsOn_29 : decode cX6_bearsOn 29 = .ok (.istore_n 3, 1) := by decide +kernel
theorem dX6_bearsOn_30 : decode cX6_bearsOn 30 = .ok (.iinc 4 1, 3) := by decide +kernel
theorem dX6_bearsOn_33 : decode cX6_bearsOn 33 = .ok (.goto (-28), 3) := by decide +kernel
theorem dX6_bearsOn_36 : decode cX6_bearsOn 36 = .ok (.iload_n 3, 1) := by decide +kernel
theorem dX6_bearsOn_37 : decode cX6_bearsOn 37 = .ok (.ireturn, 1) := by decide +kernel
theorem dX6_bears_0 : decode cX6_bears 0 = .ok (.iload_n 1, 1) := by decide +kernel
theorem dX6_bears_1 : decode cX6_bears 1 = .ok (.invokestatic 163, 3) := by decide +kernel
theorem dX6_bears_4 : decode cX6_bears 4 = .ok (.ifCond .eq 12, 3) := by decide +kernel
theorem dX6_bears_7 : decode cX6_bears 7 = .ok (.aload_n 0, 1) := by decide +kernel
theorem dX6_bears_8 : decode cX6_bears 8 = .ok (.iconst 0, 1) := by decide +kernel
theorem dX6_bears_9 : decode cX6_bears 9 = .ok (.iload_n 1, 1) := by decide +kernel
theorem dX6_bears_10 : decode cX6_bears 10 = .ok (.invokevirtual 166, 3) := by decide +kernel
theorem dX6_bears_13 : decode cX6_bears 13 = .ok (.goto 4, 3) := by decide +kernel
theorem dX6_bears_16 : decode cX6_bears 16 = .ok (.iconst (-1), 1) := by decide +kernel
theorem dX6_bears_17 : decode cX6_bears 17 = .ok (.ireturn, 1) := by decide +kernel
theorem dX6_sets_0 : decode cX6_sets 0 = .ok (.iload_n 1, 1) := by decide +kernel
theorem dX6_sets_1 : decode cX6_sets 1 = .ok (.ifCond .ne 5, 3) := by decide +kernel
theorem dX6_sets_4 : decode cX6_sets 4 = .ok (.iconst (-1), 1) := by decide +kernel
theorem dX6_sets_5 : decode cX6_sets 5 = .ok (.ireturn, 1) := by decide +kernel
theorem dX6_sets_6 : decode cX6_sets 6 = .ok (.aload_n 0, 1) := by decide +kernel
theorem dX6_sets_7 : decode cX6_sets 7 = .ok (.getfield 7, 3) := by decide +kernel
theorem dX6_sets_10 : decode cX6_sets 10 = .ok (.iload_n 2, 1) := by decide +kernel
theorem dX6_sets_11 : decode cX6_sets 11 = .ok (.iaload, 1) := by decide +kernel
theorem dX6_sets_12 : decode cX6_sets 12 = .ok (.istore 4, 2) := by decide +kernel
theorem dX6_sets_14 : decode cX6_sets 14 = .ok (.aload_n 0, 1) := by decide +kernel
theorem dX6_sets_15 : decode cX6_sets 15 = .ok (.getfield 7, 3) := by decide +kernel
theorem dX6_sets_18 : decode cX6_sets 18 = .ok (.iload_n 2, 1) := by decide +kernel
theorem dX6_sets_19 : decode cX6_sets 19 = .ok (.iload_n 3, 1) := by decide +kernel
theorem dX6_sets_20 : decode cX6_sets 20 = .ok (.iastore, 1) := by decide +kernel
theorem dX6_sets_21 : decode cX6_sets 21 = .ok (.iload 4, 2) := by decide +kernel
theorem dX6_sets_23 : decode cX6_sets 23 = .ok (.ireturn, 1) := by decide +kernel
theorem dX6_till_0 : decode cX6_till 0 = .ok (.aload_n 0, 1) := by decide +kernel
theorem dX6_till_1 : decode cX6_till 1 = .ok (.aload_n 0, 1) := by decide +kernel
theorem dX6_till_2 : decode cX6_till 2 = .ok (.iload_n 1, 1) := by decide +kernel
theorem dX6_till_3 : decode cX6_till 3 = .ok (.invokevirtual 149, 3) := by decide +kernel
theorem dX6_till_6 : decode cX6_till 6 = .ok (.ifCond .eq 29, 3) := by decide +kernel
theorem dX6_till_9 : decode cX6_till 9 = .ok (.iload_n 2, 1) := by decide +kernel
theorem dX6_till_10 : decode cX6_till 10 = .ok (.i2l, 1) := by decide +kernel
theorem dX6_till_11 : decode cX6_till 11 = .ok (.lconst 0, 1) := by decide +kernel
theorem dX6_till_12 : decode cX6_till 12 = .ok (.lconst 1, 1) := by decide +kernel
theorem dX6_till_13 : decode cX6_till 13 = .ok (.invokestatic 53, 3) := by decide +kernel
theorem dX6_till_16 : decode cX6_till 16 = .ok (.ifCond .eq 19, 3) := by decide +kernel
theorem dX6_till_19 : decode cX6_till 19 = .ok (.iload_n 3, 1) := by decide +kernel
theorem dX6_till_20 : decode cX6_till 20 = .ok (.i2l, 1) := by decide +kernel
theorem dX6_till_21 : decode cX6_till 21 = .ok (.lconst 0, 1) := by decide +kernel
theorem dX6_till_22 : decode cX6_till 22 = .ok (.ldc2_w 141, 3) := by decide +kernel
theorem dX6_till_25 : decode cX6_till 25 = .ok (.invokestatic 53, 3) := by decide +kernel
theorem dX6_till_28 : decode cX6_till 28 = .ok (.ifCond .eq 7, 3) := by decide +kernel
theorem dX6_till_31 : decode cX6_till 31 = .ok (.iconst 1, 1) := by decide +kernel
theorem dX6_till_32 : decode cX6_till 32 = .ok (.goto 4, 3) := by decide +kernel
theorem dX6_till_35 : decode cX6_till 35 = .ok (.iconst 0, 1) := by decide +kernel
theorem dX6_till_36 : decode cX6_till 36 = .ok (.iconst 2, 1) := by decide +kernel
theorem dX6_till_37 : decode cX6_till 37 = .ok (.iload_n 1, 1) := by decide +kernel
theorem dX6_till_38 : decode cX6_till 38 = .ok (.imul, 1) := by decide +kernel
theorem dX6_till_39 : decode cX6_till 39 = .ok (.iload_n 2, 1) := by decide +kernel
theorem dX6_till_40 : decode cX6_till 40 = .ok (.iadd, 1) := by decide +kernel
theorem dX6_till_41 : decode cX6_till 41 = .ok (.iload_n 3, 1) := by decide +kernel
theorem dX6_till_42 : decode cX6_till 42 = .ok (.invokevirtual 169, 3) := by decide +kernel
theorem dX6_till_45 : decode cX6_till 45 = .ok (.ireturn, 1) := by decide +kernel
theorem dX6_weigh_0 : decode cX6_weigh 0 = .ok (.aload_n 0, 1) := by decide +kernel
theorem dX6_weigh_1 : decode cX6_weigh 1 = .ok (.aload_n 0, 1) := by decide +kernel
theorem dX6_weigh_2 : decode cX6_weigh 2 = .ok (.iload_n 1, 1) := by decide +kernel
theorem dX6_weigh_3 : decode cX6_weigh 3 = .ok (.invokevirtual 153, 3) := by decide +kernel
theorem dX6_weigh_6 : decode cX6_weigh 6 = .ok (.ifCond .eq 19, 3) := by decide +kernel
theorem dX6_weigh_9 : decode cX6_weigh 9 = .ok (.iload_n 2, 1) := by decide +kernel
theorem dX6_weigh_10 : decode cX6_weigh 10 = .ok (.i2l, 1) := by decide +kernel
theorem dX6_weigh_11 : decode cX6_weigh 11 = .ok (.lconst 1, 1) := by decide +kernel
theorem dX6_weigh_12 : decode cX6_weigh 12 = .ok (.ldc2_w 141, 3) := by decide +kernel
theorem dX6_weigh_15 : decode cX6_weigh 15 = .ok (.invokestatic 53, 3) := by decide +kernel
theorem dX6_weigh_18 : decode cX6_weigh 18 = .ok (.ifCond .eq 7, 3) := by decide +kernel
theorem dX6_weigh_21 : decode cX6_weigh 21 = .ok (.iconst 1, 1) := by decide +kernel
theorem dX6_weigh_22 : decode cX6_weigh 22 = .ok (.goto 4, 3) := by decide +kernel
theorem dX6_weigh_25 : decode cX6_weigh 25 = .ok (.iconst 0, 1) := by decide +kernel
theorem dX6_weigh_26 : decode cX6_weigh 26 = .ok (.bipush 8, 2) := by decide +kernel
theorem dX6_weigh_28 : decode cX6_weigh 28 = .ok (.iload_n 1, 1) := by decide +kernel
theorem dX6_weigh_29 : decode cX6_weigh 29 = .ok (.iadd, 1) := by decide +kernel
theorem dX6_weigh_30 : decode cX6_weigh 30 = .ok (.iload_n 2, 1) := by decide +kernel
theorem dX6_weigh_31 : decode cX6_weigh 31 = .ok (.invokevirtual 169, 3) := by decide +kernel
theorem dX6_weigh_34 : decode cX6_weigh 34 = .ok (.ireturn, 1) := by decide +kernel
theorem dX6_need_0 : decode cX6_need 0 = .ok (.aload_n 0, 1) := by decide +kernel
theorem dX6_need_1 : decode cX6_need 1 = .ok (.iload_n 1, 1) := by decide +kernel
theorem dX6_need_2 : decode cX6_need 2 = .ok (.i2l, 1) := by decide +kernel
theorem dX6_need_3 : decode cX6_need 3 = .ok (.lconst 0, 1) := by decide +kernel
theorem dX6_need_4 : decode cX6_need 4 = .ok (.ldc2_w 173, 3) := by decide +kernel
theorem dX6_need_7 : decode cX6_need 7 = .ok (.invokestatic 53, 3) := by decide +kernel
theorem dX6_need_10 : decode cX6_need 10 = .ok (.bipush 12, 2) := by decide +kernel
theorem dX6_need_12 : decode cX6_need 12 = .ok (.iload_n 1, 1) := by decide +kernel
theorem dX6_need_13 : decode cX6_need 13 = .ok (.invokevirtual 169, 3) := by decide +kernel
theorem dX6_need_16 : decode cX6_need 16 = .ok (.ireturn, 1) := by decide +kernel
theorem dX6_hunger_0 : decode cX6_hunger 0 = .ok (.aload_n 0, 1) := by decide +kernel
theorem dX6_hunger_1 : decode cX6_hunger 1 = .ok (.iload_n 1, 1) := by decide +kernel
theorem dX6_hunger_2 : decode cX6_hunger 2 = .ok (.i2l, 1) := by decide +kernel
theorem dX6_hunger_3 : decode cX6_hunger 3 = .ok (.lconst 0, 1) := by decide +kernel
theorem dX6_hunger_4 : decode cX6_hunger 4 = .ok (.ldc2_w 175, 3) := by decide +kernel
theorem dX6_hunger_7 : decode cX6_hunger 7 = .ok (.invokestatic 53, 3) := by decide +kernel
theorem dX6_hunger_10 : decode cX6_hunger 10 = .ok (.bipush 13, 2) := by decide +kernel
theorem dX6_hunger_12 : decode cX6_hunger 12 = .ok (.iload_n 1, 1) := by decide +kernel
theorem dX6_hunger_13 : decode cX6_hunger 13 = .ok (.invokevirtual 169, 3) := by decide +kernel
theorem dX6_hunger_16 : decode cX6_hunger 16 = .ok (.ireturn, 1) := by decide +kernel
theorem dX6_cap_0 : decode cX6_cap 0 = .ok (.iload_n 1, 1) := by decide +kernel
theorem dX6_cap_1 : decode cX6_cap 1 = .ok (.i2l, 1) := by decide +kernel
theorem dX6_cap_2 : decode cX6_cap 2 = .ok (.lconst 0, 1) := by decide +kernel
theorem dX6_cap_3 : decode cX6_cap 3 = .ok (.ldc2_w 173, 3) := by decide +kernel
theorem dX6_cap_6 : decode cX6_cap 6 = .ok (.invokestatic 53, 3) := by decide +kernel
theorem dX6_cap_9 : decode cX6_cap 9 = .ok (.ifCond .ne 5, 3) := by decide +kernel
theorem dX6_cap_12 : decode cX6_cap 12 = .ok (.iconst (-1), 1) := by decide +kernel
theorem dX6_cap_13 : decode cX6_cap 13 = .ok (.ireturn, 1) := by decide +kernel
theorem dX6_cap_14 : decode cX6_cap 14 = .ok (.aload_n 0, 1) := by decide +kernel
theorem dX6_cap_15 : decode cX6_cap 15 = .ok (.getfield 7, 3) := by decide +kernel
theorem dX6_cap_18 : decode cX6_cap 18 = .ok (.bipush 16, 2) := by decide +kernel
theorem dX6_cap_20 : decode cX6_cap 20 = .ok (.iaload, 1) := by decide +kernel
theorem dX6_cap_21 : decode cX6_cap 21 = .ok (.iload_n 1, 1) := by decide +kernel
theorem dX6_cap_22 : decode cX6_cap 22 = .ok (.if_icmp .le 8, 3) := by decide +kernel
theorem dX6_cap_25 : decode cX6_cap 25 = .ok (.bipush (-2), 2) := by decide +kernel
theorem dX6_cap_27 : decode cX6_cap 27 = .ok (.goto 17, 3) := by decide +kernel
theorem dX6_cap_30 : decode cX6_cap 30 = .ok (.bipush 40, 2) := by decide +kernel
theorem dX6_cap_32 : decode cX6_cap 32 = .ok (.aload_n 0, 1) := by decide +kernel
theorem dX6_cap_33 : decode cX6_cap 33 = .ok (.iconst 1, 1) := by decide +kernel
theorem dX6_cap_34 : decode cX6_cap 34 = .ok (.bipush 14, 2) := by decide +kernel
theorem dX6_cap_36 : decode cX6_cap 36 = .ok (.bipush 40, 2) := by decide +kernel
theorem dX6_cap_38 : decode cX6_cap 38 = .ok (.iload_n 1, 1) := by decide +kernel
theorem dX6_cap_39 : decode cX6_cap 39 = .ok (.isub, 1) := by decide +kernel
theorem dX6_cap_40 : decode cX6_cap 40 = .ok (.invokevirtual 169, 3) := by decide +kernel
theorem dX6_cap_43 : decode cX6_cap 43 = .ok (.isub, 1) := by decide +kernel
theorem dX6_cap_44 : decode cX6_cap 44 = .ok (.ireturn, 1) := by decide +kernel
theorem dX6_rot_0 : decode cX6_rot 0 = .ok (.aload_n 0, 1) := by decide +kernel
theorem dX6_rot_1 : decode cX6_rot 1 = .ok (.iload_n 1, 1) := by decide +kernel
theorem dX6_rot_2 : decode cX6_rot 2 = .ok (.i2l, 1) := by decide +kernel
theorem dX6_rot_3 : decode cX6_rot 3 = .ok (.lconst 0, 1) := by decide +kernel
theorem dX6_rot_4 : decode cX6_rot 4 = .ok (.ldc2_w 141, 3) := by decide +kernel
theorem dX6_rot_7 : decode cX6_rot 7 = .ok (.invokestatic 53, 3) := by decide +kernel
theorem dX6_rot_10 : decode cX6_rot 10 = .ok (.ifCond .eq 12, 3) := by decide +kernel
theorem dX6_rot_13 : decode cX6_rot 13 = .ok (.iload_n 1, 1) := by decide +kernel
theorem dX6_rot_14 : decode cX6_rot 14 = .ok (.iconst 1, 1) := by decide +kernel
theorem dX6_rot_15 : decode cX6_rot 15 = .ok (.if_icmp .eq 7, 3) := by decide +kernel
theorem dX6_rot_18 : decode cX6_rot 18 = .ok (.iconst 1, 1) := by decide +kernel
theorem dX6_rot_19 : decode cX6_rot 19 = .ok (.goto 4, 3) := by decide +kernel
theorem dX6_rot_22 : decode cX6_rot 22 = .ok (.iconst 0, 1) := by decide +kernel
theorem dX6_rot_23 : decode cX6_rot 23 = .ok (.bipush 15, 2) := by decide +kernel
theorem dX6_rot_25 : decode cX6_rot 25 = .ok (.iload_n 1, 1) := by decide +kernel
theorem dX6_rot_26 : decode cX6_rot 26 = .ok (.invokevirtual 169, 3) := by decide +kernel
theorem dX6_rot_29 : decode cX6_rot 29 = .ok (.ireturn, 1) := by decide +kernel
theorem dX6_fill_0 : decode cX6_fill 0 = .ok (.aload_n 0, 1) := by decide +kernel
theorem dX6_fill_1 : decode cX6_fill 1 = .ok (.iload_n 1, 1) := by decide +kernel
theorem dX6_fill_2 : decode cX6_fill 2 = .ok (.i2l, 1) := by decide +kernel
theorem dX6_fill_3 : decode cX6_fill 3 = .ok (.lconst 0, 1) := by decide +kernel
theorem dX6_fill_4 : decode cX6_fill 4 = .ok (.aload_n 0, 1) := by decide +kernel
theorem dX6_fill_5 : decode cX6_fill 5 = .ok (.iconst 0, 1) := by decide +kernel
theorem dX6_fill_6 : decode cX6_fill 6 = .ok (.invokevirtual 138, 3) := by decide +kernel
theorem dX6_fill_9 : decode cX6_fill 9 = .ok (.i2l, 1) := by decide +kernel
theorem dX6_fill_10 : decode cX6_fill 10 = .ok (.invokestatic 53, 3) := by decide +kernel
theorem dX6_fill_13 : decode cX6_fill 13 = .ok (.bipush 16, 2) := by decide +kernel
theorem dX6_fill_15 : decode cX6_fill 15 = .ok (.iload_n 1, 1) := by decide +kernel
theorem dX6_fill_16 : decode cX6_fill 16 = .ok (.invokevirtual 169, 3) := by decide +kernel
theorem dX6_fill_19 : decode cX6_fill 19 = .ok (.ireturn, 1) := by decide +kernel
theorem dX6_price_0 : decode cX6_price 0 = .ok (.iload_n 1, 1) := by decide +kernel
theorem dX6_price_1 : decode cX6_price 1 = .ok (.invokestatic 163, 3) := by decide +kernel
theorem dX6_price_4 : decode cX6_price 4 = .ok (.ifCond .eq 32, 3) := by decide +kernel
theorem dX6_price_7 : decode cX6_price 7 = .ok (.iload_n 2, 1) := by decide +kernel
theorem dX6_price_8 : decode cX6_price 8 = .ok (.i2l, 1) := by decide +kernel
theorem dX6_price_9 : decode cX6_price 9 = .ok (.lconst 0, 1) := by decide +kernel
theorem dX6_price_10 : decode cX6_price 10 = .ok (.ldc2_w 141, 3) := by decide +kernel
theorem dX6_price_13 : decode cX6_price 13 = .ok (.invokestatic 53, 3) := by decide +kernel
theorem dX6_price_16 : decode cX6_price 16 = .ok (.ifCond .eq 20, 3) := by decide +kernel
theorem dX6_price_19 : decode cX6_price 19 = .ok (.iconst 1, 1) := by decide +kernel
theorem dX6_price_20 : decode cX6_price 20 = .ok (.aload_n 0, 1) := by decide +kernel
theorem dX6_price_21 : decode cX6_price 21 = .ok (.iconst 1, 1) := by decide +kernel
theorem dX6_price_22 : decode cX6_price 22 = .ok (.bipush 17, 2) := by decide +kernel
theorem dX6_price_24 : decode cX6_price 24 = .ok (.iload_n 1, 1) := by decide +kernel
theorem dX6_price_25 : decode cX6_price 25 = .ok (.iadd, 1) := by decide +kernel
theorem dX6_price_26 : decode cX6_price 26 = .ok (.iload_n 2, 1) := by decide +kernel
theorem dX6_price_27 : decode cX6_price 27 = .ok (.iconst 1, 1) := by decide +kernel
theorem dX6_price_28 : decode cX6_price 28 = .ok (.isub, 1) := by decide +kernel
theorem dX6_price_29 : decode cX6_price 29 = .ok (.invokevirtual 169, 3) := by decide +kernel
theorem dX6_price_32 : decode cX6_price 32 = .ok (.iadd, 1) := by decide +kernel
theorem dX6_price_33 : decode cX6_price 33 = .ok (.goto 4, 3) := by decide +kernel
theorem dX6_price_36 : decode cX6_price 36 = .ok (.iconst (-1), 1) := by decide +kernel
theorem dX6_price_37 : decode cX6_price 37 = .ok (.ireturn, 1) := by decide +kernel
theorem dX6_steward_0 : decode cX6_steward 0 = .ok (.iload_n 1, 1) := by decide +kernel
theorem dX6_steward_1 : decode cX6_steward 1 = .ok (.i2l, 1) := by decide +kernel
theorem dX6_steward_2 : decode cX6_steward 2 = .ok (.lconst 0, 1) := by decide +kernel
theorem dX6_steward_3 : decode cX6_steward 3 = .ok (.ldc2_w 177, 3) := by decide +kernel
theorem dX6_steward_6 : decode cX6_steward 6 = .ok (.invokestatic 53, 3) := by decide +kernel
theorem dX6_steward_9 : decode cX6_steward 9 = .ok (.ifCond .eq 15, 3) := by decide +kernel
theorem dX6_steward_12 : decode cX6_steward 12 = .ok (.iload_n 2, 1) := by decide +kernel
theorem dX6_steward_13 : decode cX6_steward 13 = .ok (.i2l, 1) := by decide +kernel
theorem dX6_steward_14 : decode cX6_steward 14 = .ok (.lconst 0, 1) := by decide +kernel
theorem dX6_steward_15 : decode cX6_steward 15 = .ok (.ldc2_w 141, 3) := by decide +kernel
theorem dX6_steward_18 : decode cX6_steward 18 = .ok (.invokestatic 53, 3) := by decide +kernel
theorem dX6_steward_21 : decode cX6_steward 21 = .ok (.ifCond .ne 5, 3) := by decide +kernel
theorem dX6_steward_24 : decode cX6_steward 24 = .ok (.iconst (-1), 1) := by decide +kernel
theorem dX6_steward_25 : decode cX6_steward 25 = .ok (.ireturn, 1) := by decide +kernel
theorem dX6_steward_26 : decode cX6_steward 26 = .ok (.aload_n 0, 1) := by decide +kernel
theorem dX6_steward_27 : decode cX6_steward 27 = .ok (.getfield 7, 3) := by decide +kernel
theorem dX6_steward_30 : decode cX6_steward 30 = .ok (.bipush 20, 2) := by decide +kernel
theorem dX6_steward_32 : decode cX6_steward 32 = .ok (.iload_n 2, 1) := by decide +kernel
theorem dX6_steward_33 : decode cX6_steward 33 = .ok (.iastore, 1) := by decide +kernel
theorem dX6_steward_34 : decode cX6_steward 34 = .ok (.aload_n 0, 1) := by decide +kernel
theorem dX6_steward_35 : decode cX6_steward 35 = .ok (.iconst 1, 1) := by decide +kernel
theorem dX6_steward_36 : decode cX6_steward 36 = .ok (.bipush 19, 2) := by decide +kernel
theorem dX6_steward_38 : decode cX6_steward 38 = .ok (.iload_n 1, 1) := by decide +kernel
theorem dX6_steward_39 : decode cX6_steward 39 = .ok (.invokevirtual 169, 3) := by decide +kernel
theorem dX6_steward_42 : decode cX6_steward 42 = .ok (.ireturn, 1) := by decide +kernel
theorem dX6_leftOn_0 : decode cX6_leftOn 0 = .ok (.aload_n 0, 1) := by decide +kernel
theorem dX6_leftOn_1 : decode cX6_leftOn 1 = .ok (.getfield 7, 3) := by decide +kernel
theorem dX6_leftOn_4 : decode cX6_leftOn 4 = .ok (.iload_n 1, 1) := by decide +kernel
theorem dX6_leftOn_5 : decode cX6_leftOn 5 = .ok (.bipush 16, 2) := by decide +kernel
theorem dX6_leftOn_7 : decode cX6_leftOn 7 = .ok (.iadd, 1) := by decide +kernel
theorem dX6_leftOn_8 : decode cX6_leftOn 8 = .ok (.iaload, 1) := by decide +kernel
theorem dX6_leftOn_9 : decode cX6_leftOn 9 = .ok (.aload_n 0, 1) := by decide +kernel
theorem dX6_leftOn_10 : decode cX6_leftOn 10 = .ok (.iload_n 1, 1) := by decide +kernel
theorem dX6_leftOn_11 : decode cX6_leftOn 11 = .ok (.iload_n 2, 1) := by decide +kernel
theorem dX6_leftOn_12 : decode cX6_leftOn 12 = .ok (.invokevirtual 166, 3) := by decide +kernel
theorem dX6_leftOn_15 : decode cX6_leftOn 15 = .ok (.iadd, 1) := by decide +kernel
theorem dX6_leftOn_16 : decode cX6_leftOn 16 = .ok (.istore_n 3, 1) := by decide +kernel
theorem dX6_leftOn_17 : decode cX6_leftOn 17 = .ok (.iload_n 3, 1) := by decide +kernel
theorem dX6_leftOn_18 : decode cX6_leftOn 18 = .ok (.aload_n 0, 1) := by decide +kernel
theorem dX6_leftOn_19 : decode cX6_leftOn 19 = .ok (.getfield 7, 3) := by decide +kernel
theorem dX6_leftOn_22 : decode cX6_leftOn 22 = .ok (.iload_n 1, 1) := by decide +kernel
theorem dX6_leftOn_23 : decode cX6_leftOn 23 = .ok (.bipush 12, 2) := by decide +kernel
theorem dX6_leftOn_25 : decode cX6_leftOn 25 = .ok (.iadd, 1) := by decide +kernel
theorem dX6_leftOn_26 : decode cX6_leftOn 26 = .ok (.iaload, 1) := by decide +kernel
theorem dX6_leftOn_27 : decode cX6_leftOn 27 = .ok (.if_icmp .le 17, 3) := by decide +kernel
theorem dX6_leftOn_30 : decode cX6_leftOn 30 = .ok (.iload_n 3, 1) := by decide +kernel
theorem dX6_leftOn_31 : decode cX6_leftOn 31 = .ok (.aload_n 0, 1) := by decide +kernel
theorem dX6_leftOn_32 : decode cX6_leftOn 32 = .ok (.getfield 7, 3) := by decide +kernel
theorem dX6_leftOn_35 : decode cX6_leftOn 35 = .ok (.iload_n 1, 1) := by decide +kernel
theorem dX6_leftOn_36 : decode cX6_leftOn 36 = .ok (.bipush 12, 2) := by decide +kernel
theorem dX6_leftOn_38 : decode cX6_leftOn 38 = .ok (.iadd, 1) := by decide +kernel
theorem dX6_leftOn_39 : decode cX6_leftOn 39 = .ok (.iaload, 1) := by decide +kernel
theorem dX6_leftOn_40 : decode cX6_leftOn 40 = .ok (.isub, 1) := by decide +kernel
theorem dX6_leftOn_41 : decode cX6_leftOn 41 = .ok (.goto 4, 3) := by decide +kernel
theorem dX6_leftOn_44 : decode cX6_leftOn 44 = .ok (.iconst 0, 1) := by decide +kernel
theorem dX6_leftOn_45 : decode cX6_leftOn 45 = .ok (.ireturn, 1) := by decide +kernel
theorem dX6_keepsOn_0 : decode cX6_keepsOn 0 = .ok (.aload_n 0, 1) := by decide +kernel
theorem dX6_keepsOn_1 : decode cX6_keepsOn 1 = .ok (.getfield 7, 3) := by decide +kernel
theorem dX6_keepsOn_4 : decode cX6_keepsOn 4 = .ok (.iload_n 1, 1) := by decide +kernel
theorem dX6_keepsOn_5 : decode cX6_keepsOn 5 = .ok (.bipush 20, 2) := by decide +kernel
theorem dX6_keepsOn_7 : decode cX6_keepsOn 7 = .ok (.iadd, 1) := by decide +kernel
theorem dX6_keepsOn_8 : decode cX6_keepsOn 8 = .ok (.iaload, 1) := by decide +kernel
theorem dX6_keepsOn_9 : decode cX6_keepsOn 9 = .ok (.istore_n 3, 1) := by decide +kernel
theorem dX6_keepsOn_10 : decode cX6_keepsOn 10 = .ok (.iload_n 2, 1) := by decide +kernel
theorem dX6_keepsOn_11 : decode cX6_keepsOn 11 = .ok (.istore 4, 2) := by decide +kernel
theorem dX6_keepsOn_13 : decode cX6_keepsOn 13 = .ok (.aload_n 0, 1) := by decide +kernel
theorem dX6_keepsOn_14 : decode cX6_keepsOn 14 = .ok (.getfield 7, 3) := by decide +kernel
theorem dX6_keepsOn_17 : decode cX6_keepsOn 17 = .ok (.iload_n 1, 1) := by decide +kernel
theorem dX6_keepsOn_18 : decode cX6_keepsOn 18 = .ok (.bipush 19, 2) := by decide +kernel
theorem dX6_keepsOn_20 : decode cX6_keepsOn 20 = .ok (.iadd, 1) := by decide +kernel
theorem dX6_keepsOn_21 : decode cX6_keepsOn 21 = .ok (.iaload, 1) := by decide +kernel
theorem dX6_keepsOn_22 : decode cX6_keepsOn 22 = .ok (.tableswitch 70 1 4 #[30, 40, 48, 54], 30) := by decide +kernel
theorem dX6_keepsOn_52 : decode cX6_keepsOn 52 = .ok (.iload_n 2, 1) := by decide +kernel
theorem dX6_keepsOn_53 : decode cX6_keepsOn 53 = .ok (.iload_n 3, 1) := by decide +kernel
theorem dX6_keepsOn_54 : decode cX6_keepsOn 54 = .ok (.iconst 1, 1) := by decide +kernel
theorem dX6_keepsOn_55 : decode cX6_keepsOn 55 = .ok (.iadd, 1) := by decide +kernel
theorem dX6_keepsOn_56 : decode cX6_keepsOn 56 = .ok (.idiv, 1) := by decide +kernel
theorem dX6_keepsOn_57 : decode cX6_keepsOn 57 = .ok (.istore 4, 2) := by decide +kernel
theorem dX6_keepsOn_59 : decode cX6_keepsOn 59 = .ok (.goto 33, 3) := by decide +kernel
theorem dX6_keepsOn_62 : decode cX6_keepsOn 62 = .ok (.iconst 4, 1) := by decide +kernel
theorem dX6_keepsOn_63 : decode cX6_keepsOn 63 = .ok (.iload_n 3, 1) := by decide +kernel
theorem dX6_keepsOn_64 : decode cX6_keepsOn 64 = .ok (.imul, 1) := by decide +kernel
theorem dX6_keepsOn_65 : decode cX6_keepsOn 65 = .ok (.istore 4, 2) := by decide +kernel
theorem dX6_keepsOn_67 : decode cX6_keepsOn 67 = .ok (.goto 25, 3) := by decide +kernel
theorem dX6_keepsOn_70 : decode cX6_keepsOn 70 = .ok (.iconst 0, 1) := by decide +kernel
theorem dX6_keepsOn_71 : decode cX6_keepsOn 71 = .ok (.istore 4, 2) := by decide +kernel
theorem dX6_keepsOn_73 : decode cX6_keepsOn 73 = .ok (.goto 19, 3) := by decide +kernel
theorem dX6_keepsOn_76 : decode cX6_keepsOn 76 = .ok (.aload_n 0, 1) := by decide +kernel
theorem dX6_keepsOn_77 : decode cX6_keepsOn 77 = .ok (.getfield 7, 3) := by decide +kernel
theorem dX6_keepsOn_80 : decode cX6_keepsOn 80 = .ok (.iload_n 1, 1) := by decide +kernel
theorem dX6_keepsOn_81 : decode cX6_keepsOn 81 = .ok (.bipush 12, 2) := by decide +kernel
theorem dX6_keepsOn_83 : decode cX6_keepsOn 83 = .ok (.iadd, 1) := by decide +kernel
theorem dX6_keepsOn_84 : decode cX6_keepsOn 84 = .ok (.iaload, 1) := by decide +kernel
theorem dX6_keepsOn_85 : decode cX6_keepsOn 85 = .ok (.iload_n 3, 1) := by decide +kernel
theorem dX6_keepsOn_86 : decode cX6_keepsOn 86 = .ok (.imul, 1) := by decide +kernel
theorem dX6_keepsOn_87 : decode cX6_keepsOn 87 = .ok (.istore 4, 2) := by decide +kernel
theorem dX6_keepsOn_89 : decode cX6_keepsOn 89 = .ok (.goto 3, 3) := by decide +kernel
theorem dX6_keepsOn_92 : decode cX6_keepsOn 92 = .ok (.iload 4, 2) := by decide +kernel
theorem dX6_keepsOn_94 : decode cX6_keepsOn 94 = .ok (.iload_n 2, 1) := by decide +kernel
theorem dX6_keepsOn_95 : decode cX6_keepsOn 95 = .ok (.if_icmp .ge 8, 3) := by decide +kernel
theorem dX6_keepsOn_98 : decode cX6_keepsOn 98 = .ok (.iload 4, 2) := by decide +kernel
theorem dX6_keepsOn_100 : decode cX6_keepsOn 100 = .ok (.goto 4, 3) := by decide +kernel
theorem dX6_keepsOn_103 : decode cX6_keepsOn 103 = .ok (.iload_n 2, 1) := by decide +kernel
theorem dX6_keepsOn_104 : decode cX6_keepsOn 104 = .ok (.istore 4, 2) := by decide +kernel
theorem dX6_keepsOn_106 : decode cX6_keepsOn 106 = .ok (.iload 4, 2) := by decide +kernel
theorem dX6_keepsOn_108 : decode cX6_keepsOn 108 = .ok (.aload_n 0, 1) := by decide +kernel
theorem dX6_keepsOn_109 : decode cX6_keepsOn 109 = .ok (.iload_n 1, 1) := by decide +kernel
theorem dX6_keepsOn_110 : decode cX6_keepsOn 110 = .ok (.invokevirtual 138, 3) := by decide +kernel
theorem dX6_keepsOn_113 : decode cX6_keepsOn 113 = .ok (.if_icmp .ge 8, 3) := by decide +kernel
theorem dX6_keepsOn_116 : decode cX6_keepsOn 116 = .ok (.iload 4, 2) := by decide +kernel
theorem dX6_keepsOn_118 : decode cX6_keepsOn 118 = .ok (.goto 8, 3) := by decide +kernel
theorem dX6_keepsOn_121 : decode cX6_keepsOn 121 = .ok (.aload_n 0, 1) := by decide +kernel
theorem dX6_keepsOn_122 : decode cX6_keepsOn 122 = .ok (.iload_n 1, 1) := by decide +kernel
theorem dX6_keepsOn_123 : decode cX6_keepsOn 123 = .ok (.invokevirtual 138, 3) := by decide +kernel
theorem dX6_keepsOn_126 : decode cX6_keepsOn 126 = .ok (.ireturn, 1) := by decide +kernel
theorem dX6_rotted_0 : decode cX6_rotted 0 = .ok (.iload_n 1, 1) := by decide +kernel
theorem dX6_rotted_1 : decode cX6_rotted 1 = .ok (.ifCond .ne 7, 3) := by decide +kernel
theorem dX6_rotted_4 : decode cX6_rotted 4 = .ok (.iload_n 0, 1) := by decide +kernel
theorem dX6_rotted_5 : decode cX6_rotted 5 = .ok (.goto 8, 3) := by decide +kernel
theorem dX6_rotted_8 : decode cX6_rotted 8 = .ok (.iload_n 0, 1) := by decide +kernel
theorem dX6_rotted_9 : decode cX6_rotted 9 = .ok (.iload_n 0, 1) := by decide +kernel
theorem dX6_rotted_10 : decode cX6_rotted 10 = .ok (.iload_n 1, 1) := by decide +kernel
theorem dX6_rotted_11 : decode cX6_rotted 11 = .ok (.idiv, 1) := by decide +kernel
theorem dX6_rotted_12 : decode cX6_rotted 12 = .ok (.isub, 1) := by decide +kernel
theorem dX6_rotted_13 : decode cX6_rotted 13 = .ok (.ireturn, 1) := by decide +kernel
theorem dX6_goesOn_0 : decode cX6_goesOn 0 = .ok (.aload_n 0, 1) := by decide +kernel
theorem dX6_goesOn_1 : decode cX6_goesOn 1 = .ok (.getfield 7, 3) := by decide +kernel
theorem dX6_goesOn_4 : decode cX6_goesOn 4 = .ok (.iload_n 1, 1) := by decide +kernel
theorem dX6_goesOn_5 : decode cX6_goesOn 5 = .ok (.bipush 16, 2) := by decide +kernel
theorem dX6_goesOn_7 : decode cX6_goesOn 7 = .ok (.iadd, 1) := by decide +kernel
theorem dX6_goesOn_8 : decode cX6_goesOn 8 = .ok (.iaload, 1) := by decide +kernel
theorem dX6_goesOn_9 : decode cX6_goesOn 9 = .ok (.aload_n 0, 1) := by decide +kernel
theorem dX6_goesOn_10 : decode cX6_goesOn 10 = .ok (.iload_n 1, 1) := by decide +kernel
theorem dX6_goesOn_11 : decode cX6_goesOn 11 = .ok (.iload_n 2, 1) := by decide +kernel
theorem dX6_goesOn_12 : decode cX6_goesOn 12 = .ok (.invokevirtual 166, 3) := by decide +kernel
theorem dX6_goesOn_15 : decode cX6_goesOn 15 = .ok (.iadd, 1) := by decide +kernel
theorem dX6_goesOn_16 : decode cX6_goesOn 16 = .ok (.istore 4, 2) := by decide +kernel
theorem dX6_goesOn_18 : decode cX6_goesOn 18 = .ok (.iload 4, 2) := by decide +kernel
theorem dX6_goesOn_20 : decode cX6_goesOn 20 = .ok (.aload_n 0, 1) := by decide +kernel
theorem dX6_goesOn_21 : decode cX6_goesOn 21 = .ok (.getfield 7, 3) := by decide +kernel
theorem dX6_goesOn_24 : decode cX6_goesOn 24 = .ok (.iload_n 1, 1) := by decide +kernel
theorem dX6_goesOn_25 : decode cX6_goesOn 25 = .ok (.bipush 12, 2) := by decide +kernel
theorem dX6_goesOn_27 : decode cX6_goesOn 27 = .ok (.iadd, 1) := by decide +kernel
theorem dX6_goesOn_28 : decode cX6_goesOn 28 = .ok (.iaload, 1) := by decide +kernel
theorem dX6_goesOn_29 : decode cX6_goesOn 29 = .ok (.if_icmp .ge 18, 3) := by decide +kernel
theorem dX6_goesOn_32 : decode cX6_goesOn 32 = .ok (.aload_n 0, 1) := by decide +kernel
theorem dX6_goesOn_33 : decode cX6_goesOn 33 = .ok (.getfield 7, 3) := by decide +kernel
theorem dX6_goesOn_36 : decode cX6_goesOn 36 = .ok (.iload_n 1, 1) := by decide +kernel
theorem dX6_goesOn_37 : decode cX6_goesOn 37 = .ok (.bipush 12, 2) := by decide +kernel
theorem dX6_goesOn_39 : decode cX6_goesOn 39 = .ok (.iadd, 1) := by decide +kernel
theorem dX6_goesOn_40 : decode cX6_goesOn 40 = .ok (.iaload, 1) := by decide +kernel
theorem dX6_goesOn_41 : decode cX6_goesOn 41 = .ok (.iload 4, 2) := by decide +kernel
theorem dX6_goesOn_43 : decode cX6_goesOn 43 = .ok (.isub, 1) := by decide +kernel
theorem dX6_goesOn_44 : decode cX6_goesOn 44 = .ok (.goto 4, 3) := by decide +kernel
theorem dX6_goesOn_47 : decode cX6_goesOn 47 = .ok (.iconst 0, 1) := by decide +kernel
theorem dX6_goesOn_48 : decode cX6_goesOn 48 = .ok (.istore 5, 2) := by decide +kernel
theorem dX6_goesOn_50 : decode cX6_goesOn 50 = .ok (.aload_n 0, 1) := by decide +kernel
theorem dX6_goesOn_51 : decode cX6_goesOn 51 = .ok (.getfield 7, 3) := by decide +kernel
theorem dX6_goesOn_54 : decode cX6_goesOn 54 = .ok (.iload_n 1, 1) := by decide +kernel
theorem dX6_goesOn_55 : decode cX6_goesOn 55 = .ok (.bipush 23, 2) := by decide +kernel
theorem dX6_goesOn_57 : decode cX6_goesOn 57 = .ok (.iadd, 1) := by decide +kernel
theorem dX6_goesOn_58 : decode cX6_goesOn 58 = .ok (.dup2, 1) := by decide +kernel
theorem dX6_goesOn_59 : decode cX6_goesOn 59 = .ok (.iaload, 1) := by decide +kernel
theorem dX6_goesOn_60 : decode cX6_goesOn 60 = .ok (.aload_n 0, 1) := by decide +kernel
theorem dX6_goesOn_61 : decode cX6_goesOn 61 = .ok (.iload_n 1, 1) := by decide +kernel
theorem dX6_goesOn_62 : decode cX6_goesOn 62 = .ok (.iload_n 2, 1) := by decide +kernel
theorem dX6_goesOn_63 : decode cX6_goesOn 63 = .ok (.invokevirtual 179, 3) := by decide +kernel
theorem dX6_goesOn_66 : decode cX6_goesOn 66 = .ok (.iload_n 3, 1) := by decide +kernel
theorem dX6_goesOn_67 : decode cX6_goesOn 67 = .ok (.isub, 1) := by decide +kernel
theorem dX6_goesOn_68 : decode cX6_goesOn 68 = .ok (.aload_n 0, 1) := by decide +kernel
theorem dX6_goesOn_69 : decode cX6_goesOn 69 = .ok (.getfield 7, 3) := by decide +kernel
theorem dX6_goesOn_72 : decode cX6_goesOn 72 = .ok (.iload_n 1, 1) := by decide +kernel
theorem dX6_goesOn_73 : decode cX6_goesOn 73 = .ok (.bipush 17, 2) := by decide +kernel
theorem dX6_goesOn_75 : decode cX6_goesOn 75 = .ok (.iadd, 1) := by decide +kernel
theorem dX6_goesOn_76 : decode cX6_goesOn 76 = .ok (.iload_n 2, 1) := by decide +kernel
theorem dX6_goesOn_77 : decode cX6_goesOn 77 = .ok (.iadd, 1) := by decide +kernel
theorem dX6_goesOn_78 : decode cX6_goesOn 78 = .ok (.iaload, 1) := by decide +kernel
theorem dX6_goesOn_79 : decode cX6_goesOn 79 = .ok (.iconst 1, 1) := by decide +kernel
theorem dX6_goesOn_80 : decode cX6_goesOn 80 = .ok (.iadd, 1) := by decide +kernel
theorem dX6_goesOn_81 : decode cX6_goesOn 81 = .ok (.imul, 1) := by decide +kernel
theorem dX6_goesOn_82 : decode cX6_goesOn 82 = .ok (.iadd, 1) := by decide +kernel
theorem dX6_goesOn_83 : decode cX6_goesOn 83 = .ok (.iastore, 1) := by decide +kernel
theorem dX6_goesOn_84 : decode cX6_goesOn 84 = .ok (.aload_n 0, 1) := by decide +kernel
theorem dX6_goesOn_85 : decode cX6_goesOn 85 = .ok (.getfield 7, 3) := by decide +kernel
theorem dX6_goesOn_88 : decode cX6_goesOn 88 = .ok (.iload_n 1, 1) := by decide +kernel
theorem dX6_goesOn_89 : decode cX6_goesOn 89 = .ok (.bipush 24, 2) := by decide +kernel
theorem dX6_goesOn_91 : decode cX6_goesOn 91 = .ok (.iadd, 1) := by decide +kernel
theorem dX6_goesOn_92 : decode cX6_goesOn 92 = .ok (.dup2, 1) := by decide +kernel
theorem dX6_goesOn_93 : decode cX6_goesOn 93 = .ok (.iaload, 1) := by decide +kernel
theorem dX6_goesOn_94 : decode cX6_goesOn 94 = .ok (.iload 5, 2) := by decide +kernel
theorem dX6_goesOn_96 : decode cX6_goesOn 96 = .ok (.iadd, 1) := by decide +kernel
theorem dX6_goesOn_97 : decode cX6_goesOn 97 = .ok (.iastore, 1) := by decide +kernel
theorem dX6_goesOn_98 : decode cX6_goesOn 98 = .ok (.aload_n 0, 1) := by decide +kernel
theorem dX6_goesOn_99 : decode cX6_goesOn 99 = .ok (.getfield 7, 3) := by decide +kernel
theorem dX6_goesOn_102 : decode cX6_goesOn 102 = .ok (.iload_n 1, 1) := by decide +kernel
theorem dX6_goesOn_103 : decode cX6_goesOn 103 = .ok (.bipush 16, 2) := by decide +kernel
theorem dX6_goesOn_105 : decode cX6_goesOn 105 = .ok (.iadd, 1) := by decide +kernel
theorem dX6_goesOn_106 : decode cX6_goesOn 106 = .ok (.iload_n 3, 1) := by decide +kernel
theorem dX6_goesOn_107 : decode cX6_goesOn 107 = .ok (.aload_n 0, 1) := by decide +kernel
theorem dX6_goesOn_108 : decode cX6_goesOn 108 = .ok (.getfield 7, 3) := by decide +kernel
theorem dX6_goesOn_111 : decode cX6_goesOn 111 = .ok (.iload_n 1, 1) := by decide +kernel
theorem dX6_goesOn_112 : decode cX6_goesOn 112 = .ok (.bipush 15, 2) := by decide +kernel
theorem dX6_goesOn_114 : decode cX6_goesOn 114 = .ok (.iadd, 1) := by decide +kernel
theorem dX6_goesOn_115 : decode cX6_goesOn 115 = .ok (.iaload, 1) := by decide +kernel
theorem dX6_goesOn_116 : decode cX6_goesOn 116 = .ok (.invokestatic 182, 3) := by decide +kernel
theorem dX6_goesOn_119 : decode cX6_goesOn 119 = .ok (.iastore, 1) := by decide +kernel
theorem dX6_goesOn_120 : decode cX6_goesOn 120 = .ok (.aload_n 0, 1) := by decide +kernel
theorem dX6_goesOn_121 : decode cX6_goesOn 121 = .ok (.getfield 7, 3) := by decide +kernel
theorem dX6_goesOn_124 : decode cX6_goesOn 124 = .ok (.iload_n 1, 1) := by decide +kernel
theorem dX6_goesOn_125 : decode cX6_goesOn 125 = .ok (.bipush 22, 2) := by decide +kernel
theorem dX6_goesOn_127 : decode cX6_goesOn 127 = .ok (.iadd, 1) := by decide +kernel
theorem dX6_goesOn_128 : decode cX6_goesOn 128 = .ok (.dup2, 1) := by decide +kernel
theorem dX6_goesOn_129 : decode cX6_goesOn 129 = .ok (.iaload, 1) := by decide +kernel
theorem dX6_goesOn_130 : decode cX6_goesOn 130 = .ok (.iload_n 2, 1) := by decide +kernel
theorem dX6_goesOn_131 : decode cX6_goesOn 131 = .ok (.aload_n 0, 1) := by decide +kernel
theorem dX6_goesOn_132 : decode cX6_goesOn 132 = .ok (.getfield 7, 3) := by decide +kernel
theorem dX6_goesOn_135 : decode cX6_goesOn 135 = .ok (.iload_n 1, 1) := by decide +kernel
theorem dX6_goesOn_136 : decode cX6_goesOn 136 = .ok (.bipush 21, 2) := by decide +kernel
theorem dX6_goesOn_138 : decode cX6_goesOn 138 = .ok (.iadd, 1) := by decide +kernel
theorem dX6_goesOn_139 : decode cX6_goesOn 139 = .ok (.iaload, 1) := by decide +kernel
theorem dX6_goesOn_140 : decode cX6_goesOn 140 = .ok (.ishl, 1) := by decide +kernel
theorem dX6_goesOn_141 : decode cX6_goesOn 141 = .ok (.ior, 1) := by decide +kernel
theorem dX6_goesOn_142 : decode cX6_goesOn 142 = .ok (.iastore, 1) := by decide +kernel
theorem dX6_goesOn_143 : decode cX6_goesOn 143 = .ok (.aload_n 0, 1) := by decide +kernel
theorem dX6_goesOn_144 : decode cX6_goesOn 144 = .ok (.getfield 7, 3) := by decide +kernel
theorem dX6_goesOn_147 : decode cX6_goesOn 147 = .ok (.iload_n 1, 1) := by decide +kernel
theorem dX6_goesOn_148 : decode cX6_goesOn 148 = .ok (.bipush 21, 2) := by decide +kernel
theorem dX6_goesOn_150 : decode cX6_goesOn 150 = .ok (.iadd, 1) := by decide +kernel
theorem dX6_goesOn_151 : decode cX6_goesOn 151 = .ok (.dup2, 1) := by decide +kernel
theorem dX6_goesOn_152 : decode cX6_goesOn 152 = .ok (.iaload, 1) := by decide +kernel
theorem dX6_goesOn_153 : decode cX6_goesOn 153 = .ok (.iconst 1, 1) := by decide +kernel
theorem dX6_goesOn_154 : decode cX6_goesOn 154 = .ok (.iadd, 1) := by decide +kernel
theorem dX6_goesOn_155 : decode cX6_goesOn 155 = .ok (.iastore, 1) := by decide +kernel
theorem dX6_goesOn_156 : decode cX6_goesOn 156 = .ok (.iload 5, 2) := by decide +kernel
theorem dX6_goesOn_158 : decode cX6_goesOn 158 = .ok (.ireturn, 1) := by decide +kernel
theorem dX6_goes_0 : decode cX6_goes 0 = .ok (.iload_n 1, 1) := by decide +kernel
theorem dX6_goes_1 : decode cX6_goes 1 = .ok (.invokestatic 163, 3) := by decide +kernel
theorem dX6_goes_4 : decode cX6_goes 4 = .ok (.ifCond .eq 28, 3) := by decide +kernel
theorem dX6_goes_7 : decode cX6_goes 7 = .ok (.iload_n 2, 1) := by decide +kernel
theorem dX6_goes_8 : decode cX6_goes 8 = .ok (.i2l, 1) := by decide +kernel
theorem dX6_goes_9 : decode cX6_goes 9 = .ok (.lconst 0, 1) := by decide +kernel
theorem dX6_goes_10 : decode cX6_goes 10 = .ok (.aload_n 0, 1) := by decide +kernel
theorem dX6_goes_11 : decode cX6_goes 11 = .ok (.iconst 0, 1) := by decide +kernel
theorem dX6_goes_12 : decode cX6_goes 12 = .ok (.invokevirtual 138, 3) := by decide +kernel
theorem dX6_goes_15 : decode cX6_goes 15 = .ok (.i2l, 1) := by decide +kernel
theorem dX6_goes_16 : decode cX6_goes 16 = .ok (.invokestatic 53, 3) := by decide +kernel
theorem dX6_goes_19 : decode cX6_goes 19 = .ok (.ifCond .eq 13, 3) := by decide +kernel
theorem dX6_goes_22 : decode cX6_goes 22 = .ok (.iload_n 2, 1) := by decide +kernel
theorem dX6_goes_23 : decode cX6_goes 23 = .ok (.aload_n 0, 1) := by decide +kernel
theorem dX6_goes_24 : decode cX6_goes 24 = .ok (.iconst 0, 1) := by decide +kernel
theorem dX6_goes_25 : decode cX6_goes 25 = .ok (.iload_n 1, 1) := by decide +kernel
theorem dX6_goes_26 : decode cX6_goes 26 = .ok (.invokevirtual 179, 3) := by decide +kernel
theorem dX6_goes_29 : decode cX6_goes 29 = .ok (.if_icmp .le 5, 3) := by decide +kernel
theorem dX6_goes_32 : decode cX6_goes 32 = .ok (.iconst (-1), 1) := by decide +kernel
theorem dX6_goes_33 : decode cX6_goes 33 = .ok (.ireturn, 1) := by decide +kernel
theorem dX6_goes_34 : decode cX6_goes 34 = .ok (.aload_n 0, 1) := by decide +kernel
theorem dX6_goes_35 : decode cX6_goes 35 = .ok (.getfield 7, 3) := by decide +kernel
theorem dX6_goes_38 : decode cX6_goes 38 = .ok (.bipush 21, 2) := by decide +kernel
theorem dX6_goes_40 : decode cX6_goes 40 = .ok (.iaload, 1) := by decide +kernel
theorem dX6_goes_41 : decode cX6_goes 41 = .ok (.bipush 8, 2) := by decide +kernel
theorem dX6_goes_43 : decode cX6_goes 43 = .ok (.if_icmp .ne 8, 3) := by decide +kernel
theorem dX6_goes_46 : decode cX6_goes 46 = .ok (.bipush (-3), 2) := by decide +kernel
theorem dX6_goes_48 : decode cX6_goes 48 = .ok (.goto 10, 3) := by decide +kernel
theorem dX6_goes_51 : decode cX6_goes 51 = .ok (.aload_n 0, 1) := by decide +kernel
theorem dX6_goes_52 : decode cX6_goes 52 = .ok (.iconst 0, 1) := by decide +kernel
theorem dX6_goes_53 : decode cX6_goes 53 = .ok (.iload_n 1, 1) := by decide +kernel
theorem dX6_goes_54 : decode cX6_goes 54 = .ok (.iload_n 2, 1) := by decide +kernel
theorem dX6_goes_55 : decode cX6_goes 55 = .ok (.invokevirtual 185, 3) := by decide +kernel
theorem dX6_goes_58 : decode cX6_goes 58 = .ok (.ireturn, 1) := by decide +kernel
theorem dX6_go_0 : decode cX6_go 0 = .ok (.aload_n 0, 1) := by decide +kernel
theorem dX6_go_1 : decode cX6_go 1 = .ok (.iload_n 1, 1) := by decide +kernel
theorem dX6_go_2 : decode cX6_go 2 = .ok (.iload_n 2, 1) := by decide +kernel
theorem dX6_go_3 : decode cX6_go 3 = .ok (.invokevirtual 189, 3) := by decide +kernel
theorem dX6_go_6 : decode cX6_go 6 = .ok (.ireturn, 1) := by decide +kernel
theorem dX6_year_0 : decode cX6_year 0 = .ok (.iload_n 1, 1) := by decide +kernel
theorem dX6_year_1 : decode cX6_year 1 = .ok (.invokestatic 163, 3) := by decide +kernel
theorem dX6_year_4 : decode cX6_year 4 = .ok (.ifCond .ne 5, 3) := by decide +kernel
theorem dX6_year_7 : decode cX6_year 7 = .ok (.iconst (-1), 1) := by decide +kernel
theorem dX6_year_8 : decode cX6_year 8 = .ok (.ireturn, 1) := by decide +kernel
theorem dX6_year_9 : decode cX6_year 9 = .ok (.aload_n 0, 1) := by decide +kernel
theorem dX6_year_10 : decode cX6_year 10 = .ok (.getfield 7, 3) := by decide +kernel
theorem dX6_year_13 : decode cX6_year 13 = .ok (.bipush 21, 2) := by decide +kernel
theorem dX6_year_15 : decode cX6_year 15 = .ok (.iaload, 1) := by decide +kernel
theorem dX6_year_16 : decode cX6_year 16 = .ok (.bipush 8, 2) := by decide +kernel
theorem dX6_year_18 : decode cX6_year 18 = .ok (.if_icmp .ne 8, 3) := by decide +kernel
theorem dX6_year_21 : decode cX6_year 21 = .ok (.bipush (-3), 2) := by decide +kernel
theorem dX6_year_23 : decode cX6_year 23 = .ok (.goto 20, 3) := by decide +kernel
theorem dX6_year_26 : decode cX6_year 26 = .ok (.aload_n 0, 1) := by decide +kernel
theorem dX6_year_27 : decode cX6_year 27 = .ok (.iconst 0, 1) := by decide +kernel
theorem dX6_year_28 : decode cX6_year 28 = .ok (.iload_n 1, 1) := by decide +kernel
theorem dX6_year_29 : decode cX6_year 29 = .ok (.aload_n 0, 1) := by decide +kernel
theorem dX6_year_30 : decode cX6_year 30 = .ok (.iconst 0, 1) := by decide +kernel
theorem dX6_year_31 : decode cX6_year 31 = .ok (.aload_n 0, 1) := by decide +kernel
theorem dX6_year_32 : decode cX6_year 32 = .ok (.iconst 0, 1) := by decide +kernel
theorem dX6_year_33 : decode cX6_year 33 = .ok (.iload_n 1, 1) := by decide +kernel
theorem dX6_year_34 : decode cX6_year 34 = .ok (.invokevirtual 179, 3) := by decide +kernel
theorem dX6_year_37 : decode cX6_year 37 = .ok (.invokevirtual 192, 3) := by decide +kernel
theorem dX6_year_40 : decode cX6_year 40 = .ok (.invokevirtual 185, 3) := by decide +kernel
theorem dX6_year_43 : decode cX6_year 43 = .ok (.ireturn, 1) := by decide +kernel
theorem dX6_keeps_0 : decode cX6_keeps 0 = .ok (.iload_n 1, 1) := by decide +kernel
theorem dX6_keeps_1 : decode cX6_keeps 1 = .ok (.i2l, 1) := by decide +kernel
theorem dX6_keeps_2 : decode cX6_keeps 2 = .ok (.lconst 0, 1) := by decide +kernel
theorem dX6_keeps_3 : decode cX6_keeps 3 = .ok (.ldc2_w 195, 3) := by decide +kernel
theorem dX6_keeps_6 : decode cX6_keeps 6 = .ok (.invokestatic 53, 3) := by decide +kernel
theorem dX6_keeps_9 : decode cX6_keeps 9 = .ok (.ifCond .eq 12, 3) := by decide +kernel
theorem dX6_keeps_12 : decode cX6_keeps 12 = .ok (.aload_n 0, 1) := by decide +kernel
theorem dX6_keeps_13 : decode cX6_keeps 13 = .ok (.iconst 0, 1) := by decide +kernel
theorem dX6_keeps_14 : decode cX6_keeps 14 = .ok (.iload_n 1, 1) := by decide +kernel
theorem dX6_keeps_15 : decode cX6_keeps 15 = .ok (.invokevirtual 192, 3) := by decide +kernel
theorem dX6_keeps_18 : decode cX6_keeps 18 = .ok (.goto 4, 3) := by decide +kernel
theorem dX6_keeps_21 : decode cX6_keeps 21 = .ok (.iconst (-1), 1) := by decide +kernel
theorem dX6_keeps_22 : decode cX6_keeps 22 = .ok (.ireturn, 1) := by decide +kernel
theorem dX6_copies_0 : decode cX6_copies 0 = .ok (.iconst 0, 1) := by decide +kernel
theorem dX6_copies_1 : decode cX6_copies 1 = .ok (.istore_n 3, 1) := by decide +kernel
theorem dX6_copies_2 : decode cX6_copies 2 = .ok (.iload_n 3, 1) := by decide +kernel
theorem dX6_copies_3 : decode cX6_copies 3 = .ok (.bipush 25, 2) := by decide +kernel
theorem dX6_copies_5 : decode cX6_copies 5 = .ok (.if_icmp .ge 25, 3) := by decide +kernel
theorem dX6_copies_8 : decode cX6_copies 8 = .ok (.aload_n 0, 1) := by decide +kernel
theorem dX6_copies_9 : decode cX6_copies 9 = .ok (.getfield 7, 3) := by decide +kernel
theorem dX6_copies_12 : decode cX6_copies 12 = .ok (.iload_n 2, 1) := by decide +kernel
theorem dX6_copies_13 : decode cX6_copies 13 = .ok (.iload_n 3, 1) := by decide +kernel
theorem dX6_copies_14 : decode cX6_copies 14 = .ok (.iadd, 1) := by decide +kernel
theorem dX6_copies_15 : decode cX6_copies 15 = .ok (.aload_n 0, 1) := by decide +kernel
theorem dX6_copies_16 : decode cX6_copies 16 = .ok (.getfield 7, 3) := by decide +kernel
theorem dX6_copies_19 : decode cX6_copies 19 = .ok (.iload_n 1, 1) := by decide +kernel
theorem dX6_copies_20 : decode cX6_copies 20 = .ok (.iload_n 3, 1) := by decide +kernel
theorem dX6_copies_21 : decode cX6_copies 21 = .ok (.iadd, 1) := by decide +kernel
theorem dX6_copies_22 : decode cX6_copies 22 = .ok (.iaload, 1) := by decide +kernel
theorem dX6_copies_23 : decode cX6_copies 23 = .ok (.iastore, 1) := by decide +kernel
theorem dX6_copies_24 : decode cX6_copies 24 = .ok (.iinc 3 1, 3) := by decide +kernel
theorem dX6_copies_27 : decode cX6_copies 27 = .ok (.goto (-25), 3) := by decide +kernel
theorem dX6_copies_30 : decode cX6_copies 30 = .ok (.return_, 1) := by decide +kernel
theorem dX6_triesOne_0 : decode cX6_triesOne 0 = .ok (.aload_n 0, 1) := by decide +kernel
theorem dX6_triesOne_1 : decode cX6_triesOne 1 = .ok (.getfield 7, 3) := by decide +kernel
theorem dX6_triesOne_4 : decode cX6_triesOne 4 = .ok (.bipush 121, 2) := by decide +kernel
theorem dX6_triesOne_6 : decode cX6_triesOne 6 = .ok (.iaload, 1) := by decide +kernel
theorem dX6_triesOne_7 : decode cX6_triesOne 7 = .ok (.bipush 8, 2) := by decide +kernel
theorem dX6_triesOne_9 : decode cX6_triesOne 9 = .ok (.if_icmp .ne 5, 3) := by decide +kernel
theorem dX6_triesOne_12 : decode cX6_triesOne 12 = .ok (.iconst 0, 1) := by decide +kernel
theorem dX6_triesOne_13 : decode cX6_triesOne 13 = .ok (.ireturn, 1) := by decide +kernel
theorem dX6_triesOne_14 : decode cX6_triesOne 14 = .ok (.aload_n 0, 1) := by decide +kernel
theorem dX6_triesOne_15 : decode cX6_triesOne 15 = .ok (.getfield 13, 3) := by decide +kernel
theorem dX6_triesOne_18 : decode cX6_triesOne 18 = .ok (.iload_n 1, 1) := by decide +kernel
theorem dX6_triesOne_19 : decode cX6_triesOne 19 = .ok (.iaload, 1) := by decide +kernel
theorem dX6_triesOne_20 : decode cX6_triesOne 20 = .ok (.aload_n 0, 1) := by decide +kernel
theorem dX6_triesOne_21 : decode cX6_triesOne 21 = .ok (.getfield 7, 3) := by decide +kernel
theorem dX6_triesOne_24 : decode cX6_triesOne 24 = .ok (.bipush 121, 2) := by decide +kernel
theorem dX6_triesOne_26 : decode cX6_triesOne 26 = .ok (.iaload, 1) := by decide +kernel
theorem dX6_triesOne_27 : decode cX6_triesOne 27 = .ok (.ishr, 1) := by decide +kernel
theorem dX6_triesOne_28 : decode cX6_triesOne 28 = .ok (.iconst 1, 1) := by decide +kernel
theorem dX6_triesOne_29 : decode cX6_triesOne 29 = .ok (.iand, 1) := by decide +kernel
theorem dX6_triesOne_30 : decode cX6_triesOne 30 = .ok (.istore_n 2, 1) := by decide +kernel
theorem dX6_triesOne_31 : decode cX6_triesOne 31 = .ok (.aload_n 0, 1) := by decide +kernel
theorem dX6_triesOne_32 : decode cX6_triesOne 32 = .ok (.bipush 100, 2) := by decide +kernel
theorem dX6_triesOne_34 : decode cX6_triesOne 34 = .ok (.iload_n 2, 1) := by decide +kernel
theorem dX6_triesOne_35 : decode cX6_triesOne 35 = .ok (.aload_n 0, 1) := by decide +kernel
theorem dX6_triesOne_36 : decode cX6_triesOne 36 = .ok (.bipush 100, 2) := by decide +kernel
theorem dX6_triesOne_38 : decode cX6_triesOne 38 = .ok (.aload_n 0, 1) := by decide +kernel
theorem dX6_triesOne_39 : decode cX6_triesOne 39 = .ok (.bipush 100, 2) := by decide +kernel
theorem dX6_triesOne_41 : decode cX6_triesOne 41 = .ok (.iload_n 2, 1) := by decide +kernel
theorem dX6_triesOne_42 : decode cX6_triesOne 42 = .ok (.invokevirtual 179, 3) := by decide +kernel
theorem dX6_triesOne_45 : decode cX6_triesOne 45 = .ok (.invokevirtual 192, 3) := by decide +kernel
theorem dX6_triesOne_48 : decode cX6_triesOne 48 = .ok (.invokevirtual 185, 3) := by decide +kernel
theorem dX6_triesOne_51 : decode cX6_triesOne 51 = .ok (.ireturn, 1) := by decide +kernel
theorem dX6_ahead_0 : decode cX6_ahead 0 = .ok (.aload_n 0, 1) := by decide +kernel
theorem dX6_ahead_1 : decode cX6_ahead 1 = .ok (.iload_n 1, 1) := by decide +kernel
theorem dX6_ahead_2 : decode cX6_ahead 2 = .ok (.invokevirtual 153, 3) := by decide +kernel
theorem dX6_ahead_5 : decode cX6_ahead 5 = .ok (.ifCond .eq 27, 3) := by decide +kernel
theorem dX6_ahead_8 : decode cX6_ahead 8 = .ok (.iload_n 2, 1) := by decide +kernel
theorem dX6_ahead_9 : decode cX6_ahead 9 = .ok (.i2l, 1) := by decide +kernel
theorem dX6_ahead_10 : decode cX6_ahead 10 = .ok (.lconst 0, 1) := by decide +kernel
theorem dX6_ahead_11 : decode cX6_ahead 11 = .ok (.ldc2_w 197, 3) := by decide +kernel
theorem dX6_ahead_14 : decode cX6_ahead 14 = .ok (.invokestatic 53, 3) := by decide +kernel
theorem dX6_ahead_17 : decode cX6_ahead 17 = .ok (.ifCond .eq 15, 3) := by decide +kernel
theorem dX6_ahead_20 : decode cX6_ahead 20 = .ok (.iload_n 3, 1) := by decide +kernel
theorem dX6_ahead_21 : decode cX6_ahead 21 = .ok (.i2l, 1) := by decide +kernel
theorem dX6_ahead_22 : decode cX6_ahead 22 = .ok (.lconst 0, 1) := by decide +kernel
theorem dX6_ahead_23 : decode cX6_ahead 23 = .ok (.ldc2_w 199, 3) := by decide +kernel
theorem dX6_ahead_26 : decode cX6_ahead 26 = .ok (.invokestatic 53, 3) := by decide +kernel
theorem dX6_ahead_29 : decode cX6_ahead 29 = .ok (.ifCond .ne 5, 3) := by decide +kernel
theorem dX6_ahead_32 : decode cX6_ahead 32 = .ok (.iconst (-1), 1) := by decide +kernel
theorem dX6_ahead_33 : decode cX6_ahead 33 = .ok (.ireturn, 1) := by decide +kernel
theorem dX6_ahead_34 : decode cX6_ahead 34 = .ok (.aload_n 0, 1) := by decide +kernel
theorem dX6_ahead_35 : decode cX6_ahead 35 = .ok (.iconst 0, 1) := by decide +kernel
theorem dX6_ahead_36 : decode cX6_ahead 36 = .ok (.bipush 100, 2) := by decide +kernel
theorem dX6_ahead_38 : decode cX6_ahead 38 = .ok (.invokevirtual 201, 3) := by decide +kernel
theorem dX6_ahead_41 : decode cX6_ahead 41 = .ok (.iconst 0, 1) := by decide +kernel
theorem dX6_ahead_42 : decode cX6_ahead 42 = .ok (.istore 4, 2) := by decide +kernel
theorem dX6_ahead_44 : decode cX6_ahead 44 = .ok (.iload 4, 2) := by decide +kernel
theorem dX6_ahead_46 : decode cX6_ahead 46 = .ok (.iload_n 2, 1) := by decide +kernel
theorem dX6_ahead_47 : decode cX6_ahead 47 = .ok (.if_icmp .ge 15, 3) := by decide +kernel
theorem dX6_ahead_50 : decode cX6_ahead 50 = .ok (.aload_n 0, 1) := by decide +kernel
theorem dX6_ahead_51 : decode cX6_ahead 51 = .ok (.iload_n 1, 1) := by decide +kernel
theorem dX6_ahead_52 : decode cX6_ahead 52 = .ok (.invokevirtual 205, 3) := by decide +kernel
theorem dX6_ahead_55 : decode cX6_ahead 55 = .ok (.pop, 1) := by decide +kernel
theorem dX6_ahead_56 : decode cX6_ahead 56 = .ok (.iinc 4 1, 3) := by decide +kernel
theorem dX6_ahead_59 : decode cX6_ahead 59 = .ok (.goto (-15), 3) := by decide +kernel
theorem dX6_ahead_62 : decode cX6_ahead 62 = .ok (.iload_n 3, 1) := by decide +kernel
theorem dX6_ahead_63 : decode cX6_ahead 63 = .ok (.ifCond .ne 13, 3) := by decide +kernel
theorem dX6_ahead_66 : decode cX6_ahead 66 = .ok (.aload_n 0, 1) := by decide +kernel
theorem dX6_ahead_67 : decode cX6_ahead 67 = .ok (.getfield 7, 3) := by decide +kernel
theorem dX6_ahead_70 : decode cX6_ahead 70 = .ok (.bipush 116, 2) := by decide +kernel
theorem dX6_ahead_72 : decode cX6_ahead 72 = .ok (.iaload, 1) := by decide +kernel
theorem dX6_ahead_73 : decode cX6_ahead 73 = .ok (.goto 41, 3) := by decide +kernel
theorem dX6_ahead_76 : decode cX6_ahead 76 = .ok (.iload_n 3, 1) := by decide +kernel
theorem dX6_ahead_77 : decode cX6_ahead 77 = .ok (.iconst 1, 1) := by decide +kernel
theorem dX6_ahead_78 : decode cX6_ahead 78 = .ok (.if_icmp .ne 21, 3) := by decide +kernel
theorem dX6_ahead_81 : decode cX6_ahead 81 = .ok (.aload_n 0, 1) := by decide +kernel
theorem dX6_ahead_82 : decode cX6_ahead 82 = .ok (.getfield 7, 3) := by decide +kernel
theorem dX6_ahead_85 : decode cX6_ahead 85 = .ok (.bipush 123, 2) := by decide +kernel
theorem dX6_ahead_87 : decode cX6_ahead 87 = .ok (.iaload, 1) := by decide +kernel
theorem dX6_ahead_88 : decode cX6_ahead 88 = .ok (.aload_n 0, 1) := by decide +kernel
theorem dX6_ahead_89 : decode cX6_ahead 89 = .ok (.getfield 7, 3) := by decide +kernel
theorem dX6_ahead_92 : decode cX6_ahead 92 = .ok (.bipush 23, 2) := by decide +kernel
theorem dX6_ahead_94 : decode cX6_ahead 94 = .ok (.iaload, 1) := by decide +kernel
theorem dX6_ahead_95 : decode cX6_ahead 95 = .ok (.isub, 1) := by decide +kernel
theorem dX6_ahead_96 : decode cX6_ahead 96 = .ok (.goto 18, 3) := by decide +kernel
theorem dX6_ahead_99 : decode cX6_ahead 99 = .ok (.aload_n 0, 1) := by decide +kernel
theorem dX6_ahead_100 : decode cX6_ahead 100 = .ok (.getfield 7, 3) := by decide +kernel
theorem dX6_ahead_103 : decode cX6_ahead 103 = .ok (.bipush 124, 2) := by decide +kernel
theorem dX6_ahead_105 : decode cX6_ahead 105 = .ok (.iaload, 1) := by decide +kernel
theorem dX6_ahead_106 : decode cX6_ahead 106 = .ok (.aload_n 0, 1) := by decide +kernel
theorem dX6_ahead_107 : decode cX6_ahead 107 = .ok (.getfield 7, 3) := by decide +kernel
theorem dX6_ahead_110 : decode cX6_ahead 110 = .ok (.bipush 24, 2) := by decide +kernel
theorem dX6_ahead_112 : decode cX6_ahead 112 = .ok (.iaload, 1) := by decide +kernel
theorem dX6_ahead_113 : decode cX6_ahead 113 = .ok (.isub, 1) := by decide +kernel
theorem dX6_ahead_114 : decode cX6_ahead 114 = .ok (.ireturn, 1) := by decide +kernel
theorem dX6_starvesIn_0 : decode cX6_starvesIn 0 = .ok (.aload_n 0, 1) := by decide +kernel
theorem dX6_starvesIn_1 : decode cX6_starvesIn 1 = .ok (.getfield 7, 3) := by decide +kernel
theorem dX6_starvesIn_4 : decode cX6_starvesIn 4 = .ok (.bipush 121, 2) := by decide +kernel
theorem dX6_starvesIn_6 : decode cX6_starvesIn 6 = .ok (.iaload, 1) := by decide +kernel
theorem dX6_starvesIn_7 : decode cX6_starvesIn 7 = .ok (.bipush 8, 2) := by decide +kernel
theorem dX6_starvesIn_9 : decode cX6_starvesIn 9 = .ok (.if_icmp .ge 24, 3) := by decide +kernel
theorem dX6_starvesIn_12 : decode cX6_starvesIn 12 = .ok (.aload_n 0, 1) := by decide +kernel
theorem dX6_starvesIn_13 : decode cX6_starvesIn 13 = .ok (.getfield 7, 3) := by decide +kernel
theorem dX6_starvesIn_16 : decode cX6_starvesIn 16 = .ok (.bipush 121, 2) := by decide +kernel
theorem dX6_starvesIn_18 : decode cX6_starvesIn 18 = .ok (.iaload, 1) := by decide +kernel
theorem dX6_starvesIn_19 : decode cX6_starvesIn 19 = .ok (.istore_n 2, 1) := by decide +kernel
theorem dX6_starvesIn_20 : decode cX6_starvesIn 20 = .ok (.aload_n 0, 1) := by decide +kernel
theorem dX6_starvesIn_21 : decode cX6_starvesIn 21 = .ok (.iload_n 1, 1) := by decide +kernel
theorem dX6_starvesIn_22 : decode cX6_starvesIn 22 = .ok (.invokevirtual 205, 3) := by decide +kernel
theorem dX6_starvesIn_25 : decode cX6_starvesIn 25 = .ok (.ifCond .le 5, 3) := by decide +kernel
theorem dX6_starvesIn_28 : decode cX6_starvesIn 28 = .ok (.iload_n 2, 1) := by decide +kernel
theorem dX6_starvesIn_29 : decode cX6_starvesIn 29 = .ok (.ireturn, 1) := by decide +kernel
theorem dX6_starvesIn_30 : decode cX6_starvesIn 30 = .ok (.goto (-30), 3) := by decide +kernel
theorem dX6_starvesIn_33 : decode cX6_starvesIn 33 = .ok (.bipush (-4), 2) := by decide +kernel
theorem dX6_starvesIn_35 : decode cX6_starvesIn 35 = .ok (.ireturn, 1) := by decide +kernel
theorem dX6_when_0 : decode cX6_when 0 = .ok (.aload_n 0, 1) := by decide +kernel
theorem dX6_when_1 : decode cX6_when 1 = .ok (.iload_n 1, 1) := by decide +kernel
theorem dX6_when_2 : decode cX6_when 2 = .ok (.invokevirtual 153, 3) := by decide +kernel
theorem dX6_when_5 : decode cX6_when 5 = .ok (.ifCond .ne 5, 3) := by decide +kernel
theorem dX6_when_8 : decode cX6_when 8 = .ok (.iconst (-1), 1) := by decide +kernel
theorem dX6_when_9 : decode cX6_when 9 = .ok (.ireturn, 1) := by decide +kernel
theorem dX6_when_10 : decode cX6_when 10 = .ok (.aload_n 0, 1) := by decide +kernel
theorem dX6_when_11 : decode cX6_when 11 = .ok (.iconst 0, 1) := by decide +kernel
theorem dX6_when_12 : decode cX6_when 12 = .ok (.bipush 100, 2) := by decide +kernel
theorem dX6_when_14 : decode cX6_when 14 = .ok (.invokevirtual 201, 3) := by decide +kernel
theorem dX6_when_17 : decode cX6_when 17 = .ok (.aload_n 0, 1) := by decide +kernel
theorem dX6_when_18 : decode cX6_when 18 = .ok (.iload_n 1, 1) := by decide +kernel
theorem dX6_when_19 : decode cX6_when 19 = .ok (.invokevirtual 208, 3) := by decide +kernel
theorem dX6_when_22 : decode cX6_when 22 = .ok (.ireturn, 1) := by decide +kernel
theorem dX6_canNow_0 : decode cX6_canNow 0 = .ok (.iconst 0, 1) := by decide +kernel
theorem dX6_canNow_1 : decode cX6_canNow 1 = .ok (.istore_n 1, 1) := by decide +kernel
theorem dX6_canNow_2 : decode cX6_canNow 2 = .ok (.iconst 0, 1) := by decide +kernel
theorem dX6_canNow_3 : decode cX6_canNow 3 = .ok (.istore_n 2, 1) := by decide +kernel
theorem dX6_canNow_4 : decode cX6_canNow 4 = .ok (.iload_n 2, 1) := by decide +kernel
theorem dX6_canNow_5 : decode cX6_canNow 5 = .ok (.aload_n 0, 1) := by decide +kernel
theorem dX6_canNow_6 : decode cX6_canNow 6 = .ok (.getfield 132, 3) := by decide +kernel
theorem dX6_canNow_9 : decode cX6_canNow 9 = .ok (.if_icmp .ge 27, 3) := by decide +kernel
theorem dX6_canNow_12 : decode cX6_canNow 12 = .ok (.iload_n 1, 1) := by decide +kernel
theorem dX6_canNow_13 : decode cX6_canNow 13 = .ok (.aload_n 0, 1) := by decide +kernel
theorem dX6_canNow_14 : decode cX6_canNow 14 = .ok (.iload_n 2, 1) := by decide +kernel
theorem dX6_canNow_15 : decode cX6_canNow 15 = .ok (.invokevirtual 160, 3) := by decide +kernel
theorem dX6_canNow_18 : decode cX6_canNow 18 = .ok (.ifCond .eq 9, 3) := by decide +kernel
theorem dX6_canNow_21 : decode cX6_canNow 21 = .ok (.iconst 1, 1) := by decide +kernel
theorem dX6_canNow_22 : decode cX6_canNow 22 = .ok (.iload_n 2, 1) := by decide +kernel
theorem dX6_canNow_23 : decode cX6_canNow 23 = .ok (.ishl, 1) := by decide +kernel
theorem dX6_canNow_24 : decode cX6_canNow 24 = .ok (.goto 4, 3) := by decide +kernel
theorem dX6_canNow_27 : decode cX6_canNow 27 = .ok (.iconst 0, 1) := by decide +kernel
theorem dX6_canNow_28 : decode cX6_canNow 28 = .ok (.ior, 1) := by decide +kernel
theorem dX6_canNow_29 : decode cX6_canNow 29 = .ok (.istore_n 1, 1) := by decide +kernel
theorem dX6_canNow_30 : decode cX6_canNow 30 = .ok (.iinc 2 1, 3) := by decide +kernel
theorem dX6_canNow_33 : decode cX6_canNow 33 = .ok (.goto (-29), 3) := by decide +kernel
theorem dX6_canNow_36 : decode cX6_canNow 36 = .ok (.iload_n 1, 1) := by decide +kernel
theorem dX6_canNow_37 : decode cX6_canNow 37 = .ok (.ireturn, 1) := by decide +kernel
theorem dX6_can_0 : decode cX6_can 0 = .ok (.aload_n 0, 1) := by decide +kernel
theorem dX6_can_1 : decode cX6_can 1 = .ok (.invokevirtual 211, 3) := by decide +kernel
theorem dX6_can_4 : decode cX6_can 4 = .ok (.ireturn, 1) := by decide +kernel
theorem dX6_lowest_0 : decode cX6_lowest 0 = .ok (.lload_n 0, 1) := by decide +kernel
theorem dX6_lowest_1 : decode cX6_lowest 1 = .ok (.lconst 0, 1) := by decide +kernel
theorem dX6_lowest_2 : decode cX6_lowest 2 = .ok (.lcmp, 1) := by decide +kernel
theorem dX6_lowest_3 : decode cX6_lowest 3 = .ok (.ifCond .ge 8, 3) := by decide +kernel
theorem dX6_lowest_6 : decode cX6_lowest 6 = .ok (.lload_n 0, 1) := by decide +kernel
theorem dX6_lowest_7 : decode cX6_lowest 7 = .ok (.lneg, 1) := by decide +kernel
theorem dX6_lowest_8 : decode cX6_lowest 8 = .ok (.goto 4, 3) := by decide +kernel
theorem dX6_lowest_11 : decode cX6_lowest 11 = .ok (.lload_n 0, 1) := by decide +kernel
theorem dX6_lowest_12 : decode cX6_lowest 12 = .ok (.lstore 5, 2) := by decide +kernel
theorem dX6_lowest_14 : decode cX6_lowest 14 = .ok (.lload_n 2, 1) := by decide +kernel
theorem dX6_lowest_15 : decode cX6_lowest 15 = .ok (.lstore 7, 2) := by decide +kernel
theorem dX6_lowest_17 : decode cX6_lowest 17 = .ok (.lload 7, 2) := by decide +kernel
theorem dX6_lowest_19 : decode cX6_lowest 19 = .ok (.lconst 0, 1) := by decide +kernel
theorem dX6_lowest_20 : decode cX6_lowest 20 = .ok (.lcmp, 1) := by decide +kernel
theorem dX6_lowest_21 : decode cX6_lowest 21 = .ok (.ifCond .eq 21, 3) := by decide +kernel
theorem dX6_lowest_24 : decode cX6_lowest 24 = .ok (.lload 5, 2) := by decide +kernel
theorem dX6_lowest_26 : decode cX6_lowest 26 = .ok (.lload 7, 2) := by decide +kernel
theorem dX6_lowest_28 : decode cX6_lowest 28 = .ok (.lrem, 1) := by decide +kernel
theorem dX6_lowest_29 : decode cX6_lowest 29 = .ok (.lstore 9, 2) := by decide +kernel
theorem dX6_lowest_31 : decode cX6_lowest 31 = .ok (.lload 7, 2) := by decide +kernel
theorem dX6_lowest_33 : decode cX6_lowest 33 = .ok (.lstore 5, 2) := by decide +kernel
theorem dX6_lowest_35 : decode cX6_lowest 35 = .ok (.lload 9, 2) := by decide +kernel
theorem dX6_lowest_37 : decode cX6_lowest 37 = .ok (.lstore 7, 2) := by decide +kernel
theorem dX6_lowest_39 : decode cX6_lowest 39 = .ok (.goto (-22), 3) := by decide +kernel
theorem dX6_lowest_42 : decode cX6_lowest 42 = .ok (.iload 4, 2) := by decide +kernel
theorem dX6_lowest_44 : decode cX6_lowest 44 = .ok (.ifCond .ne 7, 3) := by decide +kernel
theorem dX6_lowest_47 : decode cX6_lowest 47 = .ok (.lload_n 0, 1) := by decide +kernel
theorem dX6_lowest_48 : decode cX6_lowest 48 = .ok (.goto 4, 3) := by decide +kernel
theorem dX6_lowest_51 : decode cX6_lowest 51 = .ok (.lload_n 2, 1) := by decide +kernel
theorem dX6_lowest_52 : decode cX6_lowest 52 = .ok (.lload 5, 2) := by decide +kernel
theorem dX6_lowest_54 : decode cX6_lowest 54 = .ok (.ldiv, 1) := by decide +kernel
theorem dX6_lowest_55 : decode cX6_lowest 55 = .ok (.lreturn, 1) := by decide +kernel
theorem dX6_oddsOf_0 : decode cX6_oddsOf 0 = .ok (.lconst 0, 1) := by decide +kernel
theorem dX6_oddsOf_1 : decode cX6_oddsOf 1 = .ok (.lstore_n 2, 1) := by decide +kernel
theorem dX6_oddsOf_2 : decode cX6_oddsOf 2 = .ok (.iconst 0, 1) := by decide +kernel
theorem dX6_oddsOf_3 : decode cX6_oddsOf 3 = .ok (.istore 4, 2) := by decide +kernel
theorem dX6_oddsOf_5 : decode cX6_oddsOf 5 = .ok (.iload 4, 2) := by decide +kernel
theorem dX6_oddsOf_7 : decode cX6_oddsOf 7 = .ok (.aload_n 0, 1) := by decide +kernel
theorem dX6_oddsOf_8 : decode cX6_oddsOf 8 = .ok (.getfield 132, 3) := by decide +kernel
theorem dX6_oddsOf_11 : decode cX6_oddsOf 11 = .ok (.if_icmp .ge 37, 3) := by decide +kernel
theorem dX6_oddsOf_14 : decode cX6_oddsOf 14 = .ok (.lload_n 2, 1) := by decide +kernel
theorem dX6_oddsOf_15 : decode cX6_oddsOf 15 = .ok (.iload_n 1, 1) := by decide +kernel
theorem dX6_oddsOf_16 : decode cX6_oddsOf 16 = .ok (.iload 4, 2) := by decide +kernel
theorem dX6_oddsOf_18 : decode cX6_oddsOf 18 = .ok (.ishr, 1) := by decide +kernel
theorem dX6_oddsOf_19 : decode cX6_oddsOf 19 = .ok (.iconst 1, 1) := by decide +kernel
theorem dX6_oddsOf_20 : decode cX6_oddsOf 20 = .ok (.iand, 1) := by decide +kernel
theorem dX6_oddsOf_21 : decode cX6_oddsOf 21 = .ok (.iconst 1, 1) := by decide +kernel
theorem dX6_oddsOf_22 : decode cX6_oddsOf 22 = .ok (.if_icmp .ne 17, 3) := by decide +kernel
theorem dX6_oddsOf_25 : decode cX6_oddsOf 25 = .ok (.aload_n 0, 1) := by decide +kernel
theorem dX6_oddsOf_26 : decode cX6_oddsOf 26 = .ok (.getfield 7, 3) := by decide +kernel
theorem dX6_oddsOf_29 : decode cX6_oddsOf 29 = .ok (.bipush 8, 2) := by decide +kernel
theorem dX6_oddsOf_31 : decode cX6_oddsOf 31 = .ok (.iload 4, 2) := by decide +kernel
theorem dX6_oddsOf_33 : decode cX6_oddsOf 33 = .ok (.iadd, 1) := by decide +kernel
theorem dX6_oddsOf_34 : decode cX6_oddsOf 34 = .ok (.iaload, 1) := by decide +kernel
theorem dX6_oddsOf_35 : decode cX6_oddsOf 35 = .ok (.i2l, 1) := by decide +kernel
theorem dX6_oddsOf_36 : decode cX6_oddsOf 36 = .ok (.goto 4, 3) := by decide +kernel
theorem dX6_oddsOf_39 : decode cX6_oddsOf 39 = .ok (.lconst 0, 1) := by decide +kernel
theorem dX6_oddsOf_40 : decode cX6_oddsOf 40 = .ok (.ladd, 1) := by decide +kernel
theorem dX6_oddsOf_41 : decode cX6_oddsOf 41 = .ok (.lstore_n 2, 1) := by decide +kernel
theorem dX6_oddsOf_42 : decode cX6_oddsOf 42 = .ok (.iinc 4 1, 3) := by decide +kernel
theorem dX6_oddsOf_45 : decode cX6_oddsOf 45 = .ok (.goto (-40), 3) := by decide +kernel
theorem dX6_oddsOf_48 : decode cX6_oddsOf 48 = .ok (.lload_n 2, 1) := by decide +kernel
theorem dX6_oddsOf_49 : decode cX6_oddsOf 49 = .ok (.lreturn, 1) := by decide +kernel
theorem dX6_areSo_0 : decode cX6_areSo 0 = .ok (.iconst 0, 1) := by decide +kernel
theorem dX6_areSo_1 : decode cX6_areSo 1 = .ok (.istore 4, 2) := by decide +kernel
theorem dX6_areSo_3 : decode cX6_areSo 3 = .ok (.iconst 0, 1) := by decide +kernel
theorem dX6_areSo_4 : decode cX6_areSo 4 = .ok (.istore 5, 2) := by decide +kernel
theorem dX6_areSo_6 : decode cX6_areSo 6 = .ok (.iload 5, 2) := by decide +kernel
theorem dX6_areSo_8 : decode cX6_areSo 8 = .ok (.aload_n 0, 1) := by decide +kernel
theorem dX6_areSo_9 : decode cX6_areSo 9 = .ok (.getfield 132, 3) := by decide +kernel
theorem dX6_areSo_12 : decode cX6_areSo 12 = .ok (.if_icmp .ge 47, 3) := by decide +kernel
theorem dX6_areSo_15 : decode cX6_areSo 15 = .ok (.iload 4, 2) := by decide +kernel
theorem dX6_areSo_17 : decode cX6_areSo 17 = .ok (.iload_n 1, 1) := by decide +kernel
theorem dX6_areSo_18 : decode cX6_areSo 18 = .ok (.iload 5, 2) := by decide +kernel
theorem dX6_areSo_20 : decode cX6_areSo 20 = .ok (.ishr, 1) := by decide +kernel
theorem dX6_areSo_21 : decode cX6_areSo 21 = .ok (.iconst 1, 1) := by decide +kernel
theorem dX6_areSo_22 : decode cX6_areSo 22 = .ok (.iand, 1) := by decide +kernel
theorem dX6_areSo_23 : decode cX6_areSo 23 = .ok (.iconst 1, 1) := by decide +kernel
theorem dX6_areSo_24 : decode cX6_areSo 24 = .ok (.if_icmp .ne 25, 3) := by decide +kernel
theorem dX6_areSo_27 : decode cX6_areSo 27 = .ok (.aload_n 0, 1) := by decide +kernel
theorem dX6_areSo_28 : decode cX6_areSo 28 = .ok (.getfield 13, 3) := by decide +kernel
theorem dX6_areSo_31 : decode cX6_areSo 31 = .ok (.iload 5, 2) := by decide +kernel
theorem dX6_areSo_33 : decode cX6_areSo 33 = .ok (.iaload, 1) := by decide +kernel
theorem dX6_areSo_34 : decode cX6_areSo 34 = .ok (.iload_n 2, 1) := by decide +kernel
theorem dX6_areSo_35 : decode cX6_areSo 35 = .ok (.ishr, 1) := by decide +kernel
theorem dX6_areSo_36 : decode cX6_areSo 36 = .ok (.iconst 1, 1) := by decide +kernel
theorem dX6_areSo_37 : decode cX6_areSo 37 = .ok (.iand, 1) := by decide +kernel
theorem dX6_areSo_38 : decode cX6_areSo 38 = .ok (.iload_n 3, 1) := by decide +kernel
theorem dX6_areSo_39 : decode cX6_areSo 39 = .ok (.if_icmp .ne 10, 3) := by decide +kernel
theorem dX6_areSo_42 : decode cX6_areSo 42 = .ok (.iconst 1, 1) := by decide +kernel
theorem dX6_areSo_43 : decode cX6_areSo 43 = .ok (.iload 5, 2) := by decide +kernel
theorem dX6_areSo_45 : decode cX6_areSo 45 = .ok (.ishl, 1) := by decide +kernel
theorem dX6_areSo_46 : decode cX6_areSo 46 = .ok (.goto 4, 3) := by decide +kernel
theorem dX6_areSo_49 : decode cX6_areSo 49 = .ok (.iconst 0, 1) := by decide +kernel
theorem dX6_areSo_50 : decode cX6_areSo 50 = .ok (.ior, 1) := by decide +kernel
theorem dX6_areSo_51 : decode cX6_areSo 51 = .ok (.istore 4, 2) := by decide +kernel
theorem dX6_areSo_53 : decode cX6_areSo 53 = .ok (.iinc 5 1, 3) := by decide +kernel
theorem dX6_areSo_56 : decode cX6_areSo 56 = .ok (.goto (-50), 3) := by decide +kernel
theorem dX6_areSo_59 : decode cX6_areSo 59 = .ok (.iload 4, 2) := by decide +kernel
theorem dX6_areSo_61 : decode cX6_areSo 61 = .ok (.ireturn, 1) := by decide +kernel
theorem dX6_fat_0 : decode cX6_fat 0 = .ok (.iload_n 1, 1) := by decide +kernel
theorem dX6_fat_1 : decode cX6_fat 1 = .ok (.i2l, 1) := by decide +kernel
theorem dX6_fat_2 : decode cX6_fat 2 = .ok (.lconst 0, 1) := by decide +kernel
theorem dX6_fat_3 : decode cX6_fat 3 = .ok (.ldc2_w 214, 3) := by decide +kernel
theorem dX6_fat_6 : decode cX6_fat 6 = .ok (.invokestatic 53, 3) := by decide +kernel
theorem dX6_fat_9 : decode cX6_fat 9 = .ok (.ifCond .eq 13, 3) := by decide +kernel
theorem dX6_fat_12 : decode cX6_fat 12 = .ok (.iload_n 2, 1) := by decide +kernel
theorem dX6_fat_13 : decode cX6_fat 13 = .ok (.i2l, 1) := by decide +kernel
theorem dX6_fat_14 : decode cX6_fat 14 = .ok (.lconst 0, 1) := by decide +kernel
theorem dX6_fat_15 : decode cX6_fat 15 = .ok (.lconst 1, 1) := by decide +kernel
theorem dX6_fat_16 : decode cX6_fat 16 = .ok (.invokestatic 53, 3) := by decide +kernel
theorem dX6_fat_19 : decode cX6_fat 19 = .ok (.ifCond .ne 7, 3) := by decide +kernel
theorem dX6_fat_22 : decode cX6_fat 22 = .ok (.ldc2_w 216, 3) := by decide +kernel
theorem dX6_fat_25 : decode cX6_fat 25 = .ok (.lreturn, 1) := by decide +kernel
theorem dX6_fat_26 : decode cX6_fat 26 = .ok (.aload_n 0, 1) := by decide +kernel
theorem dX6_fat_27 : decode cX6_fat 27 = .ok (.invokevirtual 211, 3) := by decide +kernel
theorem dX6_fat_30 : decode cX6_fat 30 = .ok (.istore_n 3, 1) := by decide +kernel
theorem dX6_fat_31 : decode cX6_fat 31 = .ok (.iload_n 3, 1) := by decide +kernel
theorem dX6_fat_32 : decode cX6_fat 32 = .ok (.ifCond .ne 9, 3) := by decide +kernel
theorem dX6_fat_35 : decode cX6_fat 35 = .ok (.ldc2_w 218, 3) := by decide +kernel
theorem dX6_fat_38 : decode cX6_fat 38 = .ok (.goto 23, 3) := by decide +kernel
theorem dX6_fat_41 : decode cX6_fat 41 = .ok (.aload_n 0, 1) := by decide +kernel
theorem dX6_fat_42 : decode cX6_fat 42 = .ok (.aload_n 0, 1) := by decide +kernel
theorem dX6_fat_43 : decode cX6_fat 43 = .ok (.iload_n 3, 1) := by decide +kernel
theorem dX6_fat_44 : decode cX6_fat 44 = .ok (.iload_n 1, 1) := by decide +kernel
theorem dX6_fat_45 : decode cX6_fat 45 = .ok (.iconst 1, 1) := by decide +kernel
theorem dX6_fat_46 : decode cX6_fat 46 = .ok (.invokevirtual 220, 3) := by decide +kernel
theorem dX6_fat_49 : decode cX6_fat 49 = .ok (.invokevirtual 223, 3) := by decide +kernel
theorem dX6_fat_52 : decode cX6_fat 52 = .ok (.aload_n 0, 1) := by decide +kernel
theorem dX6_fat_53 : decode cX6_fat 53 = .ok (.iload_n 3, 1) := by decide +kernel
theorem dX6_fat_54 : decode cX6_fat 54 = .ok (.invokevirtual 223, 3) := by decide +kernel
theorem dX6_fat_57 : decode cX6_fat 57 = .ok (.iload_n 2, 1) := by decide +kernel
theorem dX6_fat_58 : decode cX6_fat 58 = .ok (.invokestatic 227, 3) := by decide +kernel
theorem dX6_fat_61 : decode cX6_fat 61 = .ok (.lreturn, 1) := by decide +kernel
theorem dX6_at_0 : decode cX6_at 0 = .ok (.sipush 656, 3) := by decide +kernel
theorem dX6_at_3 : decode cX6_at 3 = .ok (.iload_n 0, 1) := by decide +kernel
theorem dX6_at_4 : decode cX6_at 4 = .ok (.imul, 1) := by decide +kernel
theorem dX6_at_5 : decode cX6_at 5 = .ok (.bipush 41, 2) := by decide +kernel
theorem dX6_at_7 : decode cX6_at 7 = .ok (.iload_n 1, 1) := by decide +kernel
theorem dX6_at_8 : decode cX6_at 8 = .ok (.imul, 1) := by decide +kernel
theorem dX6_at_9 : decode cX6_at 9 = .ok (.iadd, 1) := by decide +kernel
theorem dX6_at_10 : decode cX6_at 10 = .ok (.iload_n 2, 1) := by decide +kernel
theorem dX6_at_11 : decode cX6_at 11 = .ok (.iadd, 1) := by decide +kernel
theorem dX6_at_12 : decode cX6_at 12 = .ok (.ireturn, 1) := by decide +kernel
theorem dX6_byKept_0 : decode cX6_byKept 0 = .ok (.iload 4, 2) := by decide +kernel
theorem dX6_byKept_2 : decode cX6_byKept 2 = .ok (.aload_n 0, 1) := by decide +kernel
theorem dX6_byKept_3 : decode cX6_byKept 3 = .ok (.iconst 0, 1) := by decide +kernel
theorem dX6_byKept_4 : decode cX6_byKept 4 = .ok (.iload 5, 2) := by decide +kernel
theorem dX6_byKept_6 : decode cX6_byKept 6 = .ok (.invokevirtual 166, 3) := by decide +kernel
theorem dX6_byKept_9 : decode cX6_byKept 9 = .ok (.iadd, 1) := by decide +kernel
theorem dX6_byKept_10 : decode cX6_byKept 10 = .ok (.istore 7, 2) := by decide +kernel
theorem dX6_byKept_12 : decode cX6_byKept 12 = .ok (.aload_n 0, 1) := by decide +kernel
theorem dX6_byKept_13 : decode cX6_byKept 13 = .ok (.getfield 7, 3) := by decide +kernel
theorem dX6_byKept_16 : decode cX6_byKept 16 = .ok (.bipush 12, 2) := by decide +kernel
theorem dX6_byKept_18 : decode cX6_byKept 18 = .ok (.iaload, 1) := by decide +kernel
theorem dX6_byKept_19 : decode cX6_byKept 19 = .ok (.istore 8, 2) := by decide +kernel
theorem dX6_byKept_21 : decode cX6_byKept 21 = .ok (.iload 7, 2) := by decide +kernel
theorem dX6_byKept_23 : decode cX6_byKept 23 = .ok (.iload 8, 2) := by decide +kernel
theorem dX6_byKept_25 : decode cX6_byKept 25 = .ok (.if_icmp .ge 11, 3) := by decide +kernel
theorem dX6_byKept_28 : decode cX6_byKept 28 = .ok (.iload 8, 2) := by decide +kernel
theorem dX6_byKept_30 : decode cX6_byKept 30 = .ok (.iload 7, 2) := by decide +kernel
theorem dX6_byKept_32 : decode cX6_byKept 32 = .ok (.isub, 1) := by decide +kernel
theorem dX6_byKept_33 : decode cX6_byKept 33 = .ok (.goto 4, 3) := by decide +kernel
theorem dX6_byKept_36 : decode cX6_byKept 36 = .ok (.iconst 0, 1) := by decide +kernel
theorem dX6_byKept_37 : decode cX6_byKept 37 = .ok (.istore 9, 2) := by decide +kernel
theorem dX6_byKept_39 : decode cX6_byKept 39 = .ok (.iload 7, 2) := by decide +kernel
theorem dX6_byKept_41 : decode cX6_byKept 41 = .ok (.iload 8, 2) := by decide +kernel
theorem dX6_byKept_43 : decode cX6_byKept 43 = .ok (.if_icmp .le 11, 3) := by decide +kernel
theorem dX6_byKept_46 : decode cX6_byKept 46 = .ok (.iload 7, 2) := by decide +kernel
theorem dX6_byKept_48 : decode cX6_byKept 48 = .ok (.iload 8, 2) := by decide +kernel
theorem dX6_byKept_50 : decode cX6_byKept 50 = .ok (.isub, 1) := by decide +kernel
theorem dX6_byKept_51 : decode cX6_byKept 51 = .ok (.goto 4, 3) := by decide +kernel
theorem dX6_byKept_54 : decode cX6_byKept 54 = .ok (.iconst 0, 1) := by decide +kernel
theorem dX6_byKept_55 : decode cX6_byKept 55 = .ok (.istore 10, 2) := by decide +kernel
theorem dX6_byKept_57 : decode cX6_byKept 57 = .ok (.iload 10, 2) := by decide +kernel
theorem dX6_byKept_59 : decode cX6_byKept 59 = .ok (.iload 6, 2) := by decide +kernel
theorem dX6_byKept_61 : decode cX6_byKept 61 = .ok (.isub, 1) := by decide +kernel
theorem dX6_byKept_62 : decode cX6_byKept 62 = .ok (.aload_n 0, 1) := by decide +kernel
theorem dX6_byKept_63 : decode cX6_byKept 63 = .ok (.getfield 7, 3) := by decide +kernel
theorem dX6_byKept_66 : decode cX6_byKept 66 = .ok (.bipush 17, 2) := by decide +kernel
theorem dX6_byKept_68 : decode cX6_byKept 68 = .ok (.iload 5, 2) := by decide +kernel
theorem dX6_byKept_70 : decode cX6_byKept 70 = .ok (.iadd, 1) := by decide +kernel
theorem dX6_byKept_71 : decode cX6_byKept 71 = .ok (.iaload, 1) := by decide +kernel
theorem dX6_byKept_72 : decode cX6_byKept 72 = .ok (.iconst 1, 1) := by decide +kernel
theorem dX6_byKept_73 : decode cX6_byKept 73 = .ok (.iadd, 1) := by decide +kernel
theorem dX6_byKept_74 : decode cX6_byKept 74 = .ok (.imul, 1) := by decide +kernel
theorem dX6_byKept_75 : decode cX6_byKept 75 = .ok (.iload 9, 2) := by decide +kernel
theorem dX6_byKept_77 : decode cX6_byKept 77 = .ok (.aload_n 0, 1) := by decide +kernel
theorem dX6_byKept_78 : decode cX6_byKept 78 = .ok (.getfield 7, 3) := by decide +kernel
theorem dX6_byKept_81 : decode cX6_byKept 81 = .ok (.bipush 13, 2) := by decide +kernel
theorem dX6_byKept_83 : decode cX6_byKept 83 = .ok (.iaload, 1) := by decide +kernel
theorem dX6_byKept_84 : decode cX6_byKept 84 = .ok (.imul, 1) := by decide +kernel
theorem dX6_byKept_85 : decode cX6_byKept 85 = .ok (.isub, 1) := by decide +kernel
theorem dX6_byKept_86 : decode cX6_byKept 86 = .ok (.i2l, 1) := by decide +kernel
theorem dX6_byKept_87 : decode cX6_byKept 87 = .ok (.lstore 11, 2) := by decide +kernel
theorem dX6_byKept_89 : decode cX6_byKept 89 = .ok (.aload_n 0, 1) := by decide +kernel
theorem dX6_byKept_90 : decode cX6_byKept 90 = .ok (.iload_n 3, 1) := by decide +kernel
theorem dX6_byKept_91 : decode cX6_byKept 91 = .ok (.invokevirtual 223, 3) := by decide +kernel
theorem dX6_byKept_94 : decode cX6_byKept 94 = .ok (.lload 11, 2) := by decide +kernel
theorem dX6_byKept_96 : decode cX6_byKept 96 = .ok (.lmul, 1) := by decide +kernel
theorem dX6_byKept_97 : decode cX6_byKept 97 = .ok (.aload_n 0, 1) := by decide +kernel
theorem dX6_byKept_98 : decode cX6_byKept 98 = .ok (.getfield 31, 3) := by decide +kernel
theorem dX6_byKept_101 : decode cX6_byKept 101 = .ok (.iload_n 2, 1) := by decide +kernel
theorem dX6_byKept_102 : decode cX6_byKept 102 = .ok (.iconst 1, 1) := by decide +kernel
theorem dX6_byKept_103 : decode cX6_byKept 103 = .ok (.isub, 1) := by decide +kernel
theorem dX6_byKept_104 : decode cX6_byKept 104 = .ok (.iload_n 3, 1) := by decide +kernel
theorem dX6_byKept_105 : decode cX6_byKept 105 = .ok (.iload 6, 2) := by decide +kernel
theorem dX6_byKept_107 : decode cX6_byKept 107 = .ok (.aload_n 0, 1) := by decide +kernel
theorem dX6_byKept_108 : decode cX6_byKept 108 = .ok (.getfield 7, 3) := by decide +kernel
theorem dX6_byKept_111 : decode cX6_byKept 111 = .ok (.bipush 15, 2) := by decide +kernel
theorem dX6_byKept_113 : decode cX6_byKept 113 = .ok (.iaload, 1) := by decide +kernel
theorem dX6_byKept_114 : decode cX6_byKept 114 = .ok (.invokestatic 182, 3) := by decide +kernel
theorem dX6_byKept_117 : decode cX6_byKept 117 = .ok (.invokestatic 231, 3) := by decide +kernel
theorem dX6_byKept_120 : decode cX6_byKept 120 = .ok (.laload, 1) := by decide +kernel
theorem dX6_byKept_121 : decode cX6_byKept 121 = .ok (.ladd, 1) := by decide +kernel
theorem dX6_byKept_122 : decode cX6_byKept 122 = .ok (.lreturn, 1) := by decide +kernel
theorem dX6_mostKept_0 : decode cX6_mostKept 0 = .ok (.iload_n 1, 1) := by decide +kernel
theorem dX6_mostKept_1 : decode cX6_mostKept 1 = .ok (.aload_n 0, 1) := by decide +kernel
theorem dX6_mostKept_2 : decode cX6_mostKept 2 = .ok (.iconst 0, 1) := by decide +kernel
theorem dX6_mostKept_3 : decode cX6_mostKept 3 = .ok (.iload_n 2, 1) := by decide +kernel
theorem dX6_mostKept_4 : decode cX6_mostKept 4 = .ok (.invokevirtual 166, 3) := by decide +kernel
theorem dX6_mostKept_7 : decode cX6_mostKept 7 = .ok (.iadd, 1) := by decide +kernel
theorem dX6_mostKept_8 : decode cX6_mostKept 8 = .ok (.istore_n 3, 1) := by decide +kernel
theorem dX6_mostKept_9 : decode cX6_mostKept 9 = .ok (.iload_n 3, 1) := by decide +kernel
theorem dX6_mostKept_10 : decode cX6_mostKept 10 = .ok (.aload_n 0, 1) := by decide +kernel
theorem dX6_mostKept_11 : decode cX6_mostKept 11 = .ok (.getfield 7, 3) := by decide +kernel
theorem dX6_mostKept_14 : decode cX6_mostKept 14 = .ok (.bipush 12, 2) := by decide +kernel
theorem dX6_mostKept_16 : decode cX6_mostKept 16 = .ok (.iaload, 1) := by decide +kernel
theorem dX6_mostKept_17 : decode cX6_mostKept 17 = .ok (.if_icmp .le 15, 3) := by decide +kernel
theorem dX6_mostKept_20 : decode cX6_mostKept 20 = .ok (.iload_n 3, 1) := by decide +kernel
theorem dX6_mostKept_21 : decode cX6_mostKept 21 = .ok (.aload_n 0, 1) := by decide +kernel
theorem dX6_mostKept_22 : decode cX6_mostKept 22 = .ok (.getfield 7, 3) := by decide +kernel
theorem dX6_mostKept_25 : decode cX6_mostKept 25 = .ok (.bipush 12, 2) := by decide +kernel
theorem dX6_mostKept_27 : decode cX6_mostKept 27 = .ok (.iaload, 1) := by decide +kernel
theorem dX6_mostKept_28 : decode cX6_mostKept 28 = .ok (.isub, 1) := by decide +kernel
theorem dX6_mostKept_29 : decode cX6_mostKept 29 = .ok (.goto 4, 3) := by decide +kernel
theorem dX6_mostKept_32 : decode cX6_mostKept 32 = .ok (.iconst 0, 1) := by decide +kernel
theorem dX6_mostKept_33 : decode cX6_mostKept 33 = .ok (.istore 4, 2) := by decide +kernel
theorem dX6_mostKept_35 : decode cX6_mostKept 35 = .ok (.iload 4, 2) := by decide +kernel
theorem dX6_mostKept_37 : decode cX6_mostKept 37 = .ok (.aload_n 0, 1) := by decide +kernel
theorem dX6_mostKept_38 : decode cX6_mostKept 38 = .ok (.iconst 0, 1) := by decide +kernel
theorem dX6_mostKept_39 : decode cX6_mostKept 39 = .ok (.invokevirtual 138, 3) := by decide +kernel
theorem dX6_mostKept_42 : decode cX6_mostKept 42 = .ok (.if_icmp .ge 8, 3) := by decide +kernel
theorem dX6_mostKept_45 : decode cX6_mostKept 45 = .ok (.iload 4, 2) := by decide +kernel
theorem dX6_mostKept_47 : decode cX6_mostKept 47 = .ok (.goto 8, 3) := by decide +kernel
theorem dX6_mostKept_50 : decode cX6_mostKept 50 = .ok (.aload_n 0, 1) := by decide +kernel
theorem dX6_mostKept_51 : decode cX6_mostKept 51 = .ok (.iconst 0, 1) := by decide +kernel
theorem dX6_mostKept_52 : decode cX6_mostKept 52 = .ok (.invokevirtual 138, 3) := by decide +kernel
theorem dX6_mostKept_55 : decode cX6_mostKept 55 = .ok (.ireturn, 1) := by decide +kernel
theorem dX6_bestSo_0 : decode cX6_bestSo 0 = .ok (.aload_n 0, 1) := by decide +kernel
theorem dX6_bestSo_1 : decode cX6_bestSo 1 = .ok (.iload_n 3, 1) := by decide +kernel
theorem dX6_bestSo_2 : decode cX6_bestSo 2 = .ok (.iload_n 1, 1) := by decide +kernel
theorem dX6_bestSo_3 : decode cX6_bestSo 3 = .ok (.iload 5, 2) := by decide +kernel
theorem dX6_bestSo_5 : decode cX6_bestSo 5 = .ok (.invokevirtual 220, 3) := by decide +kernel
theorem dX6_bestSo_8 : decode cX6_bestSo 8 = .ok (.istore 6, 2) := by decide +kernel
theorem dX6_bestSo_10 : decode cX6_bestSo 10 = .ok (.iload 6, 2) := by decide +kernel
theorem dX6_bestSo_12 : decode cX6_bestSo 12 = .ok (.ifCond .ne 5, 3) := by decide +kernel
theorem dX6_bestSo_15 : decode cX6_bestSo 15 = .ok (.lconst 0, 1) := by decide +kernel
theorem dX6_bestSo_16 : decode cX6_bestSo 16 = .ok (.lreturn, 1) := by decide +kernel
theorem dX6_bestSo_17 : decode cX6_bestSo 17 = .ok (.aload_n 0, 1) := by decide +kernel
theorem dX6_bestSo_18 : decode cX6_bestSo 18 = .ok (.iload_n 1, 1) := by decide +kernel
theorem dX6_bestSo_19 : decode cX6_bestSo 19 = .ok (.iload_n 2, 1) := by decide +kernel
theorem dX6_bestSo_20 : decode cX6_bestSo 20 = .ok (.iload 6, 2) := by decide +kernel
theorem dX6_bestSo_22 : decode cX6_bestSo 22 = .ok (.iload 4, 2) := by decide +kernel
theorem dX6_bestSo_24 : decode cX6_bestSo 24 = .ok (.iload 5, 2) := by decide +kernel
theorem dX6_bestSo_26 : decode cX6_bestSo 26 = .ok (.iconst 0, 1) := by decide +kernel
theorem dX6_bestSo_27 : decode cX6_bestSo 27 = .ok (.invokevirtual 234, 3) := by decide +kernel
theorem dX6_bestSo_30 : decode cX6_bestSo 30 = .ok (.lstore 7, 2) := by decide +kernel
theorem dX6_bestSo_32 : decode cX6_bestSo 32 = .ok (.iconst 1, 1) := by decide +kernel
theorem dX6_bestSo_33 : decode cX6_bestSo 33 = .ok (.istore 9, 2) := by decide +kernel
theorem dX6_bestSo_35 : decode cX6_bestSo 35 = .ok (.iload 9, 2) := by decide +kernel
theorem dX6_bestSo_37 : decode cX6_bestSo 37 = .ok (.aload_n 0, 1) := by decide +kernel
theorem dX6_bestSo_38 : decode cX6_bestSo 38 = .ok (.iload 4, 2) := by decide +kernel
theorem dX6_bestSo_40 : decode cX6_bestSo 40 = .ok (.iload 5, 2) := by decide +kernel
theorem dX6_bestSo_42 : decode cX6_bestSo 42 = .ok (.invokevirtual 238, 3) := by decide +kernel
theorem dX6_bestSo_45 : decode cX6_bestSo 45 = .ok (.if_icmp .gt 42, 3) := by decide +kernel
theorem dX6_bestSo_48 : decode cX6_bestSo 48 = .ok (.aload_n 0, 1) := by decide +kernel
theorem dX6_bestSo_49 : decode cX6_bestSo 49 = .ok (.iload_n 1, 1) := by decide +kernel
theorem dX6_bestSo_50 : decode cX6_bestSo 50 = .ok (.iload_n 2, 1) := by decide +kernel
theorem dX6_bestSo_51 : decode cX6_bestSo 51 = .ok (.iload 6, 2) := by decide +kernel
theorem dX6_bestSo_53 : decode cX6_bestSo 53 = .ok (.iload 4, 2) := by decide +kernel
theorem dX6_bestSo_55 : decode cX6_bestSo 55 = .ok (.iload 5, 2) := by decide +kernel
theorem dX6_bestSo_57 : decode cX6_bestSo 57 = .ok (.iload 9, 2) := by decide +kernel
theorem dX6_bestSo_59 : decode cX6_bestSo 59 = .ok (.invokevirtual 234, 3) := by decide +kernel
theorem dX6_bestSo_62 : decode cX6_bestSo 62 = .ok (.lstore 10, 2) := by decide +kernel
theorem dX6_bestSo_64 : decode cX6_bestSo 64 = .ok (.lload 10, 2) := by decide +kernel
theorem dX6_bestSo_66 : decode cX6_bestSo 66 = .ok (.lload 7, 2) := by decide +kernel
theorem dX6_bestSo_68 : decode cX6_bestSo 68 = .ok (.lcmp, 1) := by decide +kernel
theorem dX6_bestSo_69 : decode cX6_bestSo 69 = .ok (.ifCond .le 8, 3) := by decide +kernel
theorem dX6_bestSo_72 : decode cX6_bestSo 72 = .ok (.lload 10, 2) := by decide +kernel
theorem dX6_bestSo_74 : decode cX6_bestSo 74 = .ok (.goto 5, 3) := by decide +kernel
theorem dX6_bestSo_77 : decode cX6_bestSo 77 = .ok (.lload 7, 2) := by decide +kernel
theorem dX6_bestSo_79 : decode cX6_bestSo 79 = .ok (.lstore 7, 2) := by decide +kernel
theorem dX6_bestSo_81 : decode cX6_bestSo 81 = .ok (.iinc 9 1, 3) := by decide +kernel
theorem dX6_bestSo_84 : decode cX6_bestSo 84 = .ok (.goto (-49), 3) := by decide +kernel
theorem dX6_bestSo_87 : decode cX6_bestSo 87 = .ok (.lload 7, 2) := by decide +kernel
theorem dX6_bestSo_89 : decode cX6_bestSo 89 = .ok (.lreturn, 1) := by decide +kernel
theorem dX6_yearsLeft_0 : decode cX6_yearsLeft 0 = .ok (.bipush 8, 2) := by decide +kernel
theorem dX6_yearsLeft_2 : decode cX6_yearsLeft 2 = .ok (.aload_n 0, 1) := by decide +kernel
theorem dX6_yearsLeft_3 : decode cX6_yearsLeft 3 = .ok (.getfield 7, 3) := by decide +kernel
theorem dX6_yearsLeft_6 : decode cX6_yearsLeft 6 = .ok (.bipush 21, 2) := by decide +kernel
theorem dX6_yearsLeft_8 : decode cX6_yearsLeft 8 = .ok (.iaload, 1) := by decide +kernel
theorem dX6_yearsLeft_9 : decode cX6_yearsLeft 9 = .ok (.isub, 1) := by decide +kernel
theorem dX6_yearsLeft_10 : decode cX6_yearsLeft 10 = .ok (.istore_n 2, 1) := by decide +kernel
theorem dX6_yearsLeft_11 : decode cX6_yearsLeft 11 = .ok (.iload_n 1, 1) := by decide +kernel
theorem dX6_yearsLeft_12 : decode cX6_yearsLeft 12 = .ok (.iload_n 2, 1) := by decide +kernel
theorem dX6_yearsLeft_13 : decode cX6_yearsLeft 13 = .ok (.if_icmp .ge 7, 3) := by decide +kernel
theorem dX6_yearsLeft_16 : decode cX6_yearsLeft 16 = .ok (.iload_n 1, 1) := by decide +kernel
theorem dX6_yearsLeft_17 : decode cX6_yearsLeft 17 = .ok (.goto 4, 3) := by decide +kernel
theorem dX6_yearsLeft_20 : decode cX6_yearsLeft 20 = .ok (.iload_n 2, 1) := by decide +kernel
theorem dX6_yearsLeft_21 : decode cX6_yearsLeft 21 = .ok (.ireturn, 1) := by decide +kernel
theorem dX6_layWorths_0 : decode cX6_layWorths 0 = .ok (.iconst 0, 1) := by decide +kernel
theorem dX6_layWorths_1 : decode cX6_layWorths 1 = .ok (.istore_n 2, 1) := by decide +kernel
theorem dX6_layWorths_2 : decode cX6_layWorths 2 = .ok (.iload_n 2, 1) := by decide +kernel
theorem dX6_layWorths_3 : decode cX6_layWorths 3 = .ok (.iload_n 1, 1) := by decide +kernel
theorem dX6_layWorths_4 : decode cX6_layWorths 4 = .ok (.if_icmp .gt 106, 3) := by decide +kernel
theorem dX6_layWorths_7 : decode cX6_layWorths 7 = .ok (.aload_n 0, 1) := by decide +kernel
theorem dX6_layWorths_8 : decode cX6_layWorths 8 = .ok (.getfield 7, 3) := by decide +kernel
theorem dX6_layWorths_11 : decode cX6_layWorths 11 = .ok (.bipush 21, 2) := by decide +kernel
theorem dX6_layWorths_13 : decode cX6_layWorths 13 = .ok (.iaload, 1) := by decide +kernel
theorem dX6_layWorths_14 : decode cX6_layWorths 14 = .ok (.iload_n 1, 1) := by decide +kernel
theorem dX6_layWorths_15 : decode cX6_layWorths 15 = .ok (.iadd, 1) := by decide +kernel
theorem dX6_layWorths_16 : decode cX6_layWorths 16 = .ok (.iload_n 2, 1) := by decide +kernel
theorem dX6_layWorths_17 : decode cX6_layWorths 17 = .ok (.isub, 1) := by decide +kernel
theorem dX6_layWorths_18 : decode cX6_layWorths 18 = .ok (.istore_n 3, 1) := by decide +kernel
theorem dX6_layWorths_19 : decode cX6_layWorths 19 = .ok (.iconst 0, 1) := by decide +kernel
theorem dX6_layWorths_20 : decode cX6_layWorths 20 = .ok (.istore 4, 2) := by decide +kernel
theorem dX6_layWorths_22 : decode cX6_layWorths 22 = .ok (.iload 4, 2) := by decide +kernel
theorem dX6_layWorths_24 : decode cX6_layWorths 24 = .ok (.iconst 1, 1) := by decide +kernel
theorem dX6_layWorths_25 : decode cX6_layWorths 25 = .ok (.aload_n 0, 1) := by decide +kernel
theorem dX6_layWorths_26 : decode cX6_layWorths 26 = .ok (.getfield 132, 3) := by decide +kernel
theorem dX6_layWorths_29 : decode cX6_layWorths 29 = .ok (.ishl, 1) := by decide +kernel
theorem dX6_layWorths_30 : decode cX6_layWorths 30 = .ok (.if_icmp .ge 74, 3) := by decide +kernel
theorem dX6_layWorths_33 : decode cX6_layWorths 33 = .ok (.iconst 0, 1) := by decide +kernel
theorem dX6_layWorths_34 : decode cX6_layWorths 34 = .ok (.istore 5, 2) := by decide +kernel
theorem dX6_layWorths_36 : decode cX6_layWorths 36 = .ok (.iload 5, 2) := by decide +kernel
theorem dX6_layWorths_38 : decode cX6_layWorths 38 = .ok (.bipush 40, 2) := by decide +kernel
theorem dX6_layWorths_40 : decode cX6_layWorths 40 = .ok (.if_icmp .gt 58, 3) := by decide +kernel
theorem dX6_layWorths_43 : decode cX6_layWorths 43 = .ok (.aload_n 0, 1) := by decide +kernel
theorem dX6_layWorths_44 : decode cX6_layWorths 44 = .ok (.getfield 31, 3) := by decide +kernel
theorem dX6_layWorths_47 : decode cX6_layWorths 47 = .ok (.iload_n 2, 1) := by decide +kernel
theorem dX6_layWorths_48 : decode cX6_layWorths 48 = .ok (.iload 4, 2) := by decide +kernel
theorem dX6_layWorths_50 : decode cX6_layWorths 50 = .ok (.iload 5, 2) := by decide +kernel
theorem dX6_layWorths_52 : decode cX6_layWorths 52 = .ok (.invokestatic 231, 3) := by decide +kernel
theorem dX6_layWorths_55 : decode cX6_layWorths 55 = .ok (.iload_n 2, 1) := by decide +kernel
theorem dX6_layWorths_56 : decode cX6_layWorths 56 = .ok (.ifCond .eq 8, 3) := by decide +kernel
theorem dX6_layWorths_59 : decode cX6_layWorths 59 = .ok (.iload 4, 2) := by decide +kernel
theorem dX6_layWorths_61 : decode cX6_layWorths 61 = .ok (.ifCond .ne 7, 3) := by decide +kernel
theorem dX6_layWorths_64 : decode cX6_layWorths 64 = .ok (.lconst 0, 1) := by decide +kernel
theorem dX6_layWorths_65 : decode cX6_layWorths 65 = .ok (.goto 26, 3) := by decide +kernel
theorem dX6_layWorths_68 : decode cX6_layWorths 68 = .ok (.aload_n 0, 1) := by decide +kernel
theorem dX6_layWorths_69 : decode cX6_layWorths 69 = .ok (.iload_n 3, 1) := by decide +kernel
theorem dX6_layWorths_70 : decode cX6_layWorths 70 = .ok (.iload_n 2, 1) := by decide +kernel
theorem dX6_layWorths_71 : decode cX6_layWorths 71 = .ok (.iload 4, 2) := by decide +kernel
theorem dX6_layWorths_73 : decode cX6_layWorths 73 = .ok (.iload 5, 2) := by decide +kernel
theorem dX6_layWorths_75 : decode cX6_layWorths 75 = .ok (.iconst 0, 1) := by decide +kernel
theorem dX6_layWorths_76 : decode cX6_layWorths 76 = .ok (.invokevirtual 241, 3) := by decide +kernel
theorem dX6_layWorths_79 : decode cX6_layWorths 79 = .ok (.aload_n 0, 1) := by decide +kernel
theorem dX6_layWorths_80 : decode cX6_layWorths 80 = .ok (.iload_n 3, 1) := by decide +kernel
theorem dX6_layWorths_81 : decode cX6_layWorths 81 = .ok (.iload_n 2, 1) := by decide +kernel
theorem dX6_layWorths_82 : decode cX6_layWorths 82 = .ok (.iload 4, 2) := by decide +kernel
theorem dX6_layWorths_84 : decode cX6_layWorths 84 = .ok (.iload 5, 2) := by decide +kernel
theorem dX6_layWorths_86 : decode cX6_layWorths 86 = .ok (.iconst 1, 1) := by decide +kernel
theorem dX6_layWorths_87 : decode cX6_layWorths 87 = .ok (.invokevirtual 241, 3) := by decide +kernel
theorem dX6_layWorths_90 : decode cX6_layWorths 90 = .ok (.ladd, 1) := by decide +kernel
theorem dX6_layWorths_91 : decode cX6_layWorths 91 = .ok (.lastore, 1) := by decide +kernel
theorem dX6_layWorths_92 : decode cX6_layWorths 92 = .ok (.iinc 5 1, 3) := by decide +kernel
theorem dX6_layWorths_95 : decode cX6_layWorths 95 = .ok (.goto (-59), 3) := by decide +kernel
theorem dX6_layWorths_98 : decode cX6_layWorths 98 = .ok (.iinc 4 1, 3) := by decide +kernel
theorem dX6_layWorths_101 : decode cX6_layWorths 101 = .ok (.goto (-79), 3) := by decide +kernel
theorem dX6_layWorths_104 : decode cX6_layWorths 104 = .ok (.iinc 2 1, 3) := by decide +kernel
theorem dX6_layWorths_107 : decode cX6_layWorths 107 = .ok (.goto (-105), 3) := by decide +kernel
theorem dX6_layWorths_110 : decode cX6_layWorths 110 = .ok (.return_, 1) := by decide +kernel
theorem dX6_bestIn_0 : decode cX6_bestIn 0 = .ok (.aload_n 0, 1) := by decide +kernel
theorem dX6_bestIn_1 : decode cX6_bestIn 1 = .ok (.iload_n 1, 1) := by decide +kernel
theorem dX6_bestIn_2 : decode cX6_bestIn 2 = .ok (.invokevirtual 245, 3) := by decide +kernel
theorem dX6_bestIn_5 : decode cX6_bestIn 5 = .ok (.istore_n 3, 1) := by decide +kernel
theorem dX6_bestIn_6 : decode cX6_bestIn 6 = .ok (.aload_n 0, 1) := by decide +kernel
theorem dX6_bestIn_7 : decode cX6_bestIn 7 = .ok (.iload_n 3, 1) := by decide +kernel
theorem dX6_bestIn_8 : decode cX6_bestIn 8 = .ok (.invokevirtual 248, 3) := by decide +kernel
theorem dX6_bestIn_11 : decode cX6_bestIn 11 = .ok (.aload_n 0, 1) := by decide +kernel
theorem dX6_bestIn_12 : decode cX6_bestIn 12 = .ok (.getfield 31, 3) := by decide +kernel
theorem dX6_bestIn_15 : decode cX6_bestIn 15 = .ok (.iload_n 3, 1) := by decide +kernel
theorem dX6_bestIn_16 : decode cX6_bestIn 16 = .ok (.iload_n 2, 1) := by decide +kernel
theorem dX6_bestIn_17 : decode cX6_bestIn 17 = .ok (.aload_n 0, 1) := by decide +kernel
theorem dX6_bestIn_18 : decode cX6_bestIn 18 = .ok (.getfield 7, 3) := by decide +kernel
theorem dX6_bestIn_21 : decode cX6_bestIn 21 = .ok (.bipush 16, 2) := by decide +kernel
theorem dX6_bestIn_23 : decode cX6_bestIn 23 = .ok (.iaload, 1) := by decide +kernel
theorem dX6_bestIn_24 : decode cX6_bestIn 24 = .ok (.invokestatic 231, 3) := by decide +kernel
theorem dX6_bestIn_27 : decode cX6_bestIn 27 = .ok (.laload, 1) := by decide +kernel
theorem dX6_bestIn_28 : decode cX6_bestIn 28 = .ok (.lreturn, 1) := by decide +kernel
theorem dX6_best_0 : decode cX6_best 0 = .ok (.iload_n 1, 1) := by decide +kernel
theorem dX6_best_1 : decode cX6_best 1 = .ok (.i2l, 1) := by decide +kernel
theorem dX6_best_2 : decode cX6_best 2 = .ok (.lconst 0, 1) := by decide +kernel
theorem dX6_best_3 : decode cX6_best 3 = .ok (.ldc2_w 109, 3) := by decide +kernel
theorem dX6_best_6 : decode cX6_best 6 = .ok (.invokestatic 53, 3) := by decide +kernel
theorem dX6_best_9 : decode cX6_best 9 = .ok (.ifCond .eq 13, 3) := by decide +kernel
theorem dX6_best_12 : decode cX6_best 12 = .ok (.iload_n 2, 1) := by decide +kernel
theorem dX6_best_13 : decode cX6_best 13 = .ok (.i2l, 1) := by decide +kernel
theorem dX6_best_14 : decode cX6_best 14 = .ok (.lconst 0, 1) := by decide +kernel
theorem dX6_best_15 : decode cX6_best 15 = .ok (.lconst 1, 1) := by decide +kernel
theorem dX6_best_16 : decode cX6_best 16 = .ok (.invokestatic 53, 3) := by decide +kernel
theorem dX6_best_19 : decode cX6_best 19 = .ok (.ifCond .ne 7, 3) := by decide +kernel
theorem dX6_best_22 : decode cX6_best 22 = .ok (.ldc2_w 216, 3) := by decide +kernel
theorem dX6_best_25 : decode cX6_best 25 = .ok (.lreturn, 1) := by decide +kernel
theorem dX6_best_26 : decode cX6_best 26 = .ok (.aload_n 0, 1) := by decide +kernel
theorem dX6_best_27 : decode cX6_best 27 = .ok (.invokevirtual 211, 3) := by decide +kernel
theorem dX6_best_30 : decode cX6_best 30 = .ok (.istore_n 3, 1) := by decide +kernel
theorem dX6_best_31 : decode cX6_best 31 = .ok (.iload_n 3, 1) := by decide +kernel
theorem dX6_best_32 : decode cX6_best 32 = .ok (.ifCond .ne 9, 3) := by decide +kernel
theorem dX6_best_35 : decode cX6_best 35 = .ok (.ldc2_w 218, 3) := by decide +kernel
theorem dX6_best_38 : decode cX6_best 38 = .ok (.goto 18, 3) := by decide +kernel
theorem dX6_best_41 : decode cX6_best 41 = .ok (.aload_n 0, 1) := by decide +kernel
theorem dX6_best_42 : decode cX6_best 42 = .ok (.iload_n 1, 1) := by decide +kernel
theorem dX6_best_43 : decode cX6_best 43 = .ok (.iload_n 3, 1) := by decide +kernel
theorem dX6_best_44 : decode cX6_best 44 = .ok (.invokevirtual 251, 3) := by decide +kernel
theorem dX6_best_47 : decode cX6_best 47 = .ok (.aload_n 0, 1) := by decide +kernel
theorem dX6_best_48 : decode cX6_best 48 = .ok (.iload_n 3, 1) := by decide +kernel
theorem dX6_best_49 : decode cX6_best 49 = .ok (.invokevirtual 223, 3) := by decide +kernel
theorem dX6_best_52 : decode cX6_best 52 = .ok (.iload_n 2, 1) := by decide +kernel
theorem dX6_best_53 : decode cX6_best 53 = .ok (.invokestatic 227, 3) := by decide +kernel
theorem dX6_best_56 : decode cX6_best 56 = .ok (.lreturn, 1) := by decide +kernel
theorem dX6_choice_0 : decode cX6_choice 0 = .ok (.iload_n 1, 1) := by decide +kernel
theorem dX6_choice_1 : decode cX6_choice 1 = .ok (.i2l, 1) := by decide +kernel
theorem dX6_choice_2 : decode cX6_choice 2 = .ok (.lconst 1, 1) := by decide +kernel
theorem dX6_choice_3 : decode cX6_choice 3 = .ok (.ldc2_w 109, 3) := by decide +kernel
theorem dX6_choice_6 : decode cX6_choice 6 = .ok (.invokestatic 53, 3) := by decide +kernel
theorem dX6_choice_9 : decode cX6_choice 9 = .ok (.ifCond .eq 10, 3) := by decide +kernel
theorem dX6_choice_12 : decode cX6_choice 12 = .ok (.iload_n 2, 1) := by decide +kernel
theorem dX6_choice_13 : decode cX6_choice 13 = .ok (.invokestatic 163, 3) := by decide +kernel
theorem dX6_choice_16 : decode cX6_choice 16 = .ok (.ifCond .ne 5, 3) := by decide +kernel
theorem dX6_choice_19 : decode cX6_choice 19 = .ok (.iconst (-1), 1) := by decide +kernel
theorem dX6_choice_20 : decode cX6_choice 20 = .ok (.ireturn, 1) := by decide +kernel
theorem dX6_choice_21 : decode cX6_choice 21 = .ok (.aload_n 0, 1) := by decide +kernel
theorem dX6_choice_22 : decode cX6_choice 22 = .ok (.invokevirtual 211, 3) := by decide +kernel
theorem dX6_choice_25 : decode cX6_choice 25 = .ok (.istore_n 3, 1) := by decide +kernel
theorem dX6_choice_26 : decode cX6_choice 26 = .ok (.iload_n 3, 1) := by decide +kernel
theorem dX6_choice_27 : decode cX6_choice 27 = .ok (.ifCond .eq 15, 3) := by decide +kernel
theorem dX6_choice_30 : decode cX6_choice 30 = .ok (.aload_n 0, 1) := by decide +kernel
theorem dX6_choice_31 : decode cX6_choice 31 = .ok (.getfield 7, 3) := by decide +kernel
theorem dX6_choice_34 : decode cX6_choice 34 = .ok (.bipush 21, 2) := by decide +kernel
theorem dX6_choice_36 : decode cX6_choice 36 = .ok (.iaload, 1) := by decide +kernel
theorem dX6_choice_37 : decode cX6_choice 37 = .ok (.bipush 8, 2) := by decide +kernel
theorem dX6_choice_39 : decode cX6_choice 39 = .ok (.if_icmp .ne 6, 3) := by decide +kernel
theorem dX6_choice_42 : decode cX6_choice 42 = .ok (.bipush (-2), 2) := by decide +kernel
theorem dX6_choice_44 : decode cX6_choice 44 = .ok (.ireturn, 1) := by decide +kernel
theorem dX6_choice_45 : decode cX6_choice 45 = .ok (.aload_n 0, 1) := by decide +kernel
theorem dX6_choice_46 : decode cX6_choice 46 = .ok (.iload_n 3, 1) := by decide +kernel
theorem dX6_choice_47 : decode cX6_choice 47 = .ok (.aload_n 0, 1) := by decide +kernel
theorem dX6_choice_48 : decode cX6_choice 48 = .ok (.getfield 7, 3) := by decide +kernel
theorem dX6_choice_51 : decode cX6_choice 51 = .ok (.bipush 21, 2) := by decide +kernel
theorem dX6_choice_53 : decode cX6_choice 53 = .ok (.iaload, 1) := by decide +kernel
theorem dX6_choice_54 : decode cX6_choice 54 = .ok (.iload_n 2, 1) := by decide +kernel
theorem dX6_choice_55 : decode cX6_choice 55 = .ok (.invokevirtual 220, 3) := by decide +kernel
theorem dX6_choice_58 : decode cX6_choice 58 = .ok (.istore 4, 2) := by decide +kernel
theorem dX6_choice_60 : decode cX6_choice 60 = .ok (.iload 4, 2) := by decide +kernel
theorem dX6_choice_62 : decode cX6_choice 62 = .ok (.ifCond .ne 6, 3) := by decide +kernel
theorem dX6_choice_65 : decode cX6_choice 65 = .ok (.bipush (-4), 2) := by decide +kernel
theorem dX6_choice_67 : decode cX6_choice 67 = .ok (.ireturn, 1) := by decide +kernel
theorem dX6_choice_68 : decode cX6_choice 68 = .ok (.aload_n 0, 1) := by decide +kernel
theorem dX6_choice_69 : decode cX6_choice 69 = .ok (.iload_n 1, 1) := by decide +kernel
theorem dX6_choice_70 : decode cX6_choice 70 = .ok (.invokevirtual 245, 3) := by decide +kernel
theorem dX6_choice_73 : decode cX6_choice 73 = .ok (.istore 5, 2) := by decide +kernel
theorem dX6_choice_75 : decode cX6_choice 75 = .ok (.aload_n 0, 1) := by decide +kernel
theorem dX6_choice_76 : decode cX6_choice 76 = .ok (.iload 5, 2) := by decide +kernel
theorem dX6_choice_78 : decode cX6_choice 78 = .ok (.invokevirtual 248, 3) := by decide +kernel
theorem dX6_choice_81 : decode cX6_choice 81 = .ok (.aload_n 0, 1) := by decide +kernel
theorem dX6_choice_82 : decode cX6_choice 82 = .ok (.aload_n 0, 1) := by decide +kernel
theorem dX6_choice_83 : decode cX6_choice 83 = .ok (.getfield 7, 3) := by decide +kernel
theorem dX6_choice_86 : decode cX6_choice 86 = .ok (.bipush 21, 2) := by decide +kernel
theorem dX6_choice_88 : decode cX6_choice 88 = .ok (.iaload, 1) := by decide +kernel
theorem dX6_choice_89 : decode cX6_choice 89 = .ok (.iload 5, 2) := by decide +kernel
theorem dX6_choice_91 : decode cX6_choice 91 = .ok (.iload_n 3, 1) := by decide +kernel
theorem dX6_choice_92 : decode cX6_choice 92 = .ok (.aload_n 0, 1) := by decide +kernel
theorem dX6_choice_93 : decode cX6_choice 93 = .ok (.getfield 7, 3) := by decide +kernel
theorem dX6_choice_96 : decode cX6_choice 96 = .ok (.bipush 16, 2) := by decide +kernel
theorem dX6_choice_98 : decode cX6_choice 98 = .ok (.iaload, 1) := by decide +kernel
theorem dX6_choice_99 : decode cX6_choice 99 = .ok (.iload_n 2, 1) := by decide +kernel
theorem dX6_choice_100 : decode cX6_choice 100 = .ok (.invokevirtual 241, 3) := by decide +kernel
theorem dX6_choice_103 : decode cX6_choice 103 = .ok (.lstore 6, 2) := by decide +kernel
theorem dX6_choice_105 : decode cX6_choice 105 = .ok (.iconst 0, 1) := by decide +kernel
theorem dX6_choice_106 : decode cX6_choice 106 = .ok (.istore 8, 2) := by decide +kernel
theorem dX6_choice_108 : decode cX6_choice 108 = .ok (.aload_n 0, 1) := by decide +kernel
theorem dX6_choice_109 : decode cX6_choice 109 = .ok (.aload_n 0, 1) := by decide +kernel
theorem dX6_choice_110 : decode cX6_choice 110 = .ok (.getfield 7, 3) := by decide +kernel
theorem dX6_choice_113 : decode cX6_choice 113 = .ok (.bipush 21, 2) := by decide +kernel
theorem dX6_choice_115 : decode cX6_choice 115 = .ok (.iaload, 1) := by decide +kernel
theorem dX6_choice_116 : decode cX6_choice 116 = .ok (.iload 5, 2) := by decide +kernel
theorem dX6_choice_118 : decode cX6_choice 118 = .ok (.iload 4, 2) := by decide +kernel
theorem dX6_choice_120 : decode cX6_choice 120 = .ok (.aload_n 0, 1) := by decide +kernel
theorem dX6_choice_121 : decode cX6_choice 121 = .ok (.getfield 7, 3) := by decide +kernel
theorem dX6_choice_124 : decode cX6_choice 124 = .ok (.bipush 16, 2) := by decide +kernel
theorem dX6_choice_126 : decode cX6_choice 126 = .ok (.iaload, 1) := by decide +kernel
theorem dX6_choice_127 : decode cX6_choice 127 = .ok (.iload_n 2, 1) := by decide +kernel
theorem dX6_choice_128 : decode cX6_choice 128 = .ok (.iload 8, 2) := by decide +kernel
theorem dX6_choice_130 : decode cX6_choice 130 = .ok (.invokevirtual 234, 3) := by decide +kernel
theorem dX6_choice_133 : decode cX6_choice 133 = .ok (.lload 6, 2) := by decide +kernel
theorem dX6_choice_135 : decode cX6_choice 135 = .ok (.lcmp, 1) := by decide +kernel
theorem dX6_choice_136 : decode cX6_choice 136 = .ok (.ifCond .eq 9, 3) := by decide +kernel
theorem dX6_choice_139 : decode cX6_choice 139 = .ok (.iinc 8 1, 3) := by decide +kernel
theorem dX6_choice_142 : decode cX6_choice 142 = .ok (.goto (-34), 3) := by decide +kernel
theorem dX6_choice_145 : decode cX6_choice 145 = .ok (.iload 8, 2) := by decide +kernel
theorem dX6_choice_147 : decode cX6_choice 147 = .ok (.ireturn, 1) := by decide +kernel
theorem dX6_knowing_0 : decode cX6_knowing 0 = .ok (.iload_n 1, 1) := by decide +kernel
theorem dX6_knowing_1 : decode cX6_knowing 1 = .ok (.i2l, 1) := by decide +kernel
theorem dX6_knowing_2 : decode cX6_knowing 2 = .ok (.lconst 0, 1) := by decide +kernel
theorem dX6_knowing_3 : decode cX6_knowing 3 = .ok (.ldc2_w 109, 3) := by decide +kernel
theorem dX6_knowing_6 : decode cX6_knowing 6 = .ok (.invokestatic 53, 3) := by decide +kernel
theorem dX6_knowing_9 : decode cX6_knowing 9 = .ok (.ifCond .eq 13, 3) := by decide +kernel
theorem dX6_knowing_12 : decode cX6_knowing 12 = .ok (.iload_n 2, 1) := by decide +kernel
theorem dX6_knowing_13 : decode cX6_knowing 13 = .ok (.i2l, 1) := by decide +kernel
theorem dX6_knowing_14 : decode cX6_knowing 14 = .ok (.lconst 0, 1) := by decide +kernel
theorem dX6_knowing_15 : decode cX6_knowing 15 = .ok (.lconst 1, 1) := by decide +kernel
theorem dX6_knowing_16 : decode cX6_knowing 16 = .ok (.invokestatic 53, 3) := by decide +kernel
theorem dX6_knowing_19 : decode cX6_knowing 19 = .ok (.ifCond .ne 7, 3) := by decide +kernel
theorem dX6_knowing_22 : decode cX6_knowing 22 = .ok (.ldc2_w 216, 3) := by decide +kernel
theorem dX6_knowing_25 : decode cX6_knowing 25 = .ok (.lreturn, 1) := by decide +kernel
theorem dX6_knowing_26 : decode cX6_knowing 26 = .ok (.aload_n 0, 1) := by decide +kernel
theorem dX6_knowing_27 : decode cX6_knowing 27 = .ok (.invokevirtual 211, 3) := by decide +kernel
theorem dX6_knowing_30 : decode cX6_knowing 30 = .ok (.istore_n 3, 1) := by decide +kernel
theorem dX6_knowing_31 : decode cX6_knowing 31 = .ok (.iload_n 3, 1) := by decide +kernel
theorem dX6_knowing_32 : decode cX6_knowing 32 = .ok (.ifCond .ne 7, 3) := by decide +kernel
theorem dX6_knowing_35 : decode cX6_knowing 35 = .ok (.ldc2_w 218, 3) := by decide +kernel
theorem dX6_knowing_38 : decode cX6_knowing 38 = .ok (.lreturn, 1) := by decide +kernel
theorem dX6_knowing_39 : decode cX6_knowing 39 = .ok (.aload_n 0, 1) := by decide +kernel
theorem dX6_knowing_40 : decode cX6_knowing 40 = .ok (.iload_n 1, 1) := by decide +kernel
theorem dX6_knowing_41 : decode cX6_knowing 41 = .ok (.iload_n 3, 1) := by decide +kernel
theorem dX6_knowing_42 : decode cX6_knowing 42 = .ok (.invokevirtual 251, 3) := by decide +kernel
theorem dX6_knowing_45 : decode cX6_knowing 45 = .ok (.lneg, 1) := by decide +kernel
theorem dX6_knowing_46 : decode cX6_knowing 46 = .ok (.lstore 4, 2) := by decide +kernel
theorem dX6_knowing_48 : decode cX6_knowing 48 = .ok (.iconst 0, 1) := by decide +kernel
theorem dX6_knowing_49 : decode cX6_knowing 49 = .ok (.istore 6, 2) := by decide +kernel
theorem dX6_knowing_51 : decode cX6_knowing 51 = .ok (.iload 6, 2) := by decide +kernel
theorem dX6_knowing_53 : decode cX6_knowing 53 = .ok (.aload_n 0, 1) := by decide +kernel
theorem dX6_knowing_54 : decode cX6_knowing 54 = .ok (.getfield 132, 3) := by decide +kernel
theorem dX6_knowing_57 : decode cX6_knowing 57 = .ok (.if_icmp .ge 37, 3) := by decide +kernel
theorem dX6_knowing_60 : decode cX6_knowing 60 = .ok (.lload 4, 2) := by decide +kernel
theorem dX6_knowing_62 : decode cX6_knowing 62 = .ok (.iload_n 3, 1) := by decide +kernel
theorem dX6_knowing_63 : decode cX6_knowing 63 = .ok (.iload 6, 2) := by decide +kernel
theorem dX6_knowing_65 : decode cX6_knowing 65 = .ok (.ishr, 1) := by decide +kernel
theorem dX6_knowing_66 : decode cX6_knowing 66 = .ok (.iconst 1, 1) := by decide +kernel
theorem dX6_knowing_67 : decode cX6_knowing 67 = .ok (.iand, 1) := by decide +kernel
theorem dX6_knowing_68 : decode cX6_knowing 68 = .ok (.iconst 1, 1) := by decide +kernel
theorem dX6_knowing_69 : decode cX6_knowing 69 = .ok (.if_icmp .ne 15, 3) := by decide +kernel
theorem dX6_knowing_72 : decode cX6_knowing 72 = .ok (.aload_n 0, 1) := by decide +kernel
theorem dX6_knowing_73 : decode cX6_knowing 73 = .ok (.iload_n 1, 1) := by decide +kernel
theorem dX6_knowing_74 : decode cX6_knowing 74 = .ok (.iconst 1, 1) := by decide +kernel
theorem dX6_knowing_75 : decode cX6_knowing 75 = .ok (.iload 6, 2) := by decide +kernel
theorem dX6_knowing_77 : decode cX6_knowing 77 = .ok (.ishl, 1) := by decide +kernel
theorem dX6_knowing_78 : decode cX6_knowing 78 = .ok (.invokevirtual 251, 3) := by decide +kernel
theorem dX6_knowing_81 : decode cX6_knowing 81 = .ok (.goto 4, 3) := by decide +kernel
theorem dX6_knowing_84 : decode cX6_knowing 84 = .ok (.lconst 0, 1) := by decide +kernel
theorem dX6_knowing_85 : decode cX6_knowing 85 = .ok (.ladd, 1) := by decide +kernel
theorem dX6_knowing_86 : decode cX6_knowing 86 = .ok (.lstore 4, 2) := by decide +kernel
theorem dX6_knowing_88 : decode cX6_knowing 88 = .ok (.iinc 6 1, 3) := by decide +kernel
theorem dX6_knowing_91 : decode cX6_knowing 91 = .ok (.goto (-40), 3) := by decide +kernel
theorem dX6_knowing_94 : decode cX6_knowing 94 = .ok (.lload 4, 2) := by decide +kernel
theorem dX6_knowing_96 : decode cX6_knowing 96 = .ok (.aload_n 0, 1) := by decide +kernel
theorem dX6_knowing_97 : decode cX6_knowing 97 = .ok (.iload_n 3, 1) := by decide +kernel
theorem dX6_knowing_98 : decode cX6_knowing 98 = .ok (.invokevirtual 223, 3) := by decide +kernel
theorem dX6_knowing_101 : decode cX6_knowing 101 = .ok (.iload_n 2, 1) := by decide +kernel
theorem dX6_knowing_102 : decode cX6_knowing 102 = .ok (.invokestatic 227, 3) := by decide +kernel
theorem dX6_knowing_105 : decode cX6_knowing 105 = .ok (.lreturn, 1) := by decide +kernel
theorem dX6_worth_0 : decode cX6_worth 0 = .ok (.aload_n 0, 1) := by decide +kernel
theorem dX6_worth_1 : decode cX6_worth 1 = .ok (.iload_n 1, 1) := by decide +kernel
theorem dX6_worth_2 : decode cX6_worth 2 = .ok (.invokevirtual 149, 3) := by decide +kernel
theorem dX6_worth_5 : decode cX6_worth 5 = .ok (.ifCond .eq 25, 3) := by decide +kernel
theorem dX6_worth_8 : decode cX6_worth 8 = .ok (.iload_n 2, 1) := by decide +kernel
theorem dX6_worth_9 : decode cX6_worth 9 = .ok (.i2l, 1) := by decide +kernel
theorem dX6_worth_10 : decode cX6_worth 10 = .ok (.lconst 0, 1) := by decide +kernel
theorem dX6_worth_11 : decode cX6_worth 11 = .ok (.ldc2_w 109, 3) := by decide +kernel
theorem dX6_worth_14 : decode cX6_worth 14 = .ok (.invokestatic 53, 3) := by decide +kernel
theorem dX6_worth_17 : decode cX6_worth 17 = .ok (.ifCond .eq 13, 3) := by decide +kernel
theorem dX6_worth_20 : decode cX6_worth 20 = .ok (.iload_n 3, 1) := by decide +kernel
theorem dX6_worth_21 : decode cX6_worth 21 = .ok (.i2l, 1) := by decide +kernel
theorem dX6_worth_22 : decode cX6_worth 22 = .ok (.lconst 0, 1) := by decide +kernel
theorem dX6_worth_23 : decode cX6_worth 23 = .ok (.lconst 1, 1) := by decide +kernel
theorem dX6_worth_24 : decode cX6_worth 24 = .ok (.invokestatic 53, 3) := by decide +kernel
theorem dX6_worth_27 : decode cX6_worth 27 = .ok (.ifCond .ne 7, 3) := by decide +kernel
theorem dX6_worth_30 : decode cX6_worth 30 = .ok (.ldc2_w 216, 3) := by decide +kernel
theorem dX6_worth_33 : decode cX6_worth 33 = .ok (.lreturn, 1) := by decide +kernel
theorem dX6_worth_34 : decode cX6_worth 34 = .ok (.aload_n 0, 1) := by decide +kernel
theorem dX6_worth_35 : decode cX6_worth 35 = .ok (.invokevirtual 211, 3) := by decide +kernel
theorem dX6_worth_38 : decode cX6_worth 38 = .ok (.istore 4, 2) := by decide +kernel
theorem dX6_worth_40 : decode cX6_worth 40 = .ok (.iload 4, 2) := by decide +kernel
theorem dX6_worth_42 : decode cX6_worth 42 = .ok (.ifCond .ne 7, 3) := by decide +kernel
theorem dX6_worth_45 : decode cX6_worth 45 = .ok (.ldc2_w 218, 3) := by decide +kernel
theorem dX6_worth_48 : decode cX6_worth 48 = .ok (.lreturn, 1) := by decide +kernel
theorem dX6_worth_49 : decode cX6_worth 49 = .ok (.aload_n 0, 1) := by decide +kernel
theorem dX6_worth_50 : decode cX6_worth 50 = .ok (.iload_n 2, 1) := by decide +kernel
theorem dX6_worth_51 : decode cX6_worth 51 = .ok (.iload 4, 2) := by decide +kernel
theorem dX6_worth_53 : decode cX6_worth 53 = .ok (.invokevirtual 251, 3) := by decide +kernel
theorem dX6_worth_56 : decode cX6_worth 56 = .ok (.lstore 5, 2) := by decide +kernel
theorem dX6_worth_58 : decode cX6_worth 58 = .ok (.aload_n 0, 1) := by decide +kernel
theorem dX6_worth_59 : decode cX6_worth 59 = .ok (.getfield 7, 3) := by decide +kernel
theorem dX6_worth_62 : decode cX6_worth 62 = .ok (.iconst 2, 1) := by decide +kernel
theorem dX6_worth_63 : decode cX6_worth 63 = .ok (.iload_n 1, 1) := by decide +kernel
theorem dX6_worth_64 : decode cX6_worth 64 = .ok (.imul, 1) := by decide +kernel
theorem dX6_worth_65 : decode cX6_worth 65 = .ok (.iaload, 1) := by decide +kernel
theorem dX6_worth_66 : decode cX6_worth 66 = .ok (.istore 7, 2) := by decide +kernel
theorem dX6_worth_68 : decode cX6_worth 68 = .ok (.aload_n 0, 1) := by decide +kernel
theorem dX6_worth_69 : decode cX6_worth 69 = .ok (.getfield 7, 3) := by decide +kernel
theorem dX6_worth_72 : decode cX6_worth 72 = .ok (.iconst 2, 1) := by decide +kernel
theorem dX6_worth_73 : decode cX6_worth 73 = .ok (.iload_n 1, 1) := by decide +kernel
theorem dX6_worth_74 : decode cX6_worth 74 = .ok (.imul, 1) := by decide +kernel
theorem dX6_worth_75 : decode cX6_worth 75 = .ok (.iconst 1, 1) := by decide +kernel
theorem dX6_worth_76 : decode cX6_worth 76 = .ok (.iadd, 1) := by decide +kernel
theorem dX6_worth_77 : decode cX6_worth 77 = .ok (.iaload, 1) := by decide +kernel
theorem dX6_worth_78 : decode cX6_worth 78 = .ok (.istore 8, 2) := by decide +kernel
theorem dX6_worth_80 : decode cX6_worth 80 = .ok (.aload_n 0, 1) := by decide +kernel
theorem dX6_worth_81 : decode cX6_worth 81 = .ok (.getfield 7, 3) := by decide +kernel
theorem dX6_worth_84 : decode cX6_worth 84 = .ok (.iconst 2, 1) := by decide +kernel
theorem dX6_worth_85 : decode cX6_worth 85 = .ok (.iload_n 1, 1) := by decide +kernel
theorem dX6_worth_86 : decode cX6_worth 86 = .ok (.imul, 1) := by decide +kernel
theorem dX6_worth_87 : decode cX6_worth 87 = .ok (.iconst 0, 1) := by decide +kernel
theorem dX6_worth_88 : decode cX6_worth 88 = .ok (.iastore, 1) := by decide +kernel
theorem dX6_worth_89 : decode cX6_worth 89 = .ok (.aload_n 0, 1) := by decide +kernel
theorem dX6_worth_90 : decode cX6_worth 90 = .ok (.getfield 7, 3) := by decide +kernel
theorem dX6_worth_93 : decode cX6_worth 93 = .ok (.iconst 2, 1) := by decide +kernel
theorem dX6_worth_94 : decode cX6_worth 94 = .ok (.iload_n 1, 1) := by decide +kernel
theorem dX6_worth_95 : decode cX6_worth 95 = .ok (.imul, 1) := by decide +kernel
theorem dX6_worth_96 : decode cX6_worth 96 = .ok (.iconst 1, 1) := by decide +kernel
theorem dX6_worth_97 : decode cX6_worth 97 = .ok (.iadd, 1) := by decide +kernel
theorem dX6_worth_98 : decode cX6_worth 98 = .ok (.iconst 0, 1) := by decide +kernel
theorem dX6_worth_99 : decode cX6_worth 99 = .ok (.iastore, 1) := by decide +kernel
theorem dX6_worth_100 : decode cX6_worth 100 = .ok (.aload_n 0, 1) := by decide +kernel
theorem dX6_worth_101 : decode cX6_worth 101 = .ok (.iload_n 2, 1) := by decide +kernel
theorem dX6_worth_102 : decode cX6_worth 102 = .ok (.iload 4, 2) := by decide +kernel
theorem dX6_worth_104 : decode cX6_worth 104 = .ok (.invokevirtual 251, 3) := by decide +kernel
theorem dX6_worth_107 : decode cX6_worth 107 = .ok (.lstore 9, 2) := by decide +kernel
theorem dX6_worth_109 : decode cX6_worth 109 = .ok (.aload_n 0, 1) := by decide +kernel
theorem dX6_worth_110 : decode cX6_worth 110 = .ok (.getfield 7, 3) := by decide +kernel
theorem dX6_worth_113 : decode cX6_worth 113 = .ok (.iconst 2, 1) := by decide +kernel
theorem dX6_worth_114 : decode cX6_worth 114 = .ok (.iload_n 1, 1) := by decide +kernel
theorem dX6_worth_115 : decode cX6_worth 115 = .ok (.imul, 1) := by decide +kernel
theorem dX6_worth_116 : decode cX6_worth 116 = .ok (.iload 7, 2) := by decide +kernel
theorem dX6_worth_118 : decode cX6_worth 118 = .ok (.iastore, 1) := by decide +kernel
theorem dX6_worth_119 : decode cX6_worth 119 = .ok (.aload_n 0, 1) := by decide +kernel
theorem dX6_worth_120 : decode cX6_worth 120 = .ok (.getfield 7, 3) := by decide +kernel
theorem dX6_worth_123 : decode cX6_worth 123 = .ok (.iconst 2, 1) := by decide +kernel
theorem dX6_worth_124 : decode cX6_worth 124 = .ok (.iload_n 1, 1) := by decide +kernel
theorem dX6_worth_125 : decode cX6_worth 125 = .ok (.imul, 1) := by decide +kernel
theorem dX6_worth_126 : decode cX6_worth 126 = .ok (.iconst 1, 1) := by decide +kernel
theorem dX6_worth_127 : decode cX6_worth 127 = .ok (.iadd, 1) := by decide +kernel
theorem dX6_worth_128 : decode cX6_worth 128 = .ok (.iload 8, 2) := by decide +kernel
theorem dX6_worth_130 : decode cX6_worth 130 = .ok (.iastore, 1) := by decide +kernel
theorem dX6_worth_131 : decode cX6_worth 131 = .ok (.lload 5, 2) := by decide +kernel
theorem dX6_worth_133 : decode cX6_worth 133 = .ok (.lload 9, 2) := by decide +kernel
theorem dX6_worth_135 : decode cX6_worth 135 = .ok (.lsub, 1) := by decide +kernel
theorem dX6_worth_136 : decode cX6_worth 136 = .ok (.aload_n 0, 1) := by decide +kernel
theorem dX6_worth_137 : decode cX6_worth 137 = .ok (.iload 4, 2) := by decide +kernel
theorem dX6_worth_139 : decode cX6_worth 139 = .ok (.invokevirtual 223, 3) := by decide +kernel
theorem dX6_worth_142 : decode cX6_worth 142 = .ok (.iload_n 3, 1) := by decide +kernel
theorem dX6_worth_143 : decode cX6_worth 143 = .ok (.invokestatic 227, 3) := by decide +kernel
theorem dX6_worth_146 : decode cX6_worth 146 = .ok (.lreturn, 1) := by decide +kernel
theorem dX6_isSafe_0 : decode cX6_isSafe 0 = .ok (.iconst 1, 1) := by decide +kernel
theorem dX6_isSafe_1 : decode cX6_isSafe 1 = .ok (.istore_n 1, 1) := by decide +kernel
theorem dX6_isSafe_2 : decode cX6_isSafe 2 = .ok (.iconst 0, 1) := by decide +kernel
theorem dX6_isSafe_3 : decode cX6_isSafe 3 = .ok (.istore_n 2, 1) := by decide +kernel
theorem dX6_isSafe_4 : decode cX6_isSafe 4 = .ok (.iload_n 2, 1) := by decide +kernel
theorem dX6_isSafe_5 : decode cX6_isSafe 5 = .ok (.aload_n 0, 1) := by decide +kernel
theorem dX6_isSafe_6 : decode cX6_isSafe 6 = .ok (.getfield 132, 3) := by decide +kernel
theorem dX6_isSafe_9 : decode cX6_isSafe 9 = .ok (.if_icmp .ge 45, 3) := by decide +kernel
theorem dX6_isSafe_12 : decode cX6_isSafe 12 = .ok (.aload_n 0, 1) := by decide +kernel
theorem dX6_isSafe_13 : decode cX6_isSafe 13 = .ok (.iload_n 2, 1) := by decide +kernel
theorem dX6_isSafe_14 : decode cX6_isSafe 14 = .ok (.invokevirtual 160, 3) := by decide +kernel
theorem dX6_isSafe_17 : decode cX6_isSafe 17 = .ok (.ifCond .eq 31, 3) := by decide +kernel
theorem dX6_isSafe_20 : decode cX6_isSafe 20 = .ok (.aload_n 0, 1) := by decide +kernel
theorem dX6_isSafe_21 : decode cX6_isSafe 21 = .ok (.bipush 75, 2) := by decide +kernel
theorem dX6_isSafe_23 : decode cX6_isSafe 23 = .ok (.bipush 100, 2) := by decide +kernel
theorem dX6_isSafe_25 : decode cX6_isSafe 25 = .ok (.invokevirtual 201, 3) := by decide +kernel
theorem dX6_isSafe_28 : decode cX6_isSafe 28 = .ok (.iload_n 1, 1) := by decide +kernel
theorem dX6_isSafe_29 : decode cX6_isSafe 29 = .ok (.ifCond .eq 17, 3) := by decide +kernel
theorem dX6_isSafe_32 : decode cX6_isSafe 32 = .ok (.aload_n 0, 1) := by decide +kernel
theorem dX6_isSafe_33 : decode cX6_isSafe 33 = .ok (.iload_n 2, 1) := by decide +kernel
theorem dX6_isSafe_34 : decode cX6_isSafe 34 = .ok (.invokevirtual 208, 3) := by decide +kernel
theorem dX6_isSafe_37 : decode cX6_isSafe 37 = .ok (.bipush (-4), 2) := by decide +kernel
theorem dX6_isSafe_39 : decode cX6_isSafe 39 = .ok (.if_icmp .ne 7, 3) := by decide +kernel
theorem dX6_isSafe_42 : decode cX6_isSafe 42 = .ok (.iconst 1, 1) := by decide +kernel
theorem dX6_isSafe_43 : decode cX6_isSafe 43 = .ok (.goto 4, 3) := by decide +kernel
theorem dX6_isSafe_46 : decode cX6_isSafe 46 = .ok (.iconst 0, 1) := by decide +kernel
theorem dX6_isSafe_47 : decode cX6_isSafe 47 = .ok (.istore_n 1, 1) := by decide +kernel
theorem dX6_isSafe_48 : decode cX6_isSafe 48 = .ok (.iinc 2 1, 3) := by decide +kernel
theorem dX6_isSafe_51 : decode cX6_isSafe 51 = .ok (.goto (-47), 3) := by decide +kernel
theorem dX6_isSafe_54 : decode cX6_isSafe 54 = .ok (.iload_n 1, 1) := by decide +kernel
theorem dX6_isSafe_55 : decode cX6_isSafe 55 = .ok (.ireturn, 1) := by decide +kernel
theorem dX6_safe_0 : decode cX6_safe 0 = .ok (.iload_n 1, 1) := by decide +kernel
theorem dX6_safe_1 : decode cX6_safe 1 = .ok (.i2l, 1) := by decide +kernel
theorem dX6_safe_2 : decode cX6_safe 2 = .ok (.lconst 0, 1) := by decide +kernel
theorem dX6_safe_3 : decode cX6_safe 3 = .ok (.ldc2_w 177, 3) := by decide +kernel
theorem dX6_safe_6 : decode cX6_safe 6 = .ok (.invokestatic 53, 3) := by decide +kernel
theorem dX6_safe_9 : decode cX6_safe 9 = .ok (.ifCond .ne 5, 3) := by decide +kernel
theorem dX6_safe_12 : decode cX6_safe 12 = .ok (.iconst (-1), 1) := by decide +kernel
theorem dX6_safe_13 : decode cX6_safe 13 = .ok (.ireturn, 1) := by decide +kernel
theorem dX6_safe_14 : decode cX6_safe 14 = .ok (.iconst 0, 1) := by decide +kernel
theorem dX6_safe_15 : decode cX6_safe 15 = .ok (.istore_n 2, 1) := by decide +kernel
theorem dX6_safe_16 : decode cX6_safe 16 = .ok (.aload_n 0, 1) := by decide +kernel
theorem dX6_safe_17 : decode cX6_safe 17 = .ok (.iconst 0, 1) := by decide +kernel
theorem dX6_safe_18 : decode cX6_safe 18 = .ok (.bipush 75, 2) := by decide +kernel
theorem dX6_safe_20 : decode cX6_safe 20 = .ok (.invokevirtual 201, 3) := by decide +kernel
theorem dX6_safe_23 : decode cX6_safe 23 = .ok (.aload_n 0, 1) := by decide +kernel
theorem dX6_safe_24 : decode cX6_safe 24 = .ok (.getfield 7, 3) := by decide +kernel
theorem dX6_safe_27 : decode cX6_safe 27 = .ok (.bipush 94, 2) := by decide +kernel
theorem dX6_safe_29 : decode cX6_safe 29 = .ok (.iload_n 1, 1) := by decide +kernel
theorem dX6_safe_30 : decode cX6_safe 30 = .ok (.iastore, 1) := by decide +kernel
theorem dX6_safe_31 : decode cX6_safe 31 = .ok (.iconst 0, 1) := by decide +kernel
theorem dX6_safe_32 : decode cX6_safe 32 = .ok (.istore_n 3, 1) := by decide +kernel
theorem dX6_safe_33 : decode cX6_safe 33 = .ok (.iload_n 3, 1) := by decide +kernel
theorem dX6_safe_34 : decode cX6_safe 34 = .ok (.bipush 10, 2) := by decide +kernel
theorem dX6_safe_36 : decode cX6_safe 36 = .ok (.if_icmp .ge 34, 3) := by decide +kernel
theorem dX6_safe_39 : decode cX6_safe 39 = .ok (.aload_n 0, 1) := by decide +kernel
theorem dX6_safe_40 : decode cX6_safe 40 = .ok (.getfield 7, 3) := by decide +kernel
theorem dX6_safe_43 : decode cX6_safe 43 = .ok (.bipush 95, 2) := by decide +kernel
theorem dX6_safe_45 : decode cX6_safe 45 = .ok (.iload_n 3, 1) := by decide +kernel
theorem dX6_safe_46 : decode cX6_safe 46 = .ok (.iastore, 1) := by decide +kernel
theorem dX6_safe_47 : decode cX6_safe 47 = .ok (.iload_n 2, 1) := by decide +kernel
theorem dX6_safe_48 : decode cX6_safe 48 = .ok (.aload_n 0, 1) := by decide +kernel
theorem dX6_safe_49 : decode cX6_safe 49 = .ok (.invokevirtual 255, 3) := by decide +kernel
theorem dX6_safe_52 : decode cX6_safe 52 = .ok (.ifCond .eq 9, 3) := by decide +kernel
theorem dX6_safe_55 : decode cX6_safe 55 = .ok (.iconst 1, 1) := by decide +kernel
theorem dX6_safe_56 : decode cX6_safe 56 = .ok (.iload_n 3, 1) := by decide +kernel
theorem dX6_safe_57 : decode cX6_safe 57 = .ok (.ishl, 1) := by decide +kernel
theorem dX6_safe_58 : decode cX6_safe 58 = .ok (.goto 4, 3) := by decide +kernel
theorem dX6_safe_61 : decode cX6_safe 61 = .ok (.iconst 0, 1) := by decide +kernel
theorem dX6_safe_62 : decode cX6_safe 62 = .ok (.ior, 1) := by decide +kernel
theorem dX6_safe_63 : decode cX6_safe 63 = .ok (.istore_n 2, 1) := by decide +kernel
theorem dX6_safe_64 : decode cX6_safe 64 = .ok (.iinc 3 1, 3) := by decide +kernel
theorem dX6_safe_67 : decode cX6_safe 67 = .ok (.goto (-34), 3) := by decide +kernel
theorem dX6_safe_70 : decode cX6_safe 70 = .ok (.iload_n 2, 1) := by decide +kernel
theorem dX6_safe_71 : decode cX6_safe 71 = .ok (.ireturn, 1) := by decide +kernel
theorem dX6_granary_0 : decode cX6_granary 0 = .ok (.aload_n 0, 1) := by decide +kernel
theorem dX6_granary_1 : decode cX6_granary 1 = .ok (.iconst 0, 1) := by decide +kernel
theorem dX6_granary_2 : decode cX6_granary 2 = .ok (.bipush 75, 2) := by decide +kernel
theorem dX6_granary_4 : decode cX6_granary 4 = .ok (.invokevirtual 201, 3) := by decide +kernel
theorem dX6_granary_7 : decode cX6_granary 7 = .ok (.aload_n 0, 1) := by decide +kernel
theorem dX6_granary_8 : decode cX6_granary 8 = .ok (.getfield 7, 3) := by decide +kernel
theorem dX6_granary_11 : decode cX6_granary 11 = .ok (.bipush 94, 2) := by decide +kernel
theorem dX6_granary_13 : decode cX6_granary 13 = .ok (.iconst 0, 1) := by decide +kernel
theorem dX6_granary_14 : decode cX6_granary 14 = .ok (.iastore, 1) := by decide +kernel
theorem dX6_granary_15 : decode cX6_granary 15 = .ok (.aload_n 0, 1) := by decide +kernel
theorem dX6_granary_16 : decode cX6_granary 16 = .ok (.getfield 7, 3) := by decide +kernel
theorem dX6_granary_19 : decode cX6_granary 19 = .ok (.bipush 16, 2) := by decide +kernel
theorem dX6_granary_21 : decode cX6_granary 21 = .ok (.iaload, 1) := by decide +kernel
theorem dX6_granary_22 : decode cX6_granary 22 = .ok (.istore_n 1, 1) := by decide +kernel
theorem dX6_granary_23 : decode cX6_granary 23 = .ok (.iload_n 1, 1) := by decide +kernel
theorem dX6_granary_24 : decode cX6_granary 24 = .ok (.bipush 40, 2) := by decide +kernel
theorem dX6_granary_26 : decode cX6_granary 26 = .ok (.if_icmp .gt 29, 3) := by decide +kernel
theorem dX6_granary_29 : decode cX6_granary 29 = .ok (.aload_n 0, 1) := by decide +kernel
theorem dX6_granary_30 : decode cX6_granary 30 = .ok (.getfield 7, 3) := by decide +kernel
theorem dX6_granary_33 : decode cX6_granary 33 = .ok (.bipush 89, 2) := by decide +kernel
theorem dX6_granary_35 : decode cX6_granary 35 = .ok (.bipush 40, 2) := by decide +kernel
theorem dX6_granary_37 : decode cX6_granary 37 = .ok (.iload_n 1, 1) := by decide +kernel
theorem dX6_granary_38 : decode cX6_granary 38 = .ok (.isub, 1) := by decide +kernel
theorem dX6_granary_39 : decode cX6_granary 39 = .ok (.iastore, 1) := by decide +kernel
theorem dX6_granary_40 : decode cX6_granary 40 = .ok (.aload_n 0, 1) := by decide +kernel
theorem dX6_granary_41 : decode cX6_granary 41 = .ok (.invokevirtual 255, 3) := by decide +kernel
theorem dX6_granary_44 : decode cX6_granary 44 = .ok (.ifCond .eq 5, 3) := by decide +kernel
theorem dX6_granary_47 : decode cX6_granary 47 = .ok (.iload_n 1, 1) := by decide +kernel
theorem dX6_granary_48 : decode cX6_granary 48 = .ok (.ireturn, 1) := by decide +kernel
theorem dX6_granary_49 : decode cX6_granary 49 = .ok (.iinc 1 1, 3) := by decide +kernel
theorem dX6_granary_52 : decode cX6_granary 52 = .ok (.goto (-29), 3) := by decide +kernel
theorem dX6_granary_55 : decode cX6_granary 55 = .ok (.bipush (-4), 2) := by decide +kernel
theorem dX6_granary_57 : decode cX6_granary 57 = .ok (.ireturn, 1) := by decide +kernel
theorem dX6_least_0 : decode cX6_least 0 = .ok (.aload_n 0, 1) := by decide +kernel
theorem dX6_least_1 : decode cX6_least 1 = .ok (.iconst 0, 1) := by decide +kernel
theorem dX6_least_2 : decode cX6_least 2 = .ok (.bipush 75, 2) := by decide +kernel
theorem dX6_least_4 : decode cX6_least 4 = .ok (.invokevirtual 201, 3) := by decide +kernel
theorem dX6_least_7 : decode cX6_least 7 = .ok (.iconst 0, 1) := by decide +kernel
theorem dX6_least_8 : decode cX6_least 8 = .ok (.istore_n 1, 1) := by decide +kernel
theorem dX6_least_9 : decode cX6_least 9 = .ok (.iload_n 1, 1) := by decide +kernel
theorem dX6_least_10 : decode cX6_least 10 = .ok (.aload_n 0, 1) := by decide +kernel
theorem dX6_least_11 : decode cX6_least 11 = .ok (.iconst 0, 1) := by decide +kernel
theorem dX6_least_12 : decode cX6_least 12 = .ok (.invokevirtual 138, 3) := by decide +kernel
theorem dX6_least_15 : decode cX6_least 15 = .ok (.if_icmp .gt 26, 3) := by decide +kernel
theorem dX6_least_18 : decode cX6_least 18 = .ok (.aload_n 0, 1) := by decide +kernel
theorem dX6_least_19 : decode cX6_least 19 = .ok (.getfield 7, 3) := by decide +kernel
theorem dX6_least_22 : decode cX6_least 22 = .ok (.bipush 91, 2) := by decide +kernel
theorem dX6_least_24 : decode cX6_least 24 = .ok (.iload_n 1, 1) := by decide +kernel
theorem dX6_least_25 : decode cX6_least 25 = .ok (.iastore, 1) := by decide +kernel
theorem dX6_least_26 : decode cX6_least 26 = .ok (.aload_n 0, 1) := by decide +kernel
theorem dX6_least_27 : decode cX6_least 27 = .ok (.invokevirtual 255, 3) := by decide +kernel
theorem dX6_least_30 : decode cX6_least 30 = .ok (.ifCond .eq 5, 3) := by decide +kernel
theorem dX6_least_33 : decode cX6_least 33 = .ok (.iload_n 1, 1) := by decide +kernel
theorem dX6_least_34 : decode cX6_least 34 = .ok (.ireturn, 1) := by decide +kernel
theorem dX6_least_35 : decode cX6_least 35 = .ok (.iinc 1 1, 3) := by decide +kernel
theorem dX6_least_38 : decode cX6_least 38 = .ok (.goto (-29), 3) := by decide +kernel
theorem dX6_least_41 : decode cX6_least 41 = .ok (.bipush (-4), 2) := by decide +kernel
theorem dX6_least_43 : decode cX6_least 43 = .ok (.ireturn, 1) := by decide +kernel
theorem dX6_see_0 : decode cX6_see 0 = .ok (.iload_n 1, 1) := by decide +kernel
theorem dX6_see_1 : decode cX6_see 1 = .ok (.i2l, 1) := by decide +kernel
theorem dX6_see_2 : decode cX6_see 2 = .ok (.lconst 1, 1) := by decide +kernel
theorem dX6_see_3 : decode cX6_see 3 = .ok (.ldc2_w 197, 3) := by decide +kernel
theorem dX6_see_6 : decode cX6_see 6 = .ok (.invokestatic 53, 3) := by decide +kernel
theorem dX6_see_9 : decode cX6_see 9 = .ok (.ifCond .eq 15, 3) := by decide +kernel
theorem dX6_see_12 : decode cX6_see 12 = .ok (.iload_n 2, 1) := by decide +kernel
theorem dX6_see_13 : decode cX6_see 13 = .ok (.i2l, 1) := by decide +kernel
theorem dX6_see_14 : decode cX6_see 14 = .ok (.lconst 0, 1) := by decide +kernel
theorem dX6_see_15 : decode cX6_see 15 = .ok (.ldc2_w 173, 3) := by decide +kernel
theorem dX6_see_18 : decode cX6_see 18 = .ok (.invokestatic 53, 3) := by decide +kernel
theorem dX6_see_21 : decode cX6_see 21 = .ok (.ifCond .ne 5, 3) := by decide +kernel
theorem dX6_see_24 : decode cX6_see 24 = .ok (.iconst (-1), 1) := by decide +kernel
theorem dX6_see_25 : decode cX6_see 25 = .ok (.ireturn, 1) := by decide +kernel
theorem dX6_see_26 : decode cX6_see 26 = .ok (.aload_n 0, 1) := by decide +kernel
theorem dX6_see_27 : decode cX6_see 27 = .ok (.getfield 135, 3) := by decide +kernel
theorem dX6_see_30 : decode cX6_see 30 = .ok (.bipush 6, 2) := by decide +kernel
theorem dX6_see_32 : decode cX6_see 32 = .ok (.if_icmp .ne 6, 3) := by decide +kernel
theorem dX6_see_35 : decode cX6_see 35 = .ok (.bipush (-3), 2) := by decide +kernel
theorem dX6_see_37 : decode cX6_see 37 = .ok (.ireturn, 1) := by decide +kernel
theorem dX6_see_38 : decode cX6_see 38 = .ok (.aload_n 0, 1) := by decide +kernel
theorem dX6_see_39 : decode cX6_see 39 = .ok (.getfield 35, 3) := by decide +kernel
theorem dX6_see_42 : decode cX6_see 42 = .ok (.iconst 2, 1) := by decide +kernel
theorem dX6_see_43 : decode cX6_see 43 = .ok (.aload_n 0, 1) := by decide +kernel
theorem dX6_see_44 : decode cX6_see 44 = .ok (.getfield 135, 3) := by decide +kernel
theorem dX6_see_47 : decode cX6_see 47 = .ok (.imul, 1) := by decide +kernel
theorem dX6_see_48 : decode cX6_see 48 = .ok (.iload_n 1, 1) := by decide +kernel
theorem dX6_see_49 : decode cX6_see 49 = .ok (.iastore, 1) := by decide +kernel
theorem dX6_see_50 : decode cX6_see 50 = .ok (.aload_n 0, 1) := by decide +kernel
theorem dX6_see_51 : decode cX6_see 51 = .ok (.getfield 35, 3) := by decide +kernel
theorem dX6_see_54 : decode cX6_see 54 = .ok (.iconst 2, 1) := by decide +kernel
theorem dX6_see_55 : decode cX6_see 55 = .ok (.aload_n 0, 1) := by decide +kernel
theorem dX6_see_56 : decode cX6_see 56 = .ok (.getfield 135, 3) := by decide +kernel
theorem dX6_see_59 : decode cX6_see 59 = .ok (.imul, 1) := by decide +kernel
theorem dX6_see_60 : decode cX6_see 60 = .ok (.iconst 1, 1) := by decide +kernel
theorem dX6_see_61 : decode cX6_see 61 = .ok (.iadd, 1) := by decide +kernel
theorem dX6_see_62 : decode cX6_see 62 = .ok (.iload_n 2, 1) := by decide +kernel
theorem dX6_see_63 : decode cX6_see 63 = .ok (.iastore, 1) := by decide +kernel
theorem dX6_see_64 : decode cX6_see 64 = .ok (.aload_n 0, 1) := by decide +kernel
theorem dX6_see_65 : decode cX6_see 65 = .ok (.dup, 1) := by decide +kernel
theorem dX6_see_66 : decode cX6_see 66 = .ok (.getfield 135, 3) := by decide +kernel
theorem dX6_see_69 : decode cX6_see 69 = .ok (.iconst 1, 1) := by decide +kernel
theorem dX6_see_70 : decode cX6_see 70 = .ok (.iadd, 1) := by decide +kernel
theorem dX6_see_71 : decode cX6_see 71 = .ok (.putfield 135, 3) := by decide +kernel
theorem dX6_see_74 : decode cX6_see 74 = .ok (.aload_n 0, 1) := by decide +kernel
theorem dX6_see_75 : decode cX6_see 75 = .ok (.getfield 135, 3) := by decide +kernel
theorem dX6_see_78 : decode cX6_see 78 = .ok (.ireturn, 1) := by decide +kernel
theorem dX6_forget_0 : decode cX6_forget 0 = .ok (.iload_n 1, 1) := by decide +kernel
theorem dX6_forget_1 : decode cX6_forget 1 = .ok (.i2l, 1) := by decide +kernel
theorem dX6_forget_2 : decode cX6_forget 2 = .ok (.lconst 0, 1) := by decide +kernel
theorem dX6_forget_3 : decode cX6_forget 3 = .ok (.aload_n 0, 1) := by decide +kernel
theorem dX6_forget_4 : decode cX6_forget 4 = .ok (.getfield 135, 3) := by decide +kernel
theorem dX6_forget_7 : decode cX6_forget 7 = .ok (.i2l, 1) := by decide +kernel
theorem dX6_forget_8 : decode cX6_forget 8 = .ok (.invokestatic 53, 3) := by decide +kernel
theorem dX6_forget_11 : decode cX6_forget 11 = .ok (.ifCond .ne 5, 3) := by decide +kernel
theorem dX6_forget_14 : decode cX6_forget 14 = .ok (.iconst (-1), 1) := by decide +kernel
theorem dX6_forget_15 : decode cX6_forget 15 = .ok (.ireturn, 1) := by decide +kernel
theorem dX6_forget_16 : decode cX6_forget 16 = .ok (.aload_n 0, 1) := by decide +kernel
theorem dX6_forget_17 : decode cX6_forget 17 = .ok (.getfield 135, 3) := by decide +kernel
theorem dX6_forget_20 : decode cX6_forget 20 = .ok (.istore_n 2, 1) := by decide +kernel
theorem dX6_forget_21 : decode cX6_forget 21 = .ok (.aload_n 0, 1) := by decide +kernel
theorem dX6_forget_22 : decode cX6_forget 22 = .ok (.iload_n 1, 1) := by decide +kernel
theorem dX6_forget_23 : decode cX6_forget 23 = .ok (.putfield 135, 3) := by decide +kernel
theorem dX6_forget_26 : decode cX6_forget 26 = .ok (.iload_n 2, 1) := by decide +kernel
theorem dX6_forget_27 : decode cX6_forget 27 = .ok (.ireturn, 1) := by decide +kernel
theorem dX6_isAsSeen_0 : decode cX6_isAsSeen 0 = .ok (.iconst 1, 1) := by decide +kernel
theorem dX6_isAsSeen_1 : decode cX6_isAsSeen 1 = .ok (.istore 5, 2) := by decide +kernel
theorem dX6_isAsSeen_3 : decode cX6_isAsSeen 3 = .ok (.aload_n 0, 1) := by decide +kernel
theorem dX6_isAsSeen_4 : decode cX6_isAsSeen 4 = .ok (.iconst 0, 1) := by decide +kernel
theorem dX6_isAsSeen_5 : decode cX6_isAsSeen 5 = .ok (.bipush 100, 2) := by decide +kernel
theorem dX6_isAsSeen_7 : decode cX6_isAsSeen 7 = .ok (.invokevirtual 201, 3) := by decide +kernel
theorem dX6_isAsSeen_10 : decode cX6_isAsSeen 10 = .ok (.aload_n 0, 1) := by decide +kernel
theorem dX6_isAsSeen_11 : decode cX6_isAsSeen 11 = .ok (.getfield 7, 3) := by decide +kernel
theorem dX6_isAsSeen_14 : decode cX6_isAsSeen 14 = .ok (.bipush 119, 2) := by decide +kernel
theorem dX6_isAsSeen_16 : decode cX6_isAsSeen 16 = .ok (.iload_n 2, 1) := by decide +kernel
theorem dX6_isAsSeen_17 : decode cX6_isAsSeen 17 = .ok (.iastore, 1) := by decide +kernel
theorem dX6_isAsSeen_18 : decode cX6_isAsSeen 18 = .ok (.aload_n 0, 1) := by decide +kernel
theorem dX6_isAsSeen_19 : decode cX6_isAsSeen 19 = .ok (.getfield 7, 3) := by decide +kernel
theorem dX6_isAsSeen_22 : decode cX6_isAsSeen 22 = .ok (.bipush 120, 2) := by decide +kernel
theorem dX6_isAsSeen_24 : decode cX6_isAsSeen 24 = .ok (.iload_n 3, 1) := by decide +kernel
theorem dX6_isAsSeen_25 : decode cX6_isAsSeen 25 = .ok (.iastore, 1) := by decide +kernel
theorem dX6_isAsSeen_26 : decode cX6_isAsSeen 26 = .ok (.iconst 1, 1) := by decide +kernel
theorem dX6_isAsSeen_27 : decode cX6_isAsSeen 27 = .ok (.istore 6, 2) := by decide +kernel
theorem dX6_isAsSeen_29 : decode cX6_isAsSeen 29 = .ok (.iload 6, 2) := by decide +kernel
theorem dX6_isAsSeen_31 : decode cX6_isAsSeen 31 = .ok (.bipush 8, 2) := by decide +kernel
theorem dX6_isAsSeen_33 : decode cX6_isAsSeen 33 = .ok (.if_icmp .gt 141, 3) := by decide +kernel
theorem dX6_isAsSeen_36 : decode cX6_isAsSeen 36 = .ok (.aload_n 0, 1) := by decide +kernel
theorem dX6_isAsSeen_37 : decode cX6_isAsSeen 37 = .ok (.getfield 7, 3) := by decide +kernel
theorem dX6_isAsSeen_40 : decode cX6_isAsSeen 40 = .ok (.bipush 121, 2) := by decide +kernel
theorem dX6_isAsSeen_42 : decode cX6_isAsSeen 42 = .ok (.iaload, 1) := by decide +kernel
theorem dX6_isAsSeen_43 : decode cX6_isAsSeen 43 = .ok (.bipush 8, 2) := by decide +kernel
theorem dX6_isAsSeen_45 : decode cX6_isAsSeen 45 = .ok (.if_icmp .ge 7, 3) := by decide +kernel
theorem dX6_isAsSeen_48 : decode cX6_isAsSeen 48 = .ok (.iconst 1, 1) := by decide +kernel
theorem dX6_isAsSeen_49 : decode cX6_isAsSeen 49 = .ok (.goto 4, 3) := by decide +kernel
theorem dX6_isAsSeen_52 : decode cX6_isAsSeen 52 = .ok (.iconst 0, 1) := by decide +kernel
theorem dX6_isAsSeen_53 : decode cX6_isAsSeen 53 = .ok (.istore 7, 2) := by decide +kernel
theorem dX6_isAsSeen_55 : decode cX6_isAsSeen 55 = .ok (.aload_n 0, 1) := by decide +kernel
theorem dX6_isAsSeen_56 : decode cX6_isAsSeen 56 = .ok (.iload_n 1, 1) := by decide +kernel
theorem dX6_isAsSeen_57 : decode cX6_isAsSeen 57 = .ok (.invokevirtual 205, 3) := by decide +kernel
theorem dX6_isAsSeen_60 : decode cX6_isAsSeen 60 = .ok (.pop, 1) := by decide +kernel
theorem dX6_isAsSeen_61 : decode cX6_isAsSeen 61 = .ok (.aload_n 0, 1) := by decide +kernel
theorem dX6_isAsSeen_62 : decode cX6_isAsSeen 62 = .ok (.getfield 7, 3) := by decide +kernel
theorem dX6_isAsSeen_65 : decode cX6_isAsSeen 65 = .ok (.bipush 116, 2) := by decide +kernel
theorem dX6_isAsSeen_67 : decode cX6_isAsSeen 67 = .ok (.iaload, 1) := by decide +kernel
theorem dX6_isAsSeen_68 : decode cX6_isAsSeen 68 = .ok (.istore 8, 2) := by decide +kernel
theorem dX6_isAsSeen_70 : decode cX6_isAsSeen 70 = .ok (.aload_n 0, 1) := by decide +kernel
theorem dX6_isAsSeen_71 : decode cX6_isAsSeen 71 = .ok (.getfield 7, 3) := by decide +kernel
theorem dX6_isAsSeen_74 : decode cX6_isAsSeen 74 = .ok (.bipush 116, 2) := by decide +kernel
theorem dX6_isAsSeen_76 : decode cX6_isAsSeen 76 = .ok (.iload 7, 2) := by decide +kernel
theorem dX6_isAsSeen_78 : decode cX6_isAsSeen 78 = .ok (.ifCond .ne 8, 3) := by decide +kernel
theorem dX6_isAsSeen_81 : decode cX6_isAsSeen 81 = .ok (.iload 8, 2) := by decide +kernel
theorem dX6_isAsSeen_83 : decode cX6_isAsSeen 83 = .ok (.goto 19, 3) := by decide +kernel
theorem dX6_isAsSeen_86 : decode cX6_isAsSeen 86 = .ok (.iload 8, 2) := by decide +kernel
theorem dX6_isAsSeen_88 : decode cX6_isAsSeen 88 = .ok (.iload 4, 2) := by decide +kernel
theorem dX6_isAsSeen_90 : decode cX6_isAsSeen 90 = .ok (.if_icmp .le 11, 3) := by decide +kernel
theorem dX6_isAsSeen_93 : decode cX6_isAsSeen 93 = .ok (.iload 8, 2) := by decide +kernel
theorem dX6_isAsSeen_95 : decode cX6_isAsSeen 95 = .ok (.iload 4, 2) := by decide +kernel
theorem dX6_isAsSeen_97 : decode cX6_isAsSeen 97 = .ok (.isub, 1) := by decide +kernel
theorem dX6_isAsSeen_98 : decode cX6_isAsSeen 98 = .ok (.goto 4, 3) := by decide +kernel
theorem dX6_isAsSeen_101 : decode cX6_isAsSeen 101 = .ok (.iconst 0, 1) := by decide +kernel
theorem dX6_isAsSeen_102 : decode cX6_isAsSeen 102 = .ok (.iastore, 1) := by decide +kernel
theorem dX6_isAsSeen_103 : decode cX6_isAsSeen 103 = .ok (.iconst 0, 1) := by decide +kernel
theorem dX6_isAsSeen_104 : decode cX6_isAsSeen 104 = .ok (.istore 9, 2) := by decide +kernel
theorem dX6_isAsSeen_106 : decode cX6_isAsSeen 106 = .ok (.iload 9, 2) := by decide +kernel
theorem dX6_isAsSeen_108 : decode cX6_isAsSeen 108 = .ok (.aload_n 0, 1) := by decide +kernel
theorem dX6_isAsSeen_109 : decode cX6_isAsSeen 109 = .ok (.getfield 135, 3) := by decide +kernel
theorem dX6_isAsSeen_112 : decode cX6_isAsSeen 112 = .ok (.if_icmp .ge 56, 3) := by decide +kernel
theorem dX6_isAsSeen_115 : decode cX6_isAsSeen 115 = .ok (.iload 5, 2) := by decide +kernel
theorem dX6_isAsSeen_117 : decode cX6_isAsSeen 117 = .ok (.ifCond .eq 42, 3) := by decide +kernel
theorem dX6_isAsSeen_120 : decode cX6_isAsSeen 120 = .ok (.aload_n 0, 1) := by decide +kernel
theorem dX6_isAsSeen_121 : decode cX6_isAsSeen 121 = .ok (.getfield 35, 3) := by decide +kernel
theorem dX6_isAsSeen_124 : decode cX6_isAsSeen 124 = .ok (.iconst 2, 1) := by decide +kernel
theorem dX6_isAsSeen_125 : decode cX6_isAsSeen 125 = .ok (.iload 9, 2) := by decide +kernel
theorem dX6_isAsSeen_127 : decode cX6_isAsSeen 127 = .ok (.imul, 1) := by decide +kernel
theorem dX6_isAsSeen_128 : decode cX6_isAsSeen 128 = .ok (.iaload, 1) := by decide +kernel
theorem dX6_isAsSeen_129 : decode cX6_isAsSeen 129 = .ok (.iload 6, 2) := by decide +kernel
theorem dX6_isAsSeen_131 : decode cX6_isAsSeen 131 = .ok (.if_icmp .ne 24, 3) := by decide +kernel
theorem dX6_isAsSeen_134 : decode cX6_isAsSeen 134 = .ok (.aload_n 0, 1) := by decide +kernel
theorem dX6_isAsSeen_135 : decode cX6_isAsSeen 135 = .ok (.getfield 35, 3) := by decide +kernel
theorem dX6_isAsSeen_138 : decode cX6_isAsSeen 138 = .ok (.iconst 2, 1) := by decide +kernel
theorem dX6_isAsSeen_139 : decode cX6_isAsSeen 139 = .ok (.iload 9, 2) := by decide +kernel
theorem dX6_isAsSeen_141 : decode cX6_isAsSeen 141 = .ok (.imul, 1) := by decide +kernel
theorem dX6_isAsSeen_142 : decode cX6_isAsSeen 142 = .ok (.iconst 1, 1) := by decide +kernel
theorem dX6_isAsSeen_143 : decode cX6_isAsSeen 143 = .ok (.iadd, 1) := by decide +kernel
theorem dX6_isAsSeen_144 : decode cX6_isAsSeen 144 = .ok (.iaload, 1) := by decide +kernel
theorem dX6_isAsSeen_145 : decode cX6_isAsSeen 145 = .ok (.aload_n 0, 1) := by decide +kernel
theorem dX6_isAsSeen_146 : decode cX6_isAsSeen 146 = .ok (.getfield 7, 3) := by decide +kernel
theorem dX6_isAsSeen_149 : decode cX6_isAsSeen 149 = .ok (.bipush 116, 2) := by decide +kernel
theorem dX6_isAsSeen_151 : decode cX6_isAsSeen 151 = .ok (.iaload, 1) := by decide +kernel
theorem dX6_isAsSeen_152 : decode cX6_isAsSeen 152 = .ok (.if_icmp .ne 7, 3) := by decide +kernel
theorem dX6_isAsSeen_155 : decode cX6_isAsSeen 155 = .ok (.iconst 1, 1) := by decide +kernel
theorem dX6_isAsSeen_156 : decode cX6_isAsSeen 156 = .ok (.goto 4, 3) := by decide +kernel
theorem dX6_isAsSeen_159 : decode cX6_isAsSeen 159 = .ok (.iconst 0, 1) := by decide +kernel
theorem dX6_isAsSeen_160 : decode cX6_isAsSeen 160 = .ok (.istore 5, 2) := by decide +kernel
theorem dX6_isAsSeen_162 : decode cX6_isAsSeen 162 = .ok (.iinc 9 1, 3) := by decide +kernel
theorem dX6_isAsSeen_165 : decode cX6_isAsSeen 165 = .ok (.goto (-59), 3) := by decide +kernel
theorem dX6_isAsSeen_168 : decode cX6_isAsSeen 168 = .ok (.iinc 6 1, 3) := by decide +kernel
theorem dX6_isAsSeen_171 : decode cX6_isAsSeen 171 = .ok (.goto (-142), 3) := by decide +kernel
theorem dX6_isAsSeen_174 : decode cX6_isAsSeen 174 = .ok (.iload 5, 2) := by decide +kernel
theorem dX6_isAsSeen_176 : decode cX6_isAsSeen 176 = .ok (.ireturn, 1) := by decide +kernel
theorem dX6_stewards_0 : decode cX6_stewards 0 = .ok (.aload_n 0, 1) := by decide +kernel
theorem dX6_stewards_1 : decode cX6_stewards 1 = .ok (.iload_n 1, 1) := by decide +kernel
theorem dX6_stewards_2 : decode cX6_stewards 2 = .ok (.invokevirtual 153, 3) := by decide +kernel
theorem dX6_stewards_5 : decode cX6_stewards 5 = .ok (.ifCond .eq 13, 3) := by decide +kernel
theorem dX6_stewards_8 : decode cX6_stewards 8 = .ok (.iload_n 2, 1) := by decide +kernel
theorem dX6_stewards_9 : decode cX6_stewards 9 = .ok (.i2l, 1) := by decide +kernel
theorem dX6_stewards_10 : decode cX6_stewards 10 = .ok (.lconst 0, 1) := by decide +kernel
theorem dX6_stewards_11 : decode cX6_stewards 11 = .ok (.lconst 1, 1) := by decide +kernel
theorem dX6_stewards_12 : decode cX6_stewards 12 = .ok (.invokestatic 53, 3) := by decide +kernel
theorem dX6_stewards_15 : decode cX6_stewards 15 = .ok (.ifCond .ne 5, 3) := by decide +kernel
theorem dX6_stewards_18 : decode cX6_stewards 18 = .ok (.iconst (-1), 1) := by decide +kernel
theorem dX6_stewards_19 : decode cX6_stewards 19 = .ok (.ireturn, 1) := by decide +kernel
theorem dX6_stewards_20 : decode cX6_stewards 20 = .ok (.iconst 0, 1) := by decide +kernel
theorem dX6_stewards_21 : decode cX6_stewards 21 = .ok (.istore_n 3, 1) := by decide +kernel
theorem dX6_stewards_22 : decode cX6_stewards 22 = .ok (.bipush (-4), 2) := by decide +kernel
theorem dX6_stewards_24 : decode cX6_stewards 24 = .ok (.istore 4, 2) := by decide +kernel
theorem dX6_stewards_26 : decode cX6_stewards 26 = .ok (.iconst 0, 1) := by decide +kernel
theorem dX6_stewards_27 : decode cX6_stewards 27 = .ok (.istore 5, 2) := by decide +kernel
theorem dX6_stewards_29 : decode cX6_stewards 29 = .ok (.iload 5, 2) := by decide +kernel
theorem dX6_stewards_31 : decode cX6_stewards 31 = .ok (.bipush 50, 2) := by decide +kernel
theorem dX6_stewards_33 : decode cX6_stewards 33 = .ok (.if_icmp .ge 44, 3) := by decide +kernel
theorem dX6_stewards_36 : decode cX6_stewards 36 = .ok (.aload_n 0, 1) := by decide +kernel
theorem dX6_stewards_37 : decode cX6_stewards 37 = .ok (.iload_n 1, 1) := by decide +kernel
theorem dX6_stewards_38 : decode cX6_stewards 38 = .ok (.iload 5, 2) := by decide +kernel
theorem dX6_stewards_40 : decode cX6_stewards 40 = .ok (.bipush 10, 2) := by decide +kernel
theorem dX6_stewards_42 : decode cX6_stewards 42 = .ok (.idiv, 1) := by decide +kernel
theorem dX6_stewards_43 : decode cX6_stewards 43 = .ok (.iload 5, 2) := by decide +kernel
theorem dX6_stewards_45 : decode cX6_stewards 45 = .ok (.bipush 10, 2) := by decide +kernel
theorem dX6_stewards_47 : decode cX6_stewards 47 = .ok (.irem, 1) := by decide +kernel
theorem dX6_stewards_48 : decode cX6_stewards 48 = .ok (.iconst 0, 1) := by decide +kernel
theorem dX6_stewards_49 : decode cX6_stewards 49 = .ok (.invokevirtual 259, 3) := by decide +kernel
theorem dX6_stewards_52 : decode cX6_stewards 52 = .ok (.ifCond .eq 19, 3) := by decide +kernel
theorem dX6_stewards_55 : decode cX6_stewards 55 = .ok (.iload_n 3, 1) := by decide +kernel
theorem dX6_stewards_56 : decode cX6_stewards 56 = .ok (.ifCond .ne 8, 3) := by decide +kernel
theorem dX6_stewards_59 : decode cX6_stewards 59 = .ok (.iload 5, 2) := by decide +kernel
theorem dX6_stewards_61 : decode cX6_stewards 61 = .ok (.goto 5, 3) := by decide +kernel
theorem dX6_stewards_64 : decode cX6_stewards 64 = .ok (.iload 4, 2) := by decide +kernel
theorem dX6_stewards_66 : decode cX6_stewards 66 = .ok (.istore 4, 2) := by decide +kernel
theorem dX6_stewards_68 : decode cX6_stewards 68 = .ok (.iinc 3 1, 3) := by decide +kernel
theorem dX6_stewards_71 : decode cX6_stewards 71 = .ok (.iinc 5 1, 3) := by decide +kernel
theorem dX6_stewards_74 : decode cX6_stewards 74 = .ok (.goto (-45), 3) := by decide +kernel
theorem dX6_stewards_77 : decode cX6_stewards 77 = .ok (.iload_n 2, 1) := by decide +kernel
theorem dX6_stewards_78 : decode cX6_stewards 78 = .ok (.ifCond .ne 7, 3) := by decide +kernel
theorem dX6_stewards_81 : decode cX6_stewards 81 = .ok (.iload_n 3, 1) := by decide +kernel
theorem dX6_stewards_82 : decode cX6_stewards 82 = .ok (.goto 5, 3) := by decide +kernel
theorem dX6_stewards_85 : decode cX6_stewards 85 = .ok (.iload 4, 2) := by decide +kernel
theorem dX6_stewards_87 : decode cX6_stewards 87 = .ok (.ireturn, 1) := by decide +kernel
theorem dX6_hoards_0 : decode cX6_hoards 0 = .ok (.aload_n 0, 1) := by decide +kernel
theorem dX6_hoards_1 : decode cX6_hoards 1 = .ok (.iload_n 1, 1) := by decide +kernel
theorem dX6_hoards_2 : decode cX6_hoards 2 = .ok (.invokevirtual 153, 3) := by decide +kernel
theorem dX6_hoards_5 : decode cX6_hoards 5 = .ok (.ifCond .ne 5, 3) := by decide +kernel
theorem dX6_hoards_8 : decode cX6_hoards 8 = .ok (.iconst (-1), 1) := by decide +kernel
theorem dX6_hoards_9 : decode cX6_hoards 9 = .ok (.ireturn, 1) := by decide +kernel
theorem dX6_hoards_10 : decode cX6_hoards 10 = .ok (.iconst 0, 1) := by decide +kernel
theorem dX6_hoards_11 : decode cX6_hoards 11 = .ok (.istore_n 2, 1) := by decide +kernel
theorem dX6_hoards_12 : decode cX6_hoards 12 = .ok (.iconst 0, 1) := by decide +kernel
theorem dX6_hoards_13 : decode cX6_hoards 13 = .ok (.istore_n 3, 1) := by decide +kernel
theorem dX6_hoards_14 : decode cX6_hoards 14 = .ok (.iload_n 3, 1) := by decide +kernel
theorem dX6_hoards_15 : decode cX6_hoards 15 = .ok (.bipush 10, 2) := by decide +kernel
theorem dX6_hoards_17 : decode cX6_hoards 17 = .ok (.if_icmp .ge 42, 3) := by decide +kernel
theorem dX6_hoards_20 : decode cX6_hoards 20 = .ok (.iload_n 2, 1) := by decide +kernel
theorem dX6_hoards_21 : decode cX6_hoards 21 = .ok (.aload_n 0, 1) := by decide +kernel
theorem dX6_hoards_22 : decode cX6_hoards 22 = .ok (.iload_n 1, 1) := by decide +kernel
theorem dX6_hoards_23 : decode cX6_hoards 23 = .ok (.aload_n 0, 1) := by decide +kernel
theorem dX6_hoards_24 : decode cX6_hoards 24 = .ok (.getfield 7, 3) := by decide +kernel
theorem dX6_hoards_27 : decode cX6_hoards 27 = .ok (.bipush 19, 2) := by decide +kernel
theorem dX6_hoards_29 : decode cX6_hoards 29 = .ok (.iaload, 1) := by decide +kernel
theorem dX6_hoards_30 : decode cX6_hoards 30 = .ok (.aload_n 0, 1) := by decide +kernel
theorem dX6_hoards_31 : decode cX6_hoards 31 = .ok (.getfield 7, 3) := by decide +kernel
theorem dX6_hoards_34 : decode cX6_hoards 34 = .ok (.bipush 20, 2) := by decide +kernel
theorem dX6_hoards_36 : decode cX6_hoards 36 = .ok (.iaload, 1) := by decide +kernel
theorem dX6_hoards_37 : decode cX6_hoards 37 = .ok (.iload_n 3, 1) := by decide +kernel
theorem dX6_hoards_38 : decode cX6_hoards 38 = .ok (.invokevirtual 259, 3) := by decide +kernel
theorem dX6_hoards_41 : decode cX6_hoards 41 = .ok (.ifCond .eq 9, 3) := by decide +kernel
theorem dX6_hoards_44 : decode cX6_hoards 44 = .ok (.iconst 1, 1) := by decide +kernel
theorem dX6_hoards_45 : decode cX6_hoards 45 = .ok (.iload_n 3, 1) := by decide +kernel
theorem dX6_hoards_46 : decode cX6_hoards 46 = .ok (.ishl, 1) := by decide +kernel
theorem dX6_hoards_47 : decode cX6_hoards 47 = .ok (.goto 4, 3) := by decide +kernel
theorem dX6_hoards_50 : decode cX6_hoards 50 = .ok (.iconst 0, 1) := by decide +kernel
theorem dX6_hoards_51 : decode cX6_hoards 51 = .ok (.ior, 1) := by decide +kernel
theorem dX6_hoards_52 : decode cX6_hoards 52 = .ok (.istore_n 2, 1) := by decide +kernel
theorem dX6_hoards_53 : decode cX6_hoards 53 = .ok (.iinc 3 1, 3) := by decide +kernel
theorem dX6_hoards_56 : decode cX6_hoards 56 = .ok (.goto (-42), 3) := by decide +kernel
theorem dX6_hoards_59 : decode cX6_hoards 59 = .ok (.iload_n 2, 1) := by decide +kernel
theorem dX6_hoards_60 : decode cX6_hoards 60 = .ok (.ireturn, 1) := by decide +kernel
theorem dX6_fits_0 : decode cX6_fits 0 = .ok (.iconst 0, 1) := by decide +kernel
theorem dX6_fits_1 : decode cX6_fits 1 = .ok (.istore_n 1, 1) := by decide +kernel
theorem dX6_fits_2 : decode cX6_fits 2 = .ok (.iconst 0, 1) := by decide +kernel
theorem dX6_fits_3 : decode cX6_fits 3 = .ok (.istore_n 2, 1) := by decide +kernel
theorem dX6_fits_4 : decode cX6_fits 4 = .ok (.iload_n 2, 1) := by decide +kernel
theorem dX6_fits_5 : decode cX6_fits 5 = .ok (.aload_n 0, 1) := by decide +kernel
theorem dX6_fits_6 : decode cX6_fits 6 = .ok (.getfield 132, 3) := by decide +kernel
theorem dX6_fits_9 : decode cX6_fits 9 = .ok (.if_icmp .ge 42, 3) := by decide +kernel
theorem dX6_fits_12 : decode cX6_fits 12 = .ok (.iload_n 1, 1) := by decide +kernel
theorem dX6_fits_13 : decode cX6_fits 13 = .ok (.aload_n 0, 1) := by decide +kernel
theorem dX6_fits_14 : decode cX6_fits 14 = .ok (.iload_n 2, 1) := by decide +kernel
theorem dX6_fits_15 : decode cX6_fits 15 = .ok (.aload_n 0, 1) := by decide +kernel
theorem dX6_fits_16 : decode cX6_fits 16 = .ok (.getfield 7, 3) := by decide +kernel
theorem dX6_fits_19 : decode cX6_fits 19 = .ok (.bipush 19, 2) := by decide +kernel
theorem dX6_fits_21 : decode cX6_fits 21 = .ok (.iaload, 1) := by decide +kernel
theorem dX6_fits_22 : decode cX6_fits 22 = .ok (.aload_n 0, 1) := by decide +kernel
theorem dX6_fits_23 : decode cX6_fits 23 = .ok (.getfield 7, 3) := by decide +kernel
theorem dX6_fits_26 : decode cX6_fits 26 = .ok (.bipush 20, 2) := by decide +kernel
theorem dX6_fits_28 : decode cX6_fits 28 = .ok (.iaload, 1) := by decide +kernel
theorem dX6_fits_29 : decode cX6_fits 29 = .ok (.iconst 0, 1) := by decide +kernel
theorem dX6_fits_30 : decode cX6_fits 30 = .ok (.invokevirtual 259, 3) := by decide +kernel
theorem dX6_fits_33 : decode cX6_fits 33 = .ok (.ifCond .eq 9, 3) := by decide +kernel
theorem dX6_fits_36 : decode cX6_fits 36 = .ok (.iconst 1, 1) := by decide +kernel
theorem dX6_fits_37 : decode cX6_fits 37 = .ok (.iload_n 2, 1) := by decide +kernel
theorem dX6_fits_38 : decode cX6_fits 38 = .ok (.ishl, 1) := by decide +kernel
theorem dX6_fits_39 : decode cX6_fits 39 = .ok (.goto 4, 3) := by decide +kernel
theorem dX6_fits_42 : decode cX6_fits 42 = .ok (.iconst 0, 1) := by decide +kernel
theorem dX6_fits_43 : decode cX6_fits 43 = .ok (.ior, 1) := by decide +kernel
theorem dX6_fits_44 : decode cX6_fits 44 = .ok (.istore_n 1, 1) := by decide +kernel
theorem dX6_fits_45 : decode cX6_fits 45 = .ok (.iinc 2 1, 3) := by decide +kernel
theorem dX6_fits_48 : decode cX6_fits 48 = .ok (.goto (-44), 3) := by decide +kernel
theorem dX6_fits_51 : decode cX6_fits 51 = .ok (.iload_n 1, 1) := by decide +kernel
theorem dX6_fits_52 : decode cX6_fits 52 = .ok (.ireturn, 1) := by decide +kernel
theorem dX6_drift_0 : decode cX6_drift 0 = .ok (.iload_n 2, 1) := by decide +kernel
theorem dX6_drift_1 : decode cX6_drift 1 = .ok (.i2l, 1) := by decide +kernel
theorem dX6_drift_2 : decode cX6_drift 2 = .ok (.lconst 0, 1) := by decide +kernel
theorem dX6_drift_3 : decode cX6_drift 3 = .ok (.ldc2_w 156, 3) := by decide +kernel
theorem dX6_drift_6 : decode cX6_drift 6 = .ok (.invokestatic 53, 3) := by decide +kernel
theorem dX6_drift_9 : decode cX6_drift 9 = .ok (.ifCond .eq 15, 3) := by decide +kernel
theorem dX6_drift_12 : decode cX6_drift 12 = .ok (.iload_n 3, 1) := by decide +kernel
theorem dX6_drift_13 : decode cX6_drift 13 = .ok (.i2l, 1) := by decide +kernel
theorem dX6_drift_14 : decode cX6_drift 14 = .ok (.lconst 0, 1) := by decide +kernel
theorem dX6_drift_15 : decode cX6_drift 15 = .ok (.ldc2_w 199, 3) := by decide +kernel
theorem dX6_drift_18 : decode cX6_drift 18 = .ok (.invokestatic 53, 3) := by decide +kernel
theorem dX6_drift_21 : decode cX6_drift 21 = .ok (.ifCond .ne 5, 3) := by decide +kernel
theorem dX6_drift_24 : decode cX6_drift 24 = .ok (.iconst (-1), 1) := by decide +kernel
theorem dX6_drift_25 : decode cX6_drift 25 = .ok (.ireturn, 1) := by decide +kernel
theorem dX6_drift_26 : decode cX6_drift 26 = .ok (.aload_n 0, 1) := by decide +kernel
theorem dX6_drift_27 : decode cX6_drift 27 = .ok (.iconst 0, 1) := by decide +kernel
theorem dX6_drift_28 : decode cX6_drift 28 = .ok (.bipush 100, 2) := by decide +kernel
theorem dX6_drift_30 : decode cX6_drift 30 = .ok (.invokevirtual 201, 3) := by decide +kernel
theorem dX6_drift_33 : decode cX6_drift 33 = .ok (.iload_n 1, 1) := by decide +kernel
theorem dX6_drift_34 : decode cX6_drift 34 = .ok (.istore 4, 2) := by decide +kernel
theorem dX6_drift_36 : decode cX6_drift 36 = .ok (.aload_n 0, 1) := by decide +kernel
theorem dX6_drift_37 : decode cX6_drift 37 = .ok (.getfield 7, 3) := by decide +kernel
theorem dX6_drift_40 : decode cX6_drift 40 = .ok (.bipush 121, 2) := by decide +kernel
theorem dX6_drift_42 : decode cX6_drift 42 = .ok (.iaload, 1) := by decide +kernel
theorem dX6_drift_43 : decode cX6_drift 43 = .ok (.bipush 8, 2) := by decide +kernel
theorem dX6_drift_45 : decode cX6_drift 45 = .ok (.if_icmp .ge 64, 3) := by decide +kernel
theorem dX6_drift_48 : decode cX6_drift 48 = .ok (.iload 4, 2) := by decide +kernel
theorem dX6_drift_50 : decode cX6_drift 50 = .ok (.ldc_w 263, 3) := by decide +kernel
theorem dX6_drift_53 : decode cX6_drift 53 = .ok (.imul, 1) := by decide +kernel
theorem dX6_drift_54 : decode cX6_drift 54 = .ok (.sipush 12345, 3) := by decide +kernel
theorem dX6_drift_57 : decode cX6_drift 57 = .ok (.iadd, 1) := by decide +kernel
theorem dX6_drift_58 : decode cX6_drift 58 = .ok (.istore 4, 2) := by decide +kernel
theorem dX6_drift_60 : decode cX6_drift 60 = .ok (.iload 4, 2) := by decide +kernel
theorem dX6_drift_62 : decode cX6_drift 62 = .ok (.bipush 16, 2) := by decide +kernel
theorem dX6_drift_64 : decode cX6_drift 64 = .ok (.ishr, 1) := by decide +kernel
theorem dX6_drift_65 : decode cX6_drift 65 = .ok (.sipush 32767, 3) := by decide +kernel
theorem dX6_drift_68 : decode cX6_drift 68 = .ok (.iand, 1) := by decide +kernel
theorem dX6_drift_69 : decode cX6_drift 69 = .ok (.bipush 10, 2) := by decide +kernel
theorem dX6_drift_71 : decode cX6_drift 71 = .ok (.irem, 1) := by decide +kernel
theorem dX6_drift_72 : decode cX6_drift 72 = .ok (.iload_n 2, 1) := by decide +kernel
theorem dX6_drift_73 : decode cX6_drift 73 = .ok (.if_icmp .ge 7, 3) := by decide +kernel
theorem dX6_drift_76 : decode cX6_drift 76 = .ok (.iconst 1, 1) := by decide +kernel
theorem dX6_drift_77 : decode cX6_drift 77 = .ok (.goto 4, 3) := by decide +kernel
theorem dX6_drift_80 : decode cX6_drift 80 = .ok (.iconst 0, 1) := by decide +kernel
theorem dX6_drift_81 : decode cX6_drift 81 = .ok (.istore 5, 2) := by decide +kernel
theorem dX6_drift_83 : decode cX6_drift 83 = .ok (.aload_n 0, 1) := by decide +kernel
theorem dX6_drift_84 : decode cX6_drift 84 = .ok (.bipush 100, 2) := by decide +kernel
theorem dX6_drift_86 : decode cX6_drift 86 = .ok (.iload 5, 2) := by decide +kernel
theorem dX6_drift_88 : decode cX6_drift 88 = .ok (.aload_n 0, 1) := by decide +kernel
theorem dX6_drift_89 : decode cX6_drift 89 = .ok (.bipush 100, 2) := by decide +kernel
theorem dX6_drift_91 : decode cX6_drift 91 = .ok (.aload_n 0, 1) := by decide +kernel
theorem dX6_drift_92 : decode cX6_drift 92 = .ok (.bipush 100, 2) := by decide +kernel
theorem dX6_drift_94 : decode cX6_drift 94 = .ok (.iload 5, 2) := by decide +kernel
theorem dX6_drift_96 : decode cX6_drift 96 = .ok (.invokevirtual 179, 3) := by decide +kernel
theorem dX6_drift_99 : decode cX6_drift 99 = .ok (.invokevirtual 192, 3) := by decide +kernel
theorem dX6_drift_102 : decode cX6_drift 102 = .ok (.invokevirtual 185, 3) := by decide +kernel
theorem dX6_drift_105 : decode cX6_drift 105 = .ok (.pop, 1) := by decide +kernel
theorem dX6_drift_106 : decode cX6_drift 106 = .ok (.goto (-70), 3) := by decide +kernel
theorem dX6_drift_109 : decode cX6_drift 109 = .ok (.iload_n 3, 1) := by decide +kernel
theorem dX6_drift_110 : decode cX6_drift 110 = .ok (.ifCond .ne 21, 3) := by decide +kernel
theorem dX6_drift_113 : decode cX6_drift 113 = .ok (.aload_n 0, 1) := by decide +kernel
theorem dX6_drift_114 : decode cX6_drift 114 = .ok (.getfield 7, 3) := by decide +kernel
theorem dX6_drift_117 : decode cX6_drift 117 = .ok (.bipush 124, 2) := by decide +kernel
theorem dX6_drift_119 : decode cX6_drift 119 = .ok (.iaload, 1) := by decide +kernel
theorem dX6_drift_120 : decode cX6_drift 120 = .ok (.aload_n 0, 1) := by decide +kernel
theorem dX6_drift_121 : decode cX6_drift 121 = .ok (.getfield 7, 3) := by decide +kernel
theorem dX6_drift_124 : decode cX6_drift 124 = .ok (.bipush 24, 2) := by decide +kernel
theorem dX6_drift_126 : decode cX6_drift 126 = .ok (.iaload, 1) := by decide +kernel
theorem dX6_drift_127 : decode cX6_drift 127 = .ok (.isub, 1) := by decide +kernel
theorem dX6_drift_128 : decode cX6_drift 128 = .ok (.goto 33, 3) := by decide +kernel
theorem dX6_drift_131 : decode cX6_drift 131 = .ok (.iload_n 3, 1) := by decide +kernel
theorem dX6_drift_132 : decode cX6_drift 132 = .ok (.iconst 1, 1) := by decide +kernel
theorem dX6_drift_133 : decode cX6_drift 133 = .ok (.if_icmp .ne 21, 3) := by decide +kernel
theorem dX6_drift_136 : decode cX6_drift 136 = .ok (.aload_n 0, 1) := by decide +kernel
theorem dX6_drift_137 : decode cX6_drift 137 = .ok (.getfield 7, 3) := by decide +kernel
theorem dX6_drift_140 : decode cX6_drift 140 = .ok (.bipush 123, 2) := by decide +kernel
theorem dX6_drift_142 : decode cX6_drift 142 = .ok (.iaload, 1) := by decide +kernel
theorem dX6_drift_143 : decode cX6_drift 143 = .ok (.aload_n 0, 1) := by decide +kernel
theorem dX6_drift_144 : decode cX6_drift 144 = .ok (.getfield 7, 3) := by decide +kernel
theorem dX6_drift_147 : decode cX6_drift 147 = .ok (.bipush 23, 2) := by decide +kernel
theorem dX6_drift_149 : decode cX6_drift 149 = .ok (.iaload, 1) := by decide +kernel
theorem dX6_drift_150 : decode cX6_drift 150 = .ok (.isub, 1) := by decide +kernel
theorem dX6_drift_151 : decode cX6_drift 151 = .ok (.goto 10, 3) := by decide +kernel
theorem dX6_drift_154 : decode cX6_drift 154 = .ok (.aload_n 0, 1) := by decide +kernel
theorem dX6_drift_155 : decode cX6_drift 155 = .ok (.getfield 7, 3) := by decide +kernel
theorem dX6_drift_158 : decode cX6_drift 158 = .ok (.bipush 116, 2) := by decide +kernel
theorem dX6_drift_160 : decode cX6_drift 160 = .ok (.iaload, 1) := by decide +kernel
theorem dX6_drift_161 : decode cX6_drift 161 = .ok (.ireturn, 1) := by decide +kernel
theorem dX6_keep_0 : decode cX6_keep 0 = .ok (.iload_n 1, 1) := by decide +kernel
theorem dX6_keep_1 : decode cX6_keep 1 = .ok (.i2l, 1) := by decide +kernel
theorem dX6_keep_2 : decode cX6_keep 2 = .ok (.lconst 0, 1) := by decide +kernel
theorem dX6_keep_3 : decode cX6_keep 3 = .ok (.lconst 1, 1) := by decide +kernel
theorem dX6_keep_4 : decode cX6_keep 4 = .ok (.invokestatic 53, 3) := by decide +kernel
theorem dX6_keep_7 : decode cX6_keep 7 = .ok (.ifCond .ne 5, 3) := by decide +kernel
theorem dX6_keep_10 : decode cX6_keep 10 = .ok (.iconst (-1), 1) := by decide +kernel
theorem dX6_keep_11 : decode cX6_keep 11 = .ok (.ireturn, 1) := by decide +kernel
theorem dX6_keep_12 : decode cX6_keep 12 = .ok (.aload_n 0, 1) := by decide +kernel
theorem dX6_keep_13 : decode cX6_keep 13 = .ok (.iconst 0, 1) := by decide +kernel
theorem dX6_keep_14 : decode cX6_keep 14 = .ok (.bipush 25, 2) := by decide +kernel
theorem dX6_keep_16 : decode cX6_keep 16 = .ok (.iload_n 1, 1) := by decide +kernel
theorem dX6_keep_17 : decode cX6_keep 17 = .ok (.iconst 1, 1) := by decide +kernel
theorem dX6_keep_18 : decode cX6_keep 18 = .ok (.iadd, 1) := by decide +kernel
theorem dX6_keep_19 : decode cX6_keep 19 = .ok (.imul, 1) := by decide +kernel
theorem dX6_keep_20 : decode cX6_keep 20 = .ok (.invokevirtual 201, 3) := by decide +kernel
theorem dX6_keep_23 : decode cX6_keep 23 = .ok (.aload_n 0, 1) := by decide +kernel
theorem dX6_keep_24 : decode cX6_keep 24 = .ok (.getfield 38, 3) := by decide +kernel
theorem dX6_keep_27 : decode cX6_keep 27 = .ok (.iload_n 1, 1) := by decide +kernel
theorem dX6_keep_28 : decode cX6_keep 28 = .ok (.baload, 1) := by decide +kernel
theorem dX6_keep_29 : decode cX6_keep 29 = .ok (.ifCond .eq 7, 3) := by decide +kernel
theorem dX6_keep_32 : decode cX6_keep 32 = .ok (.iconst 1, 1) := by decide +kernel
theorem dX6_keep_33 : decode cX6_keep 33 = .ok (.goto 4, 3) := by decide +kernel
theorem dX6_keep_36 : decode cX6_keep 36 = .ok (.iconst 0, 1) := by decide +kernel
theorem dX6_keep_37 : decode cX6_keep 37 = .ok (.istore_n 2, 1) := by decide +kernel
theorem dX6_keep_38 : decode cX6_keep 38 = .ok (.aload_n 0, 1) := by decide +kernel
theorem dX6_keep_39 : decode cX6_keep 39 = .ok (.getfield 38, 3) := by decide +kernel
theorem dX6_keep_42 : decode cX6_keep 42 = .ok (.iload_n 1, 1) := by decide +kernel
theorem dX6_keep_43 : decode cX6_keep 43 = .ok (.iconst 1, 1) := by decide +kernel
theorem dX6_keep_44 : decode cX6_keep 44 = .ok (.bastore, 1) := by decide +kernel
theorem dX6_keep_45 : decode cX6_keep 45 = .ok (.iload_n 2, 1) := by decide +kernel
theorem dX6_keep_46 : decode cX6_keep 46 = .ok (.ireturn, 1) := by decide +kernel
theorem dX6_back_0 : decode cX6_back 0 = .ok (.iload_n 1, 1) := by decide +kernel
theorem dX6_back_1 : decode cX6_back 1 = .ok (.i2l, 1) := by decide +kernel
theorem dX6_back_2 : decode cX6_back 2 = .ok (.lconst 0, 1) := by decide +kernel
theorem dX6_back_3 : decode cX6_back 3 = .ok (.lconst 1, 1) := by decide +kernel
theorem dX6_back_4 : decode cX6_back 4 = .ok (.invokestatic 53, 3) := by decide +kernel
theorem dX6_back_7 : decode cX6_back 7 = .ok (.ifCond .ne 5, 3) := by decide +kernel
theorem dX6_back_10 : decode cX6_back 10 = .ok (.iconst (-1), 1) := by decide +kernel
theorem dX6_back_11 : decode cX6_back 11 = .ok (.ireturn, 1) := by decide +kernel
theorem dX6_back_12 : decode cX6_back 12 = .ok (.aload_n 0, 1) := by decide +kernel
theorem dX6_back_13 : decode cX6_back 13 = .ok (.getfield 38, 3) := by decide +kernel
theorem dX6_back_16 : decode cX6_back 16 = .ok (.iload_n 1, 1) := by decide +kernel
theorem dX6_back_17 : decode cX6_back 17 = .ok (.baload, 1) := by decide +kernel
theorem dX6_back_18 : decode cX6_back 18 = .ok (.ifCond .ne 6, 3) := by decide +kernel
theorem dX6_back_21 : decode cX6_back 21 = .ok (.bipush (-2), 2) := by decide +kernel
theorem dX6_back_23 : decode cX6_back 23 = .ok (.ireturn, 1) := by decide +kernel
theorem dX6_back_24 : decode cX6_back 24 = .ok (.aload_n 0, 1) := by decide +kernel
theorem dX6_back_25 : decode cX6_back 25 = .ok (.bipush 25, 2) := by decide +kernel
theorem dX6_back_27 : decode cX6_back 27 = .ok (.iload_n 1, 1) := by decide +kernel
theorem dX6_back_28 : decode cX6_back 28 = .ok (.iconst 1, 1) := by decide +kernel
theorem dX6_back_29 : decode cX6_back 29 = .ok (.iadd, 1) := by decide +kernel
theorem dX6_back_30 : decode cX6_back 30 = .ok (.imul, 1) := by decide +kernel
theorem dX6_back_31 : decode cX6_back 31 = .ok (.iconst 0, 1) := by decide +kernel
theorem dX6_back_32 : decode cX6_back 32 = .ok (.invokevirtual 201, 3) := by decide +kernel
theorem dX6_back_35 : decode cX6_back 35 = .ok (.aload_n 0, 1) := by decide +kernel
theorem dX6_back_36 : decode cX6_back 36 = .ok (.getfield 7, 3) := by decide +kernel
theorem dX6_back_39 : decode cX6_back 39 = .ok (.bipush 21, 2) := by decide +kernel
theorem dX6_back_41 : decode cX6_back 41 = .ok (.iaload, 1) := by decide +kernel
theorem dX6_back_42 : decode cX6_back 42 = .ok (.ireturn, 1) := by decide +kernel
theorem dX6_sheet_0 : decode cX6_sheet 0 = .ok (.iload_n 1, 1) := by decide +kernel
theorem dX6_sheet_1 : decode cX6_sheet 1 = .ok (.i2l, 1) := by decide +kernel
theorem dX6_sheet_2 : decode cX6_sheet 2 = .ok (.lconst 0, 1) := by decide +kernel
theorem dX6_sheet_3 : decode cX6_sheet 3 = .ok (.ldc2_w 264, 3) := by decide +kernel
theorem dX6_sheet_6 : decode cX6_sheet 6 = .ok (.invokestatic 53, 3) := by decide +kernel
theorem dX6_sheet_9 : decode cX6_sheet 9 = .ok (.ifCond .eq 21, 3) := by decide +kernel
theorem dX6_sheet_12 : decode cX6_sheet 12 = .ok (.iload_n 2, 1) := by decide +kernel
theorem dX6_sheet_13 : decode cX6_sheet 13 = .ok (.i2l, 1) := by decide +kernel
theorem dX6_sheet_14 : decode cX6_sheet 14 = .ok (.lconst 0, 1) := by decide +kernel
theorem dX6_sheet_15 : decode cX6_sheet 15 = .ok (.ldc2_w 199, 3) := by decide +kernel
theorem dX6_sheet_18 : decode cX6_sheet 18 = .ok (.invokestatic 53, 3) := by decide +kernel
theorem dX6_sheet_21 : decode cX6_sheet 21 = .ok (.ifCond .eq 9, 3) := by decide +kernel
theorem dX6_sheet_24 : decode cX6_sheet 24 = .ok (.iload_n 3, 1) := by decide +kernel
theorem dX6_sheet_25 : decode cX6_sheet 25 = .ok (.bipush 40, 2) := by decide +kernel
theorem dX6_sheet_27 : decode cX6_sheet 27 = .ok (.if_icmp .le 5, 3) := by decide +kernel
theorem dX6_sheet_30 : decode cX6_sheet 30 = .ok (.iconst (-1), 1) := by decide +kernel
theorem dX6_sheet_31 : decode cX6_sheet 31 = .ok (.ireturn, 1) := by decide +kernel
theorem dX6_sheet_32 : decode cX6_sheet 32 = .ok (.iload_n 3, 1) := by decide +kernel
theorem dX6_sheet_33 : decode cX6_sheet 33 = .ok (.ifCond .ge 6, 3) := by decide +kernel
theorem dX6_sheet_36 : decode cX6_sheet 36 = .ok (.bipush (-14), 2) := by decide +kernel
theorem dX6_sheet_38 : decode cX6_sheet 38 = .ok (.ireturn, 1) := by decide +kernel
theorem dX6_sheet_39 : decode cX6_sheet 39 = .ok (.aload_n 0, 1) := by decide +kernel
theorem dX6_sheet_40 : decode cX6_sheet 40 = .ok (.getfield 42, 3) := by decide +kernel
theorem dX6_sheet_43 : decode cX6_sheet 43 = .ok (.iload_n 1, 1) := by decide +kernel
theorem dX6_sheet_44 : decode cX6_sheet 44 = .ok (.iload_n 2, 1) := by decide +kernel
theorem dX6_sheet_45 : decode cX6_sheet 45 = .ok (.iastore, 1) := by decide +kernel
theorem dX6_sheet_46 : decode cX6_sheet 46 = .ok (.aload_n 0, 1) := by decide +kernel
theorem dX6_sheet_47 : decode cX6_sheet 47 = .ok (.getfield 45, 3) := by decide +kernel
theorem dX6_sheet_50 : decode cX6_sheet 50 = .ok (.iload_n 1, 1) := by decide +kernel
theorem dX6_sheet_51 : decode cX6_sheet 51 = .ok (.iload_n 3, 1) := by decide +kernel
theorem dX6_sheet_52 : decode cX6_sheet 52 = .ok (.iastore, 1) := by decide +kernel
theorem dX6_sheet_53 : decode cX6_sheet 53 = .ok (.iconst 0, 1) := by decide +kernel
theorem dX6_sheet_54 : decode cX6_sheet 54 = .ok (.istore 4, 2) := by decide +kernel
theorem dX6_sheet_56 : decode cX6_sheet 56 = .ok (.iload 4, 2) := by decide +kernel
theorem dX6_sheet_58 : decode cX6_sheet 58 = .ok (.bipush 40, 2) := by decide +kernel
theorem dX6_sheet_60 : decode cX6_sheet 60 = .ok (.if_icmp .ge 22, 3) := by decide +kernel
theorem dX6_sheet_63 : decode cX6_sheet 63 = .ok (.aload_n 0, 1) := by decide +kernel
theorem dX6_sheet_64 : decode cX6_sheet 64 = .ok (.getfield 48, 3) := by decide +kernel
theorem dX6_sheet_67 : decode cX6_sheet 67 = .ok (.bipush 40, 2) := by decide +kernel
theorem dX6_sheet_69 : decode cX6_sheet 69 = .ok (.iload_n 1, 1) := by decide +kernel
theorem dX6_sheet_70 : decode cX6_sheet 70 = .ok (.imul, 1) := by decide +kernel
theorem dX6_sheet_71 : decode cX6_sheet 71 = .ok (.iload 4, 2) := by decide +kernel
theorem dX6_sheet_73 : decode cX6_sheet 73 = .ok (.iadd, 1) := by decide +kernel
theorem dX6_sheet_74 : decode cX6_sheet 74 = .ok (.iconst 0, 1) := by decide +kernel
theorem dX6_sheet_75 : decode cX6_sheet 75 = .ok (.iastore, 1) := by decide +kernel
theorem dX6_sheet_76 : decode cX6_sheet 76 = .ok (.iinc 4 1, 3) := by decide +kernel
theorem dX6_sheet_79 : decode cX6_sheet 79 = .ok (.goto (-23), 3) := by decide +kernel
theorem dX6_sheet_82 : decode cX6_sheet 82 = .ok (.iconst 1, 1) := by decide +kernel
theorem dX6_sheet_83 : decode cX6_sheet 83 = .ok (.ireturn, 1) := by decide +kernel
theorem dX6_lay_0 : decode cX6_lay 0 = .ok (.iload_n 1, 1) := by decide +kernel
theorem dX6_lay_1 : decode cX6_lay 1 = .ok (.i2l, 1) := by decide +kernel
theorem dX6_lay_2 : decode cX6_lay 2 = .ok (.lconst 0, 1) := by decide +kernel
theorem dX6_lay_3 : decode cX6_lay 3 = .ok (.ldc2_w 264, 3) := by decide +kernel
theorem dX6_lay_6 : decode cX6_lay 6 = .ok (.invokestatic 53, 3) := by decide +kernel
theorem dX6_lay_9 : decode cX6_lay 9 = .ok (.ifCond .ne 5, 3) := by decide +kernel
theorem dX6_lay_12 : decode cX6_lay 12 = .ok (.iconst (-1), 1) := by decide +kernel
theorem dX6_lay_13 : decode cX6_lay 13 = .ok (.ireturn, 1) := by decide +kernel
theorem dX6_lay_14 : decode cX6_lay 14 = .ok (.aload_n 0, 1) := by decide +kernel
theorem dX6_lay_15 : decode cX6_lay 15 = .ok (.getfield 42, 3) := by decide +kernel
theorem dX6_lay_18 : decode cX6_lay 18 = .ok (.iload_n 1, 1) := by decide +kernel
theorem dX6_lay_19 : decode cX6_lay 19 = .ok (.iaload, 1) := by decide +kernel
theorem dX6_lay_20 : decode cX6_lay 20 = .ok (.bipush (-4), 2) := by decide +kernel
theorem dX6_lay_22 : decode cX6_lay 22 = .ok (.if_icmp .ne 6, 3) := by decide +kernel
theorem dX6_lay_25 : decode cX6_lay 25 = .ok (.bipush (-11), 2) := by decide +kernel
theorem dX6_lay_27 : decode cX6_lay 27 = .ok (.ireturn, 1) := by decide +kernel
theorem dX6_lay_28 : decode cX6_lay 28 = .ok (.iload_n 2, 1) := by decide +kernel
theorem dX6_lay_29 : decode cX6_lay 29 = .ok (.i2l, 1) := by decide +kernel
theorem dX6_lay_30 : decode cX6_lay 30 = .ok (.lconst 0, 1) := by decide +kernel
theorem dX6_lay_31 : decode cX6_lay 31 = .ok (.aload_n 0, 1) := by decide +kernel
theorem dX6_lay_32 : decode cX6_lay 32 = .ok (.getfield 45, 3) := by decide +kernel
theorem dX6_lay_35 : decode cX6_lay 35 = .ok (.iload_n 1, 1) := by decide +kernel
theorem dX6_lay_36 : decode cX6_lay 36 = .ok (.iaload, 1) := by decide +kernel
theorem dX6_lay_37 : decode cX6_lay 37 = .ok (.iconst 1, 1) := by decide +kernel
theorem dX6_lay_38 : decode cX6_lay 38 = .ok (.isub, 1) := by decide +kernel
theorem dX6_lay_39 : decode cX6_lay 39 = .ok (.i2l, 1) := by decide +kernel
theorem dX6_lay_40 : decode cX6_lay 40 = .ok (.invokestatic 53, 3) := by decide +kernel
theorem dX6_lay_43 : decode cX6_lay 43 = .ok (.ifCond .ne 6, 3) := by decide +kernel
theorem dX6_lay_46 : decode cX6_lay 46 = .ok (.bipush (-12), 2) := by decide +kernel
theorem dX6_lay_48 : decode cX6_lay 48 = .ok (.ireturn, 1) := by decide +kernel
theorem dX6_lay_49 : decode cX6_lay 49 = .ok (.aload_n 0, 1) := by decide +kernel
theorem dX6_lay_50 : decode cX6_lay 50 = .ok (.getfield 48, 3) := by decide +kernel
theorem dX6_lay_53 : decode cX6_lay 53 = .ok (.bipush 40, 2) := by decide +kernel
theorem dX6_lay_55 : decode cX6_lay 55 = .ok (.iload_n 1, 1) := by decide +kernel
theorem dX6_lay_56 : decode cX6_lay 56 = .ok (.imul, 1) := by decide +kernel
theorem dX6_lay_57 : decode cX6_lay 57 = .ok (.iload_n 2, 1) := by decide +kernel
theorem dX6_lay_58 : decode cX6_lay 58 = .ok (.iadd, 1) := by decide +kernel
theorem dX6_lay_59 : decode cX6_lay 59 = .ok (.aload_n 0, 1) := by decide +kernel
theorem dX6_lay_60 : decode cX6_lay 60 = .ok (.getfield 42, 3) := by decide +kernel
theorem dX6_lay_63 : decode cX6_lay 63 = .ok (.iload_n 1, 1) := by decide +kernel
theorem dX6_lay_64 : decode cX6_lay 64 = .ok (.iaload, 1) := by decide +kernel
theorem dX6_lay_65 : decode cX6_lay 65 = .ok (.ifCond .ne 13, 3) := by decide +kernel
theorem dX6_lay_68 : decode cX6_lay 68 = .ok (.iload_n 3, 1) := by decide +kernel
theorem dX6_lay_69 : decode cX6_lay 69 = .ok (.bipush 24, 2) := by decide +kernel
theorem dX6_lay_71 : decode cX6_lay 71 = .ok (.ishl, 1) := by decide +kernel
theorem dX6_lay_72 : decode cX6_lay 72 = .ok (.bipush 24, 2) := by decide +kernel
theorem dX6_lay_74 : decode cX6_lay 74 = .ok (.ishr, 1) := by decide +kernel
theorem dX6_lay_75 : decode cX6_lay 75 = .ok (.goto 24, 3) := by decide +kernel
theorem dX6_lay_78 : decode cX6_lay 78 = .ok (.aload_n 0, 1) := by decide +kernel
theorem dX6_lay_79 : decode cX6_lay 79 = .ok (.getfield 42, 3) := by decide +kernel
theorem dX6_lay_82 : decode cX6_lay 82 = .ok (.iload_n 1, 1) := by decide +kernel
theorem dX6_lay_83 : decode cX6_lay 83 = .ok (.iaload, 1) := by decide +kernel
theorem dX6_lay_84 : decode cX6_lay 84 = .ok (.iconst 1, 1) := by decide +kernel
theorem dX6_lay_85 : decode cX6_lay 85 = .ok (.if_icmp .ne 13, 3) := by decide +kernel
theorem dX6_lay_88 : decode cX6_lay 88 = .ok (.iload_n 3, 1) := by decide +kernel
theorem dX6_lay_89 : decode cX6_lay 89 = .ok (.bipush 16, 2) := by decide +kernel
theorem dX6_lay_91 : decode cX6_lay 91 = .ok (.ishl, 1) := by decide +kernel
theorem dX6_lay_92 : decode cX6_lay 92 = .ok (.bipush 16, 2) := by decide +kernel
theorem dX6_lay_94 : decode cX6_lay 94 = .ok (.ishr, 1) := by decide +kernel
theorem dX6_lay_95 : decode cX6_lay 95 = .ok (.goto 4, 3) := by decide +kernel
theorem dX6_lay_98 : decode cX6_lay 98 = .ok (.iload_n 3, 1) := by decide +kernel
theorem dX6_lay_99 : decode cX6_lay 99 = .ok (.iastore, 1) := by decide +kernel
theorem dX6_lay_100 : decode cX6_lay 100 = .ok (.iconst 1, 1) := by decide +kernel
theorem dX6_lay_101 : decode cX6_lay 101 = .ok (.ireturn, 1) := by decide +kernel
theorem dX6_read_0 : decode cX6_read 0 = .ok (.iload_n 1, 1) := by decide +kernel
theorem dX6_read_1 : decode cX6_read 1 = .ok (.i2l, 1) := by decide +kernel
theorem dX6_read_2 : decode cX6_read 2 = .ok (.lconst 0, 1) := by decide +kernel
theorem dX6_read_3 : decode cX6_read 3 = .ok (.ldc2_w 264, 3) := by decide +kernel
theorem dX6_read_6 : decode cX6_read 6 = .ok (.invokestatic 53, 3) := by decide +kernel
theorem dX6_read_9 : decode cX6_read 9 = .ok (.ifCond .eq 28, 3) := by decide +kernel
theorem dX6_read_12 : decode cX6_read 12 = .ok (.iload_n 2, 1) := by decide +kernel
theorem dX6_read_13 : decode cX6_read 13 = .ok (.i2l, 1) := by decide +kernel
theorem dX6_read_14 : decode cX6_read 14 = .ok (.lconst 0, 1) := by decide +kernel
theorem dX6_read_15 : decode cX6_read 15 = .ok (.ldc2_w 199, 3) := by decide +kernel
theorem dX6_read_18 : decode cX6_read 18 = .ok (.invokestatic 53, 3) := by decide +kernel
theorem dX6_read_21 : decode cX6_read 21 = .ok (.ifCond .eq 16, 3) := by decide +kernel
theorem dX6_read_24 : decode cX6_read 24 = .ok (.iload 4, 2) := by decide +kernel
theorem dX6_read_26 : decode cX6_read 26 = .ok (.i2l, 1) := by decide +kernel
theorem dX6_read_27 : decode cX6_read 27 = .ok (.lconst 0, 1) := by decide +kernel
theorem dX6_read_28 : decode cX6_read 28 = .ok (.ldc2_w 175, 3) := by decide +kernel
theorem dX6_read_31 : decode cX6_read 31 = .ok (.invokestatic 53, 3) := by decide +kernel
theorem dX6_read_34 : decode cX6_read 34 = .ok (.ifCond .ne 5, 3) := by decide +kernel
theorem dX6_read_37 : decode cX6_read 37 = .ok (.iconst (-1), 1) := by decide +kernel
theorem dX6_read_38 : decode cX6_read 38 = .ok (.ireturn, 1) := by decide +kernel
theorem dX6_read_39 : decode cX6_read 39 = .ok (.aload_n 0, 1) := by decide +kernel
theorem dX6_read_40 : decode cX6_read 40 = .ok (.iconst 0, 1) := by decide +kernel
theorem dX6_read_41 : decode cX6_read 41 = .ok (.bipush 75, 2) := by decide +kernel
theorem dX6_read_43 : decode cX6_read 43 = .ok (.invokevirtual 201, 3) := by decide +kernel
theorem dX6_read_46 : decode cX6_read 46 = .ok (.iconst 0, 1) := by decide +kernel
theorem dX6_read_47 : decode cX6_read 47 = .ok (.istore 5, 2) := by decide +kernel
theorem dX6_read_49 : decode cX6_read 49 = .ok (.iconst 0, 1) := by decide +kernel
theorem dX6_read_50 : decode cX6_read 50 = .ok (.istore 6, 2) := by decide +kernel
theorem dX6_read_52 : decode cX6_read 52 = .ok (.iconst 0, 1) := by decide +kernel
theorem dX6_read_53 : decode cX6_read 53 = .ok (.istore 7, 2) := by decide +kernel
theorem dX6_read_55 : decode cX6_read 55 = .ok (.iload 7, 2) := by decide +kernel
theorem dX6_read_57 : decode cX6_read 57 = .ok (.iconst 2, 1) := by decide +kernel
theorem dX6_read_58 : decode cX6_read 58 = .ok (.iload 4, 2) := by decide +kernel
theorem dX6_read_60 : decode cX6_read 60 = .ok (.imul, 1) := by decide +kernel
theorem dX6_read_61 : decode cX6_read 61 = .ok (.if_icmp .ge 135, 3) := by decide +kernel
theorem dX6_read_64 : decode cX6_read 64 = .ok (.iload 5, 2) := by decide +kernel
theorem dX6_read_66 : decode cX6_read 66 = .ok (.ifCond .ne 130, 3) := by decide +kernel
theorem dX6_read_69 : decode cX6_read 69 = .ok (.aload_n 0, 1) := by decide +kernel
theorem dX6_read_70 : decode cX6_read 70 = .ok (.getfield 42, 3) := by decide +kernel
theorem dX6_read_73 : decode cX6_read 73 = .ok (.iload_n 1, 1) := by decide +kernel
theorem dX6_read_74 : decode cX6_read 74 = .ok (.iaload, 1) := by decide +kernel
theorem dX6_read_75 : decode cX6_read 75 = .ok (.bipush (-4), 2) := by decide +kernel
theorem dX6_read_77 : decode cX6_read 77 = .ok (.if_icmp .ne 7, 3) := by decide +kernel
theorem dX6_read_80 : decode cX6_read 80 = .ok (.iconst 1, 1) := by decide +kernel
theorem dX6_read_81 : decode cX6_read 81 = .ok (.goto 44, 3) := by decide +kernel
theorem dX6_read_84 : decode cX6_read 84 = .ok (.aload_n 0, 1) := by decide +kernel
theorem dX6_read_85 : decode cX6_read 85 = .ok (.getfield 42, 3) := by decide +kernel
theorem dX6_read_88 : decode cX6_read 88 = .ok (.iload_n 1, 1) := by decide +kernel
theorem dX6_read_89 : decode cX6_read 89 = .ok (.iaload, 1) := by decide +kernel
theorem dX6_read_90 : decode cX6_read 90 = .ok (.iload_n 2, 1) := by decide +kernel
theorem dX6_read_91 : decode cX6_read 91 = .ok (.if_icmp .eq 7, 3) := by decide +kernel
theorem dX6_read_94 : decode cX6_read 94 = .ok (.iconst 3, 1) := by decide +kernel
theorem dX6_read_95 : decode cX6_read 95 = .ok (.goto 30, 3) := by decide +kernel
theorem dX6_read_98 : decode cX6_read 98 = .ok (.iload_n 3, 1) := by decide +kernel
theorem dX6_read_99 : decode cX6_read 99 = .ok (.i2l, 1) := by decide +kernel
theorem dX6_read_100 : decode cX6_read 100 = .ok (.iload 7, 2) := by decide +kernel
theorem dX6_read_102 : decode cX6_read 102 = .ok (.i2l, 1) := by decide +kernel
theorem dX6_read_103 : decode cX6_read 103 = .ok (.ladd, 1) := by decide +kernel
theorem dX6_read_104 : decode cX6_read 104 = .ok (.lconst 0, 1) := by decide +kernel
theorem dX6_read_105 : decode cX6_read 105 = .ok (.aload_n 0, 1) := by decide +kernel
theorem dX6_read_106 : decode cX6_read 106 = .ok (.getfield 45, 3) := by decide +kernel
theorem dX6_read_109 : decode cX6_read 109 = .ok (.iload_n 1, 1) := by decide +kernel
theorem dX6_read_110 : decode cX6_read 110 = .ok (.iaload, 1) := by decide +kernel
theorem dX6_read_111 : decode cX6_read 111 = .ok (.iconst 1, 1) := by decide +kernel
theorem dX6_read_112 : decode cX6_read 112 = .ok (.isub, 1) := by decide +kernel
theorem dX6_read_113 : decode cX6_read 113 = .ok (.i2l, 1) := by decide +kernel
theorem dX6_read_114 : decode cX6_read 114 = .ok (.invokestatic 53, 3) := by decide +kernel
theorem dX6_read_117 : decode cX6_read 117 = .ok (.ifCond .ne 7, 3) := by decide +kernel
theorem dX6_read_120 : decode cX6_read 120 = .ok (.iconst 2, 1) := by decide +kernel
theorem dX6_read_121 : decode cX6_read 121 = .ok (.goto 4, 3) := by decide +kernel
theorem dX6_read_124 : decode cX6_read 124 = .ok (.iconst 0, 1) := by decide +kernel
theorem dX6_read_125 : decode cX6_read 125 = .ok (.istore 5, 2) := by decide +kernel
theorem dX6_read_127 : decode cX6_read 127 = .ok (.iload 5, 2) := by decide +kernel
theorem dX6_read_129 : decode cX6_read 129 = .ok (.ifCond .ne 61, 3) := by decide +kernel
theorem dX6_read_132 : decode cX6_read 132 = .ok (.iload 7, 2) := by decide +kernel
theorem dX6_read_134 : decode cX6_read 134 = .ok (.iconst 2, 1) := by decide +kernel
theorem dX6_read_135 : decode cX6_read 135 = .ok (.irem, 1) := by decide +kernel
theorem dX6_read_136 : decode cX6_read 136 = .ok (.iconst 1, 1) := by decide +kernel
theorem dX6_read_137 : decode cX6_read 137 = .ok (.if_icmp .ne 53, 3) := by decide +kernel
theorem dX6_read_140 : decode cX6_read 140 = .ok (.bipush 40, 2) := by decide +kernel
theorem dX6_read_142 : decode cX6_read 142 = .ok (.iload_n 1, 1) := by decide +kernel
theorem dX6_read_143 : decode cX6_read 143 = .ok (.imul, 1) := by decide +kernel
theorem dX6_read_144 : decode cX6_read 144 = .ok (.iload_n 3, 1) := by decide +kernel
theorem dX6_read_145 : decode cX6_read 145 = .ok (.iadd, 1) := by decide +kernel
theorem dX6_read_146 : decode cX6_read 146 = .ok (.iload 7, 2) := by decide +kernel
theorem dX6_read_148 : decode cX6_read 148 = .ok (.iadd, 1) := by decide +kernel
theorem dX6_read_149 : decode cX6_read 149 = .ok (.istore 8, 2) := by decide +kernel
theorem dX6_read_151 : decode cX6_read 151 = .ok (.aload_n 0, 1) := by decide +kernel
theorem dX6_read_152 : decode cX6_read 152 = .ok (.aload_n 0, 1) := by decide +kernel
theorem dX6_read_153 : decode cX6_read 153 = .ok (.getfield 48, 3) := by decide +kernel
theorem dX6_read_156 : decode cX6_read 156 = .ok (.iload 8, 2) := by decide +kernel
theorem dX6_read_158 : decode cX6_read 158 = .ok (.iconst 1, 1) := by decide +kernel
theorem dX6_read_159 : decode cX6_read 159 = .ok (.isub, 1) := by decide +kernel
theorem dX6_read_160 : decode cX6_read 160 = .ok (.iaload, 1) := by decide +kernel
theorem dX6_read_161 : decode cX6_read 161 = .ok (.aload_n 0, 1) := by decide +kernel
theorem dX6_read_162 : decode cX6_read 162 = .ok (.getfield 48, 3) := by decide +kernel
theorem dX6_read_165 : decode cX6_read 165 = .ok (.iload 8, 2) := by decide +kernel
theorem dX6_read_167 : decode cX6_read 167 = .ok (.iaload, 1) := by decide +kernel
theorem dX6_read_168 : decode cX6_read 168 = .ok (.invokevirtual 189, 3) := by decide +kernel
theorem dX6_read_171 : decode cX6_read 171 = .ok (.ifCond .ge 16, 3) := by decide +kernel
theorem dX6_read_174 : decode cX6_read 174 = .ok (.aload_n 0, 1) := by decide +kernel
theorem dX6_read_175 : decode cX6_read 175 = .ok (.bipush 75, 2) := by decide +kernel
theorem dX6_read_177 : decode cX6_read 177 = .ok (.iconst 0, 1) := by decide +kernel
theorem dX6_read_178 : decode cX6_read 178 = .ok (.invokevirtual 201, 3) := by decide +kernel
theorem dX6_read_181 : decode cX6_read 181 = .ok (.bipush (-20), 2) := by decide +kernel
theorem dX6_read_183 : decode cX6_read 183 = .ok (.iload 6, 2) := by decide +kernel
theorem dX6_read_185 : decode cX6_read 185 = .ok (.isub, 1) := by decide +kernel
theorem dX6_read_186 : decode cX6_read 186 = .ok (.ireturn, 1) := by decide +kernel
theorem dX6_read_187 : decode cX6_read 187 = .ok (.iinc 6 1, 3) := by decide +kernel
theorem dX6_read_190 : decode cX6_read 190 = .ok (.iinc 7 1, 3) := by decide +kernel
theorem dX6_read_193 : decode cX6_read 193 = .ok (.goto (-138), 3) := by decide +kernel
theorem dX6_read_196 : decode cX6_read 196 = .ok (.aload_n 0, 1) := by decide +kernel
theorem dX6_read_197 : decode cX6_read 197 = .ok (.iload 5, 2) := by decide +kernel
theorem dX6_read_199 : decode cX6_read 199 = .ok (.putfield 266, 3) := by decide +kernel
theorem dX6_read_202 : decode cX6_read 202 = .ok (.iload 6, 2) := by decide +kernel
theorem dX6_read_204 : decode cX6_read 204 = .ok (.ireturn, 1) := by decide +kernel
theorem dX6_torn_0 : decode cX6_torn 0 = .ok (.aload_n 0, 1) := by decide +kernel
theorem dX6_torn_1 : decode cX6_torn 1 = .ok (.getfield 266, 3) := by decide +kernel
theorem dX6_torn_4 : decode cX6_torn 4 = .ok (.ireturn, 1) := by decide +kernel
theorem dX6_bitsOf_0 : decode cX6_bitsOf 0 = .ok (.iconst 0, 1) := by decide +kernel
theorem dX6_bitsOf_1 : decode cX6_bitsOf 1 = .ok (.istore_n 1, 1) := by decide +kernel
theorem dX6_bitsOf_2 : decode cX6_bitsOf 2 = .ok (.iconst 0, 1) := by decide +kernel
theorem dX6_bitsOf_3 : decode cX6_bitsOf 3 = .ok (.istore_n 2, 1) := by decide +kernel
theorem dX6_bitsOf_4 : decode cX6_bitsOf 4 = .ok (.iload_n 2, 1) := by decide +kernel
theorem dX6_bitsOf_5 : decode cX6_bitsOf 5 = .ok (.bipush 8, 2) := by decide +kernel
theorem dX6_bitsOf_7 : decode cX6_bitsOf 7 = .ok (.if_icmp .ge 17, 3) := by decide +kernel
theorem dX6_bitsOf_10 : decode cX6_bitsOf 10 = .ok (.iload_n 1, 1) := by decide +kernel
theorem dX6_bitsOf_11 : decode cX6_bitsOf 11 = .ok (.iload_n 0, 1) := by decide +kernel
theorem dX6_bitsOf_12 : decode cX6_bitsOf 12 = .ok (.iload_n 2, 1) := by decide +kernel
theorem dX6_bitsOf_13 : decode cX6_bitsOf 13 = .ok (.ishr, 1) := by decide +kernel
theorem dX6_bitsOf_14 : decode cX6_bitsOf 14 = .ok (.iconst 1, 1) := by decide +kernel
theorem dX6_bitsOf_15 : decode cX6_bitsOf 15 = .ok (.iand, 1) := by decide +kernel
theorem dX6_bitsOf_16 : decode cX6_bitsOf 16 = .ok (.iadd, 1) := by decide +kernel
theorem dX6_bitsOf_17 : decode cX6_bitsOf 17 = .ok (.istore_n 1, 1) := by decide +kernel
theorem dX6_bitsOf_18 : decode cX6_bitsOf 18 = .ok (.iinc 2 1, 3) := by decide +kernel
theorem dX6_bitsOf_21 : decode cX6_bitsOf 21 = .ok (.goto (-17), 3) := by decide +kernel
theorem dX6_bitsOf_24 : decode cX6_bitsOf 24 = .ok (.iload_n 1, 1) := by decide +kernel
theorem dX6_bitsOf_25 : decode cX6_bitsOf 25 = .ok (.ireturn, 1) := by decide +kernel
theorem dX6_count_0 : decode cX6_count 0 = .ok (.iload_n 1, 1) := by decide +kernel
theorem dX6_count_1 : decode cX6_count 1 = .ok (.tableswitch 121 0 5 #[39, 44, 74, 79, 102, 110], 39) := by decide +kernel
theorem dX6_count_40 : decode cX6_count 40 = .ok (.aload_n 0, 1) := by decide +kernel
theorem dX6_count_41 : decode cX6_count 41 = .ok (.getfield 135, 3) := by decide +kernel
theorem dX6_count_44 : decode cX6_count 44 = .ok (.ireturn, 1) := by decide +kernel
theorem dX6_count_45 : decode cX6_count 45 = .ok (.aload_n 0, 1) := by decide +kernel
theorem dX6_count_46 : decode cX6_count 46 = .ok (.getfield 38, 3) := by decide +kernel
theorem dX6_count_49 : decode cX6_count 49 = .ok (.iconst 0, 1) := by decide +kernel
theorem dX6_count_50 : decode cX6_count 50 = .ok (.baload, 1) := by decide +kernel
theorem dX6_count_51 : decode cX6_count 51 = .ok (.ifCond .eq 7, 3) := by decide +kernel
theorem dX6_count_54 : decode cX6_count 54 = .ok (.iconst 1, 1) := by decide +kernel
theorem dX6_count_55 : decode cX6_count 55 = .ok (.goto 4, 3) := by decide +kernel
theorem dX6_count_58 : decode cX6_count 58 = .ok (.iconst 0, 1) := by decide +kernel
theorem dX6_count_59 : decode cX6_count 59 = .ok (.aload_n 0, 1) := by decide +kernel
theorem dX6_count_60 : decode cX6_count 60 = .ok (.getfield 38, 3) := by decide +kernel
theorem dX6_count_63 : decode cX6_count 63 = .ok (.iconst 1, 1) := by decide +kernel
theorem dX6_count_64 : decode cX6_count 64 = .ok (.baload, 1) := by decide +kernel
theorem dX6_count_65 : decode cX6_count 65 = .ok (.ifCond .eq 7, 3) := by decide +kernel
theorem dX6_count_68 : decode cX6_count 68 = .ok (.iconst 1, 1) := by decide +kernel
theorem dX6_count_69 : decode cX6_count 69 = .ok (.goto 4, 3) := by decide +kernel
theorem dX6_count_72 : decode cX6_count 72 = .ok (.iconst 0, 1) := by decide +kernel
theorem dX6_count_73 : decode cX6_count 73 = .ok (.iadd, 1) := by decide +kernel
theorem dX6_count_74 : decode cX6_count 74 = .ok (.ireturn, 1) := by decide +kernel
theorem dX6_count_75 : decode cX6_count 75 = .ok (.aload_n 0, 1) := by decide +kernel
theorem dX6_count_76 : decode cX6_count 76 = .ok (.getfield 57, 3) := by decide +kernel
theorem dX6_count_79 : decode cX6_count 79 = .ok (.ireturn, 1) := by decide +kernel
theorem dX6_count_80 : decode cX6_count 80 = .ok (.aload_n 0, 1) := by decide +kernel
theorem dX6_count_81 : decode cX6_count 81 = .ok (.getfield 42, 3) := by decide +kernel
theorem dX6_count_84 : decode cX6_count 84 = .ok (.iconst 0, 1) := by decide +kernel
theorem dX6_count_85 : decode cX6_count 85 = .ok (.iaload, 1) := by decide +kernel
theorem dX6_count_86 : decode cX6_count 86 = .ok (.bipush (-4), 2) := by decide +kernel
theorem dX6_count_88 : decode cX6_count 88 = .ok (.if_icmp .ne 8, 3) := by decide +kernel
theorem dX6_count_91 : decode cX6_count 91 = .ok (.bipush (-4), 2) := by decide +kernel
theorem dX6_count_93 : decode cX6_count 93 = .ok (.goto 9, 3) := by decide +kernel
theorem dX6_count_96 : decode cX6_count 96 = .ok (.aload_n 0, 1) := by decide +kernel
theorem dX6_count_97 : decode cX6_count 97 = .ok (.getfield 45, 3) := by decide +kernel
theorem dX6_count_100 : decode cX6_count 100 = .ok (.iconst 0, 1) := by decide +kernel
theorem dX6_count_101 : decode cX6_count 101 = .ok (.iaload, 1) := by decide +kernel
theorem dX6_count_102 : decode cX6_count 102 = .ok (.ireturn, 1) := by decide +kernel
theorem dX6_count_103 : decode cX6_count 103 = .ok (.aload_n 0, 1) := by decide +kernel
theorem dX6_count_104 : decode cX6_count 104 = .ok (.invokevirtual 211, 3) := by decide +kernel
theorem dX6_count_107 : decode cX6_count 107 = .ok (.invokestatic 269, 3) := by decide +kernel
theorem dX6_count_110 : decode cX6_count 110 = .ok (.ireturn, 1) := by decide +kernel
theorem dX6_count_111 : decode cX6_count 111 = .ok (.aload_n 0, 1) := by decide +kernel
theorem dX6_count_112 : decode cX6_count 112 = .ok (.getfield 7, 3) := by decide +kernel
theorem dX6_count_115 : decode cX6_count 115 = .ok (.bipush 22, 2) := by decide +kernel
theorem dX6_count_117 : decode cX6_count 117 = .ok (.iaload, 1) := by decide +kernel
theorem dX6_count_118 : decode cX6_count 118 = .ok (.invokestatic 269, 3) := by decide +kernel
theorem dX6_count_121 : decode cX6_count 121 = .ok (.ireturn, 1) := by decide +kernel
theorem dX6_count_122 : decode cX6_count 122 = .ok (.iconst (-1), 1) := by decide +kernel
theorem dX6_count_123 : decode cX6_count 123 = .ok (.ireturn, 1) := by decide +kernel

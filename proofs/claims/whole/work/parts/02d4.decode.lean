theorem d_Law_law_0 : decode code 0 = .ok (.new 7, 3) := by decide +kernel
theorem d_Law_law_3 : decode code 3 = .ok (.dup, 1) := by decide +kernel
theorem d_Law_law_4 : decode code 4 = .ok (.invokespecial 9, 3) := by decide +kernel
theorem d_Law_law_7 : decode code 7 = .ok (.astore_n 1, 1) := by decide +kernel
theorem d_Law_law_8 : decode code 8 = .ok (.new 10, 3) := by decide +kernel
theorem d_Law_law_11 : decode code 11 = .ok (.dup, 1) := by decide +kernel
theorem d_Law_law_12 : decode code 12 = .ok (.invokespecial 12, 3) := by decide +kernel
theorem d_Law_law_15 : decode code 15 = .ok (.astore_n 2, 1) := by decide +kernel
theorem d_Law_law_16 : decode code 16 = .ok (.iconst 0, 1) := by decide +kernel
theorem d_Law_law_17 : decode code 17 = .ok (.istore_n 3, 1) := by decide +kernel
theorem d_Law_law_18 : decode code 18 = .ok (.iload_n 3, 1) := by decide +kernel
theorem d_Law_law_19 : decode code 19 = .ok (.aload_n 0, 1) := by decide +kernel
theorem d_Law_law_20 : decode code 20 = .ok (.arraylength, 1) := by decide +kernel
theorem d_Law_law_21 : decode code 21 = .ok (.bipush 6, 2) := by decide +kernel
theorem d_Law_law_23 : decode code 23 = .ok (.isub, 1) := by decide +kernel
theorem d_Law_law_24 : decode code 24 = .ok (.if_icmp .gt 461, 3) := by decide +kernel
theorem d_Law_law_27 : decode code 27 = .ok (.aload_n 0, 1) := by decide +kernel
theorem d_Law_law_28 : decode code 28 = .ok (.iload_n 3, 1) := by decide +kernel
theorem d_Law_law_29 : decode code 29 = .ok (.iaload, 1) := by decide +kernel
theorem d_Law_law_30 : decode code 30 = .ok (.bipush 15, 2) := by decide +kernel
theorem d_Law_law_32 : decode code 32 = .ok (.iand, 1) := by decide +kernel
theorem d_Law_law_33 : decode code 33 = .ok (.tableswitch 446 0 12 #[67, 130, 153, 186, 209, 242, 265, 288, 311, 334, 367, 390, 423], 67) := by decide +kernel
theorem d_Law_law_100 : decode code 100 = .ok (.aload_n 1, 1) := by decide +kernel
theorem d_Law_law_101 : decode code 101 = .ok (.aload_n 0, 1) := by decide +kernel
theorem d_Law_law_102 : decode code 102 = .ok (.iload_n 3, 1) := by decide +kernel
theorem d_Law_law_103 : decode code 103 = .ok (.iconst 1, 1) := by decide +kernel
theorem d_Law_law_104 : decode code 104 = .ok (.iadd, 1) := by decide +kernel
theorem d_Law_law_105 : decode code 105 = .ok (.iaload, 1) := by decide +kernel
theorem d_Law_law_106 : decode code 106 = .ok (.aload_n 0, 1) := by decide +kernel
theorem d_Law_law_107 : decode code 107 = .ok (.iload_n 3, 1) := by decide +kernel
theorem d_Law_law_108 : decode code 108 = .ok (.iconst 2, 1) := by decide +kernel
theorem d_Law_law_109 : decode code 109 = .ok (.iadd, 1) := by decide +kernel
theorem d_Law_law_110 : decode code 110 = .ok (.iaload, 1) := by decide +kernel
theorem d_Law_law_111 : decode code 111 = .ok (.aload_n 0, 1) := by decide +kernel
theorem d_Law_law_112 : decode code 112 = .ok (.iload_n 3, 1) := by decide +kernel
theorem d_Law_law_113 : decode code 113 = .ok (.iconst 3, 1) := by decide +kernel
theorem d_Law_law_114 : decode code 114 = .ok (.iadd, 1) := by decide +kernel
theorem d_Law_law_115 : decode code 115 = .ok (.iaload, 1) := by decide +kernel
theorem d_Law_law_116 : decode code 116 = .ok (.aload_n 0, 1) := by decide +kernel
theorem d_Law_law_117 : decode code 117 = .ok (.iload_n 3, 1) := by decide +kernel
theorem d_Law_law_118 : decode code 118 = .ok (.iconst 4, 1) := by decide +kernel
theorem d_Law_law_119 : decode code 119 = .ok (.iadd, 1) := by decide +kernel
theorem d_Law_law_120 : decode code 120 = .ok (.iaload, 1) := by decide +kernel
theorem d_Law_law_121 : decode code 121 = .ok (.aload_n 0, 1) := by decide +kernel
theorem d_Law_law_122 : decode code 122 = .ok (.iload_n 3, 1) := by decide +kernel
theorem d_Law_law_123 : decode code 123 = .ok (.iconst 5, 1) := by decide +kernel
theorem d_Law_law_124 : decode code 124 = .ok (.iadd, 1) := by decide +kernel
theorem d_Law_law_125 : decode code 125 = .ok (.iaload, 1) := by decide +kernel
theorem d_Law_law_126 : decode code 126 = .ok (.invokevirtual 13, 3) := by decide +kernel
theorem d_Law_law_129 : decode code 129 = .ok (.aload_n 2, 1) := by decide +kernel
theorem d_Law_law_130 : decode code 130 = .ok (.aload_n 0, 1) := by decide +kernel
theorem d_Law_law_131 : decode code 131 = .ok (.iload_n 3, 1) := by decide +kernel
theorem d_Law_law_132 : decode code 132 = .ok (.iconst 1, 1) := by decide +kernel
theorem d_Law_law_133 : decode code 133 = .ok (.iadd, 1) := by decide +kernel
theorem d_Law_law_134 : decode code 134 = .ok (.iaload, 1) := by decide +kernel
theorem d_Law_law_135 : decode code 135 = .ok (.aload_n 0, 1) := by decide +kernel
theorem d_Law_law_136 : decode code 136 = .ok (.iload_n 3, 1) := by decide +kernel
theorem d_Law_law_137 : decode code 137 = .ok (.iconst 2, 1) := by decide +kernel
theorem d_Law_law_138 : decode code 138 = .ok (.iadd, 1) := by decide +kernel
theorem d_Law_law_139 : decode code 139 = .ok (.iaload, 1) := by decide +kernel
theorem d_Law_law_140 : decode code 140 = .ok (.aload_n 0, 1) := by decide +kernel
theorem d_Law_law_141 : decode code 141 = .ok (.iload_n 3, 1) := by decide +kernel
theorem d_Law_law_142 : decode code 142 = .ok (.iconst 3, 1) := by decide +kernel
theorem d_Law_law_143 : decode code 143 = .ok (.iadd, 1) := by decide +kernel
theorem d_Law_law_144 : decode code 144 = .ok (.iaload, 1) := by decide +kernel
theorem d_Law_law_145 : decode code 145 = .ok (.aload_n 0, 1) := by decide +kernel
theorem d_Law_law_146 : decode code 146 = .ok (.iload_n 3, 1) := by decide +kernel
theorem d_Law_law_147 : decode code 147 = .ok (.iconst 4, 1) := by decide +kernel
theorem d_Law_law_148 : decode code 148 = .ok (.iadd, 1) := by decide +kernel
theorem d_Law_law_149 : decode code 149 = .ok (.iaload, 1) := by decide +kernel
theorem d_Law_law_150 : decode code 150 = .ok (.aload_n 0, 1) := by decide +kernel
theorem d_Law_law_151 : decode code 151 = .ok (.iload_n 3, 1) := by decide +kernel
theorem d_Law_law_152 : decode code 152 = .ok (.iconst 5, 1) := by decide +kernel
theorem d_Law_law_153 : decode code 153 = .ok (.iadd, 1) := by decide +kernel
theorem d_Law_law_154 : decode code 154 = .ok (.iaload, 1) := by decide +kernel
theorem d_Law_law_155 : decode code 155 = .ok (.invokevirtual 17, 3) := by decide +kernel
theorem d_Law_law_158 : decode code 158 = .ok (.if_icmp .eq 321, 3) := by decide +kernel
theorem d_Law_law_161 : decode code 161 = .ok (.iconst 0, 1) := by decide +kernel
theorem d_Law_law_162 : decode code 162 = .ok (.ireturn, 1) := by decide +kernel
theorem d_Law_law_163 : decode code 163 = .ok (.aload_n 1, 1) := by decide +kernel
theorem d_Law_law_164 : decode code 164 = .ok (.aload_n 0, 1) := by decide +kernel
theorem d_Law_law_165 : decode code 165 = .ok (.iload_n 3, 1) := by decide +kernel
theorem d_Law_law_166 : decode code 166 = .ok (.iconst 1, 1) := by decide +kernel
theorem d_Law_law_167 : decode code 167 = .ok (.iadd, 1) := by decide +kernel
theorem d_Law_law_168 : decode code 168 = .ok (.iaload, 1) := by decide +kernel
theorem d_Law_law_169 : decode code 169 = .ok (.invokevirtual 18, 3) := by decide +kernel
theorem d_Law_law_172 : decode code 172 = .ok (.aload_n 2, 1) := by decide +kernel
theorem d_Law_law_173 : decode code 173 = .ok (.aload_n 0, 1) := by decide +kernel
theorem d_Law_law_174 : decode code 174 = .ok (.iload_n 3, 1) := by decide +kernel
theorem d_Law_law_175 : decode code 175 = .ok (.iconst 1, 1) := by decide +kernel
theorem d_Law_law_176 : decode code 176 = .ok (.iadd, 1) := by decide +kernel
theorem d_Law_law_177 : decode code 177 = .ok (.iaload, 1) := by decide +kernel
theorem d_Law_law_178 : decode code 178 = .ok (.invokevirtual 22, 3) := by decide +kernel
theorem d_Law_law_181 : decode code 181 = .ok (.if_icmp .eq 298, 3) := by decide +kernel
theorem d_Law_law_184 : decode code 184 = .ok (.iconst 0, 1) := by decide +kernel
theorem d_Law_law_185 : decode code 185 = .ok (.ireturn, 1) := by decide +kernel
theorem d_Law_law_186 : decode code 186 = .ok (.aload_n 1, 1) := by decide +kernel
theorem d_Law_law_187 : decode code 187 = .ok (.aload_n 0, 1) := by decide +kernel
theorem d_Law_law_188 : decode code 188 = .ok (.iload_n 3, 1) := by decide +kernel
theorem d_Law_law_189 : decode code 189 = .ok (.iconst 1, 1) := by decide +kernel
theorem d_Law_law_190 : decode code 190 = .ok (.iadd, 1) := by decide +kernel
theorem d_Law_law_191 : decode code 191 = .ok (.iaload, 1) := by decide +kernel
theorem d_Law_law_192 : decode code 192 = .ok (.aload_n 0, 1) := by decide +kernel
theorem d_Law_law_193 : decode code 193 = .ok (.iload_n 3, 1) := by decide +kernel
theorem d_Law_law_194 : decode code 194 = .ok (.iconst 2, 1) := by decide +kernel
theorem d_Law_law_195 : decode code 195 = .ok (.iadd, 1) := by decide +kernel
theorem d_Law_law_196 : decode code 196 = .ok (.iaload, 1) := by decide +kernel
theorem d_Law_law_197 : decode code 197 = .ok (.invokevirtual 23, 3) := by decide +kernel
theorem d_Law_law_200 : decode code 200 = .ok (.aload_n 2, 1) := by decide +kernel
theorem d_Law_law_201 : decode code 201 = .ok (.aload_n 0, 1) := by decide +kernel
theorem d_Law_law_202 : decode code 202 = .ok (.iload_n 3, 1) := by decide +kernel
theorem d_Law_law_203 : decode code 203 = .ok (.iconst 1, 1) := by decide +kernel
theorem d_Law_law_204 : decode code 204 = .ok (.iadd, 1) := by decide +kernel
theorem d_Law_law_205 : decode code 205 = .ok (.iaload, 1) := by decide +kernel
theorem d_Law_law_206 : decode code 206 = .ok (.aload_n 0, 1) := by decide +kernel
theorem d_Law_law_207 : decode code 207 = .ok (.iload_n 3, 1) := by decide +kernel
theorem d_Law_law_208 : decode code 208 = .ok (.iconst 2, 1) := by decide +kernel
theorem d_Law_law_209 : decode code 209 = .ok (.iadd, 1) := by decide +kernel
theorem d_Law_law_210 : decode code 210 = .ok (.iaload, 1) := by decide +kernel
theorem d_Law_law_211 : decode code 211 = .ok (.invokevirtual 27, 3) := by decide +kernel
theorem d_Law_law_214 : decode code 214 = .ok (.if_icmp .eq 265, 3) := by decide +kernel
theorem d_Law_law_217 : decode code 217 = .ok (.iconst 0, 1) := by decide +kernel
theorem d_Law_law_218 : decode code 218 = .ok (.ireturn, 1) := by decide +kernel
theorem d_Law_law_219 : decode code 219 = .ok (.aload_n 1, 1) := by decide +kernel
theorem d_Law_law_220 : decode code 220 = .ok (.aload_n 0, 1) := by decide +kernel
theorem d_Law_law_221 : decode code 221 = .ok (.iload_n 3, 1) := by decide +kernel
theorem d_Law_law_222 : decode code 222 = .ok (.iconst 1, 1) := by decide +kernel
theorem d_Law_law_223 : decode code 223 = .ok (.iadd, 1) := by decide +kernel
theorem d_Law_law_224 : decode code 224 = .ok (.iaload, 1) := by decide +kernel
theorem d_Law_law_225 : decode code 225 = .ok (.invokevirtual 28, 3) := by decide +kernel
theorem d_Law_law_228 : decode code 228 = .ok (.aload_n 2, 1) := by decide +kernel
theorem d_Law_law_229 : decode code 229 = .ok (.aload_n 0, 1) := by decide +kernel
theorem d_Law_law_230 : decode code 230 = .ok (.iload_n 3, 1) := by decide +kernel
theorem d_Law_law_231 : decode code 231 = .ok (.iconst 1, 1) := by decide +kernel
theorem d_Law_law_232 : decode code 232 = .ok (.iadd, 1) := by decide +kernel
theorem d_Law_law_233 : decode code 233 = .ok (.iaload, 1) := by decide +kernel
theorem d_Law_law_234 : decode code 234 = .ok (.invokevirtual 31, 3) := by decide +kernel
theorem d_Law_law_237 : decode code 237 = .ok (.if_icmp .eq 242, 3) := by decide +kernel
theorem d_Law_law_240 : decode code 240 = .ok (.iconst 0, 1) := by decide +kernel
theorem d_Law_law_241 : decode code 241 = .ok (.ireturn, 1) := by decide +kernel
theorem d_Law_law_242 : decode code 242 = .ok (.aload_n 1, 1) := by decide +kernel
theorem d_Law_law_243 : decode code 243 = .ok (.aload_n 0, 1) := by decide +kernel
theorem d_Law_law_244 : decode code 244 = .ok (.iload_n 3, 1) := by decide +kernel
theorem d_Law_law_245 : decode code 245 = .ok (.iconst 1, 1) := by decide +kernel
theorem d_Law_law_246 : decode code 246 = .ok (.iadd, 1) := by decide +kernel
theorem d_Law_law_247 : decode code 247 = .ok (.iaload, 1) := by decide +kernel
theorem d_Law_law_248 : decode code 248 = .ok (.aload_n 0, 1) := by decide +kernel
theorem d_Law_law_249 : decode code 249 = .ok (.iload_n 3, 1) := by decide +kernel
theorem d_Law_law_250 : decode code 250 = .ok (.iconst 2, 1) := by decide +kernel
theorem d_Law_law_251 : decode code 251 = .ok (.iadd, 1) := by decide +kernel
theorem d_Law_law_252 : decode code 252 = .ok (.iaload, 1) := by decide +kernel
theorem d_Law_law_253 : decode code 253 = .ok (.invokevirtual 32, 3) := by decide +kernel
theorem d_Law_law_256 : decode code 256 = .ok (.aload_n 2, 1) := by decide +kernel
theorem d_Law_law_257 : decode code 257 = .ok (.aload_n 0, 1) := by decide +kernel
theorem d_Law_law_258 : decode code 258 = .ok (.iload_n 3, 1) := by decide +kernel
theorem d_Law_law_259 : decode code 259 = .ok (.iconst 1, 1) := by decide +kernel
theorem d_Law_law_260 : decode code 260 = .ok (.iadd, 1) := by decide +kernel
theorem d_Law_law_261 : decode code 261 = .ok (.iaload, 1) := by decide +kernel
theorem d_Law_law_262 : decode code 262 = .ok (.aload_n 0, 1) := by decide +kernel
theorem d_Law_law_263 : decode code 263 = .ok (.iload_n 3, 1) := by decide +kernel
theorem d_Law_law_264 : decode code 264 = .ok (.iconst 2, 1) := by decide +kernel
theorem d_Law_law_265 : decode code 265 = .ok (.iadd, 1) := by decide +kernel
theorem d_Law_law_266 : decode code 266 = .ok (.iaload, 1) := by decide +kernel
theorem d_Law_law_267 : decode code 267 = .ok (.invokevirtual 35, 3) := by decide +kernel
theorem d_Law_law_270 : decode code 270 = .ok (.if_icmp .eq 209, 3) := by decide +kernel
theorem d_Law_law_273 : decode code 273 = .ok (.iconst 0, 1) := by decide +kernel
theorem d_Law_law_274 : decode code 274 = .ok (.ireturn, 1) := by decide +kernel
theorem d_Law_law_275 : decode code 275 = .ok (.aload_n 1, 1) := by decide +kernel
theorem d_Law_law_276 : decode code 276 = .ok (.aload_n 0, 1) := by decide +kernel
theorem d_Law_law_277 : decode code 277 = .ok (.iload_n 3, 1) := by decide +kernel
theorem d_Law_law_278 : decode code 278 = .ok (.iconst 1, 1) := by decide +kernel
theorem d_Law_law_279 : decode code 279 = .ok (.iadd, 1) := by decide +kernel
theorem d_Law_law_280 : decode code 280 = .ok (.iaload, 1) := by decide +kernel
theorem d_Law_law_281 : decode code 281 = .ok (.invokevirtual 36, 3) := by decide +kernel
theorem d_Law_law_284 : decode code 284 = .ok (.aload_n 2, 1) := by decide +kernel
theorem d_Law_law_285 : decode code 285 = .ok (.aload_n 0, 1) := by decide +kernel
theorem d_Law_law_286 : decode code 286 = .ok (.iload_n 3, 1) := by decide +kernel
theorem d_Law_law_287 : decode code 287 = .ok (.iconst 1, 1) := by decide +kernel
theorem d_Law_law_288 : decode code 288 = .ok (.iadd, 1) := by decide +kernel
theorem d_Law_law_289 : decode code 289 = .ok (.iaload, 1) := by decide +kernel
theorem d_Law_law_290 : decode code 290 = .ok (.invokevirtual 39, 3) := by decide +kernel
theorem d_Law_law_293 : decode code 293 = .ok (.if_icmp .eq 186, 3) := by decide +kernel
theorem d_Law_law_296 : decode code 296 = .ok (.iconst 0, 1) := by decide +kernel
theorem d_Law_law_297 : decode code 297 = .ok (.ireturn, 1) := by decide +kernel
theorem d_Law_law_298 : decode code 298 = .ok (.aload_n 1, 1) := by decide +kernel
theorem d_Law_law_299 : decode code 299 = .ok (.aload_n 0, 1) := by decide +kernel
theorem d_Law_law_300 : decode code 300 = .ok (.iload_n 3, 1) := by decide +kernel
theorem d_Law_law_301 : decode code 301 = .ok (.iconst 1, 1) := by decide +kernel
theorem d_Law_law_302 : decode code 302 = .ok (.iadd, 1) := by decide +kernel
theorem d_Law_law_303 : decode code 303 = .ok (.iaload, 1) := by decide +kernel
theorem d_Law_law_304 : decode code 304 = .ok (.invokevirtual 40, 3) := by decide +kernel
theorem d_Law_law_307 : decode code 307 = .ok (.aload_n 2, 1) := by decide +kernel
theorem d_Law_law_308 : decode code 308 = .ok (.aload_n 0, 1) := by decide +kernel
theorem d_Law_law_309 : decode code 309 = .ok (.iload_n 3, 1) := by decide +kernel
theorem d_Law_law_310 : decode code 310 = .ok (.iconst 1, 1) := by decide +kernel
theorem d_Law_law_311 : decode code 311 = .ok (.iadd, 1) := by decide +kernel
theorem d_Law_law_312 : decode code 312 = .ok (.iaload, 1) := by decide +kernel
theorem d_Law_law_313 : decode code 313 = .ok (.invokevirtual 43, 3) := by decide +kernel
theorem d_Law_law_316 : decode code 316 = .ok (.if_icmp .eq 163, 3) := by decide +kernel
theorem d_Law_law_319 : decode code 319 = .ok (.iconst 0, 1) := by decide +kernel
theorem d_Law_law_320 : decode code 320 = .ok (.ireturn, 1) := by decide +kernel
theorem d_Law_law_321 : decode code 321 = .ok (.aload_n 1, 1) := by decide +kernel
theorem d_Law_law_322 : decode code 322 = .ok (.aload_n 0, 1) := by decide +kernel
theorem d_Law_law_323 : decode code 323 = .ok (.iload_n 3, 1) := by decide +kernel
theorem d_Law_law_324 : decode code 324 = .ok (.iconst 1, 1) := by decide +kernel
theorem d_Law_law_325 : decode code 325 = .ok (.iadd, 1) := by decide +kernel
theorem d_Law_law_326 : decode code 326 = .ok (.iaload, 1) := by decide +kernel
theorem d_Law_law_327 : decode code 327 = .ok (.invokevirtual 44, 3) := by decide +kernel
theorem d_Law_law_330 : decode code 330 = .ok (.aload_n 2, 1) := by decide +kernel
theorem d_Law_law_331 : decode code 331 = .ok (.aload_n 0, 1) := by decide +kernel
theorem d_Law_law_332 : decode code 332 = .ok (.iload_n 3, 1) := by decide +kernel
theorem d_Law_law_333 : decode code 333 = .ok (.iconst 1, 1) := by decide +kernel
theorem d_Law_law_334 : decode code 334 = .ok (.iadd, 1) := by decide +kernel
theorem d_Law_law_335 : decode code 335 = .ok (.iaload, 1) := by decide +kernel
theorem d_Law_law_336 : decode code 336 = .ok (.invokevirtual 47, 3) := by decide +kernel
theorem d_Law_law_339 : decode code 339 = .ok (.if_icmp .eq 140, 3) := by decide +kernel
theorem d_Law_law_342 : decode code 342 = .ok (.iconst 0, 1) := by decide +kernel
theorem d_Law_law_343 : decode code 343 = .ok (.ireturn, 1) := by decide +kernel
theorem d_Law_law_344 : decode code 344 = .ok (.aload_n 1, 1) := by decide +kernel
theorem d_Law_law_345 : decode code 345 = .ok (.aload_n 0, 1) := by decide +kernel
theorem d_Law_law_346 : decode code 346 = .ok (.iload_n 3, 1) := by decide +kernel
theorem d_Law_law_347 : decode code 347 = .ok (.iconst 1, 1) := by decide +kernel
theorem d_Law_law_348 : decode code 348 = .ok (.iadd, 1) := by decide +kernel
theorem d_Law_law_349 : decode code 349 = .ok (.iaload, 1) := by decide +kernel
theorem d_Law_law_350 : decode code 350 = .ok (.invokevirtual 48, 3) := by decide +kernel
theorem d_Law_law_353 : decode code 353 = .ok (.aload_n 2, 1) := by decide +kernel
theorem d_Law_law_354 : decode code 354 = .ok (.aload_n 0, 1) := by decide +kernel
theorem d_Law_law_355 : decode code 355 = .ok (.iload_n 3, 1) := by decide +kernel
theorem d_Law_law_356 : decode code 356 = .ok (.iconst 1, 1) := by decide +kernel
theorem d_Law_law_357 : decode code 357 = .ok (.iadd, 1) := by decide +kernel
theorem d_Law_law_358 : decode code 358 = .ok (.iaload, 1) := by decide +kernel
theorem d_Law_law_359 : decode code 359 = .ok (.invokevirtual 51, 3) := by decide +kernel
theorem d_Law_law_362 : decode code 362 = .ok (.if_icmp .eq 117, 3) := by decide +kernel
theorem d_Law_law_365 : decode code 365 = .ok (.iconst 0, 1) := by decide +kernel
theorem d_Law_law_366 : decode code 366 = .ok (.ireturn, 1) := by decide +kernel
theorem d_Law_law_367 : decode code 367 = .ok (.aload_n 1, 1) := by decide +kernel
theorem d_Law_law_368 : decode code 368 = .ok (.aload_n 0, 1) := by decide +kernel
theorem d_Law_law_369 : decode code 369 = .ok (.iload_n 3, 1) := by decide +kernel
theorem d_Law_law_370 : decode code 370 = .ok (.iconst 1, 1) := by decide +kernel
theorem d_Law_law_371 : decode code 371 = .ok (.iadd, 1) := by decide +kernel
theorem d_Law_law_372 : decode code 372 = .ok (.iaload, 1) := by decide +kernel
theorem d_Law_law_373 : decode code 373 = .ok (.aload_n 0, 1) := by decide +kernel
theorem d_Law_law_374 : decode code 374 = .ok (.iload_n 3, 1) := by decide +kernel
theorem d_Law_law_375 : decode code 375 = .ok (.iconst 2, 1) := by decide +kernel
theorem d_Law_law_376 : decode code 376 = .ok (.iadd, 1) := by decide +kernel
theorem d_Law_law_377 : decode code 377 = .ok (.iaload, 1) := by decide +kernel
theorem d_Law_law_378 : decode code 378 = .ok (.invokevirtual 52, 3) := by decide +kernel
theorem d_Law_law_381 : decode code 381 = .ok (.aload_n 2, 1) := by decide +kernel
theorem d_Law_law_382 : decode code 382 = .ok (.aload_n 0, 1) := by decide +kernel
theorem d_Law_law_383 : decode code 383 = .ok (.iload_n 3, 1) := by decide +kernel
theorem d_Law_law_384 : decode code 384 = .ok (.iconst 1, 1) := by decide +kernel
theorem d_Law_law_385 : decode code 385 = .ok (.iadd, 1) := by decide +kernel
theorem d_Law_law_386 : decode code 386 = .ok (.iaload, 1) := by decide +kernel
theorem d_Law_law_387 : decode code 387 = .ok (.aload_n 0, 1) := by decide +kernel
theorem d_Law_law_388 : decode code 388 = .ok (.iload_n 3, 1) := by decide +kernel
theorem d_Law_law_389 : decode code 389 = .ok (.iconst 2, 1) := by decide +kernel
theorem d_Law_law_390 : decode code 390 = .ok (.iadd, 1) := by decide +kernel
theorem d_Law_law_391 : decode code 391 = .ok (.iaload, 1) := by decide +kernel
theorem d_Law_law_392 : decode code 392 = .ok (.invokevirtual 55, 3) := by decide +kernel
theorem d_Law_law_395 : decode code 395 = .ok (.if_icmp .eq 84, 3) := by decide +kernel
theorem d_Law_law_398 : decode code 398 = .ok (.iconst 0, 1) := by decide +kernel
theorem d_Law_law_399 : decode code 399 = .ok (.ireturn, 1) := by decide +kernel
theorem d_Law_law_400 : decode code 400 = .ok (.aload_n 1, 1) := by decide +kernel
theorem d_Law_law_401 : decode code 401 = .ok (.aload_n 0, 1) := by decide +kernel
theorem d_Law_law_402 : decode code 402 = .ok (.iload_n 3, 1) := by decide +kernel
theorem d_Law_law_403 : decode code 403 = .ok (.iconst 1, 1) := by decide +kernel
theorem d_Law_law_404 : decode code 404 = .ok (.iadd, 1) := by decide +kernel
theorem d_Law_law_405 : decode code 405 = .ok (.iaload, 1) := by decide +kernel
theorem d_Law_law_406 : decode code 406 = .ok (.invokevirtual 56, 3) := by decide +kernel
theorem d_Law_law_409 : decode code 409 = .ok (.aload_n 2, 1) := by decide +kernel
theorem d_Law_law_410 : decode code 410 = .ok (.aload_n 0, 1) := by decide +kernel
theorem d_Law_law_411 : decode code 411 = .ok (.iload_n 3, 1) := by decide +kernel
theorem d_Law_law_412 : decode code 412 = .ok (.iconst 1, 1) := by decide +kernel
theorem d_Law_law_413 : decode code 413 = .ok (.iadd, 1) := by decide +kernel
theorem d_Law_law_414 : decode code 414 = .ok (.iaload, 1) := by decide +kernel
theorem d_Law_law_415 : decode code 415 = .ok (.invokevirtual 59, 3) := by decide +kernel
theorem d_Law_law_418 : decode code 418 = .ok (.if_icmp .eq 61, 3) := by decide +kernel
theorem d_Law_law_421 : decode code 421 = .ok (.iconst 0, 1) := by decide +kernel
theorem d_Law_law_422 : decode code 422 = .ok (.ireturn, 1) := by decide +kernel
theorem d_Law_law_423 : decode code 423 = .ok (.aload_n 1, 1) := by decide +kernel
theorem d_Law_law_424 : decode code 424 = .ok (.aload_n 0, 1) := by decide +kernel
theorem d_Law_law_425 : decode code 425 = .ok (.iload_n 3, 1) := by decide +kernel
theorem d_Law_law_426 : decode code 426 = .ok (.iconst 1, 1) := by decide +kernel
theorem d_Law_law_427 : decode code 427 = .ok (.iadd, 1) := by decide +kernel
theorem d_Law_law_428 : decode code 428 = .ok (.iaload, 1) := by decide +kernel
theorem d_Law_law_429 : decode code 429 = .ok (.aload_n 0, 1) := by decide +kernel
theorem d_Law_law_430 : decode code 430 = .ok (.iload_n 3, 1) := by decide +kernel
theorem d_Law_law_431 : decode code 431 = .ok (.iconst 2, 1) := by decide +kernel
theorem d_Law_law_432 : decode code 432 = .ok (.iadd, 1) := by decide +kernel
theorem d_Law_law_433 : decode code 433 = .ok (.iaload, 1) := by decide +kernel
theorem d_Law_law_434 : decode code 434 = .ok (.invokevirtual 60, 3) := by decide +kernel
theorem d_Law_law_437 : decode code 437 = .ok (.aload_n 2, 1) := by decide +kernel
theorem d_Law_law_438 : decode code 438 = .ok (.aload_n 0, 1) := by decide +kernel
theorem d_Law_law_439 : decode code 439 = .ok (.iload_n 3, 1) := by decide +kernel
theorem d_Law_law_440 : decode code 440 = .ok (.iconst 1, 1) := by decide +kernel
theorem d_Law_law_441 : decode code 441 = .ok (.iadd, 1) := by decide +kernel
theorem d_Law_law_442 : decode code 442 = .ok (.iaload, 1) := by decide +kernel
theorem d_Law_law_443 : decode code 443 = .ok (.aload_n 0, 1) := by decide +kernel
theorem d_Law_law_444 : decode code 444 = .ok (.iload_n 3, 1) := by decide +kernel
theorem d_Law_law_445 : decode code 445 = .ok (.iconst 2, 1) := by decide +kernel
theorem d_Law_law_446 : decode code 446 = .ok (.iadd, 1) := by decide +kernel
theorem d_Law_law_447 : decode code 447 = .ok (.iaload, 1) := by decide +kernel
theorem d_Law_law_448 : decode code 448 = .ok (.invokevirtual 63, 3) := by decide +kernel
theorem d_Law_law_451 : decode code 451 = .ok (.if_icmp .eq 28, 3) := by decide +kernel
theorem d_Law_law_454 : decode code 454 = .ok (.iconst 0, 1) := by decide +kernel
theorem d_Law_law_455 : decode code 455 = .ok (.ireturn, 1) := by decide +kernel
theorem d_Law_law_456 : decode code 456 = .ok (.aload_n 1, 1) := by decide +kernel
theorem d_Law_law_457 : decode code 457 = .ok (.aload_n 0, 1) := by decide +kernel
theorem d_Law_law_458 : decode code 458 = .ok (.iload_n 3, 1) := by decide +kernel
theorem d_Law_law_459 : decode code 459 = .ok (.iconst 1, 1) := by decide +kernel
theorem d_Law_law_460 : decode code 460 = .ok (.iadd, 1) := by decide +kernel
theorem d_Law_law_461 : decode code 461 = .ok (.iaload, 1) := by decide +kernel
theorem d_Law_law_462 : decode code 462 = .ok (.invokevirtual 64, 3) := by decide +kernel
theorem d_Law_law_465 : decode code 465 = .ok (.aload_n 2, 1) := by decide +kernel
theorem d_Law_law_466 : decode code 466 = .ok (.aload_n 0, 1) := by decide +kernel
theorem d_Law_law_467 : decode code 467 = .ok (.iload_n 3, 1) := by decide +kernel
theorem d_Law_law_468 : decode code 468 = .ok (.iconst 1, 1) := by decide +kernel
theorem d_Law_law_469 : decode code 469 = .ok (.iadd, 1) := by decide +kernel
theorem d_Law_law_470 : decode code 470 = .ok (.iaload, 1) := by decide +kernel
theorem d_Law_law_471 : decode code 471 = .ok (.invokevirtual 67, 3) := by decide +kernel
theorem d_Law_law_474 : decode code 474 = .ok (.if_icmp .eq 5, 3) := by decide +kernel
theorem d_Law_law_477 : decode code 477 = .ok (.iconst 0, 1) := by decide +kernel
theorem d_Law_law_478 : decode code 478 = .ok (.ireturn, 1) := by decide +kernel
theorem d_Law_law_479 : decode code 479 = .ok (.iinc 3 6, 3) := by decide +kernel
theorem d_Law_law_482 : decode code 482 = .ok (.goto (-464), 3) := by decide +kernel
theorem d_Law_law_485 : decode code 485 = .ok (.iconst 1, 1) := by decide +kernel
theorem d_Law_law_486 : decode code 486 = .ok (.ireturn, 1) := by decide +kernel

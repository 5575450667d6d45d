theorem d_Y_walk_67 : decode prog_8_method_23_code 67 = .ok (.iconst 1, 1) := by decide +kernel
theorem d_Y_walk_68 : decode prog_8_method_23_code 68 = .ok (.istore 5, 2) := by decide +kernel
theorem d_Y_walk_70 : decode prog_8_method_23_code 70 = .ok (.aload_n 0, 1) := by decide +kernel
theorem d_Y_walk_71 : decode prog_8_method_23_code 71 = .ok (.getfield 31, 3) := by decide +kernel
theorem d_Y_walk_74 : decode prog_8_method_23_code 74 = .ok (.iconst 0, 1) := by decide +kernel
theorem d_Y_walk_75 : decode prog_8_method_23_code 75 = .ok (.iaload, 1) := by decide +kernel
theorem d_Y_walk_76 : decode prog_8_method_23_code 76 = .ok (.ifCond .ne 12, 3) := by decide +kernel
theorem d_Y_walk_79 : decode prog_8_method_23_code 79 = .ok (.aload_n 0, 1) := by decide +kernel
theorem d_Y_walk_80 : decode prog_8_method_23_code 80 = .ok (.getfield 31, 3) := by decide +kernel
theorem d_Y_walk_83 : decode prog_8_method_23_code 83 = .ok (.iconst 1, 1) := by decide +kernel
theorem d_Y_walk_84 : decode prog_8_method_23_code 84 = .ok (.iaload, 1) := by decide +kernel
theorem d_Y_walk_85 : decode prog_8_method_23_code 85 = .ok (.ifCond .eq 279, 3) := by decide +kernel
theorem d_Y_walk_88 : decode prog_8_method_23_code 88 = .ok (.aload_n 0, 1) := by decide +kernel
theorem d_Y_walk_89 : decode prog_8_method_23_code 89 = .ok (.getfield 31, 3) := by decide +kernel
theorem d_Y_walk_92 : decode prog_8_method_23_code 92 = .ok (.iconst 0, 1) := by decide +kernel
theorem d_Y_walk_93 : decode prog_8_method_23_code 93 = .ok (.iaload, 1) := by decide +kernel
theorem d_Y_walk_94 : decode prog_8_method_23_code 94 = .ok (.aload_n 0, 1) := by decide +kernel
theorem d_Y_walk_95 : decode prog_8_method_23_code 95 = .ok (.getfield 31, 3) := by decide +kernel
theorem d_Y_walk_98 : decode prog_8_method_23_code 98 = .ok (.iconst 1, 1) := by decide +kernel
theorem d_Y_walk_99 : decode prog_8_method_23_code 99 = .ok (.iaload, 1) := by decide +kernel
theorem d_Y_walk_100 : decode prog_8_method_23_code 100 = .ok (.ior, 1) := by decide +kernel
theorem d_Y_walk_101 : decode prog_8_method_23_code 101 = .ok (.iload_n 2, 1) := by decide +kernel
theorem d_Y_walk_102 : decode prog_8_method_23_code 102 = .ok (.ishr, 1) := by decide +kernel
theorem d_Y_walk_103 : decode prog_8_method_23_code 103 = .ok (.iconst 1, 1) := by decide +kernel
theorem d_Y_walk_104 : decode prog_8_method_23_code 104 = .ok (.iand, 1) := by decide +kernel
theorem d_Y_walk_105 : decode prog_8_method_23_code 105 = .ok (.iconst 1, 1) := by decide +kernel
theorem d_Y_walk_106 : decode prog_8_method_23_code 106 = .ok (.if_icmp .ne 6, 3) := by decide +kernel
theorem d_Y_walk_109 : decode prog_8_method_23_code 109 = .ok (.iload 5, 2) := by decide +kernel
theorem d_Y_walk_111 : decode prog_8_method_23_code 111 = .ok (.ireturn, 1) := by decide +kernel
theorem d_Y_walk_112 : decode prog_8_method_23_code 112 = .ok (.aload_n 0, 1) := by decide +kernel
theorem d_Y_walk_113 : decode prog_8_method_23_code 113 = .ok (.getfield 37, 3) := by decide +kernel
theorem d_Y_walk_116 : decode prog_8_method_23_code 116 = .ok (.iconst 0, 1) := by decide +kernel
theorem d_Y_walk_117 : decode prog_8_method_23_code 117 = .ok (.dup2, 1) := by decide +kernel
theorem d_Y_walk_118 : decode prog_8_method_23_code 118 = .ok (.iaload, 1) := by decide +kernel
theorem d_Y_walk_119 : decode prog_8_method_23_code 119 = .ok (.aload_n 0, 1) := by decide +kernel
theorem d_Y_walk_120 : decode prog_8_method_23_code 120 = .ok (.getfield 31, 3) := by decide +kernel
theorem d_Y_walk_123 : decode prog_8_method_23_code 123 = .ok (.iconst 0, 1) := by decide +kernel
theorem d_Y_walk_124 : decode prog_8_method_23_code 124 = .ok (.iaload, 1) := by decide +kernel
theorem d_Y_walk_125 : decode prog_8_method_23_code 125 = .ok (.ior, 1) := by decide +kernel
theorem d_Y_walk_126 : decode prog_8_method_23_code 126 = .ok (.iastore, 1) := by decide +kernel
theorem d_Y_walk_127 : decode prog_8_method_23_code 127 = .ok (.aload_n 0, 1) := by decide +kernel
theorem d_Y_walk_128 : decode prog_8_method_23_code 128 = .ok (.getfield 37, 3) := by decide +kernel
theorem d_Y_walk_131 : decode prog_8_method_23_code 131 = .ok (.iconst 1, 1) := by decide +kernel
theorem d_Y_walk_132 : decode prog_8_method_23_code 132 = .ok (.dup2, 1) := by decide +kernel
theorem d_Y_walk_133 : decode prog_8_method_23_code 133 = .ok (.iaload, 1) := by decide +kernel
theorem d_Y_walk_134 : decode prog_8_method_23_code 134 = .ok (.aload_n 0, 1) := by decide +kernel
theorem d_Y_walk_135 : decode prog_8_method_23_code 135 = .ok (.getfield 31, 3) := by decide +kernel
theorem d_Y_walk_138 : decode prog_8_method_23_code 138 = .ok (.iconst 1, 1) := by decide +kernel
theorem d_Y_walk_139 : decode prog_8_method_23_code 139 = .ok (.iaload, 1) := by decide +kernel
theorem d_Y_walk_140 : decode prog_8_method_23_code 140 = .ok (.ior, 1) := by decide +kernel
theorem d_Y_walk_141 : decode prog_8_method_23_code 141 = .ok (.iastore, 1) := by decide +kernel
theorem d_Y_walk_142 : decode prog_8_method_23_code 142 = .ok (.aload_n 0, 1) := by decide +kernel
theorem d_Y_walk_143 : decode prog_8_method_23_code 143 = .ok (.getfield 34, 3) := by decide +kernel
theorem d_Y_walk_146 : decode prog_8_method_23_code 146 = .ok (.iconst 0, 1) := by decide +kernel
theorem d_Y_walk_147 : decode prog_8_method_23_code 147 = .ok (.iconst 0, 1) := by decide +kernel
theorem d_Y_walk_148 : decode prog_8_method_23_code 148 = .ok (.iastore, 1) := by decide +kernel
theorem d_Y_walk_149 : decode prog_8_method_23_code 149 = .ok (.aload_n 0, 1) := by decide +kernel
theorem d_Y_walk_150 : decode prog_8_method_23_code 150 = .ok (.getfield 34, 3) := by decide +kernel
theorem d_Y_walk_153 : decode prog_8_method_23_code 153 = .ok (.iconst 1, 1) := by decide +kernel
theorem d_Y_walk_154 : decode prog_8_method_23_code 154 = .ok (.iconst 0, 1) := by decide +kernel
theorem d_Y_walk_155 : decode prog_8_method_23_code 155 = .ok (.iastore, 1) := by decide +kernel
theorem d_Y_walk_156 : decode prog_8_method_23_code 156 = .ok (.iconst 0, 1) := by decide +kernel
theorem d_Y_walk_157 : decode prog_8_method_23_code 157 = .ok (.istore 6, 2) := by decide +kernel
theorem d_Y_walk_159 : decode prog_8_method_23_code 159 = .ok (.iload 6, 2) := by decide +kernel
theorem d_Y_walk_161 : decode prog_8_method_23_code 161 = .ok (.aload_n 0, 1) := by decide +kernel
theorem d_Y_walk_162 : decode prog_8_method_23_code 162 = .ok (.getfield 63, 3) := by decide +kernel
theorem d_Y_walk_165 : decode prog_8_method_23_code 165 = .ok (.if_icmp .ge 151, 3) := by decide +kernel
theorem d_Y_walk_168 : decode prog_8_method_23_code 168 = .ok (.aload_n 0, 1) := by decide +kernel
theorem d_Y_walk_169 : decode prog_8_method_23_code 169 = .ok (.getfield 31, 3) := by decide +kernel
theorem d_Y_walk_172 : decode prog_8_method_23_code 172 = .ok (.iconst 1, 1) := by decide +kernel
theorem d_Y_walk_173 : decode prog_8_method_23_code 173 = .ok (.iaload, 1) := by decide +kernel
theorem d_Y_walk_174 : decode prog_8_method_23_code 174 = .ok (.iload 6, 2) := by decide +kernel
theorem d_Y_walk_176 : decode prog_8_method_23_code 176 = .ok (.ishr, 1) := by decide +kernel
theorem d_Y_walk_177 : decode prog_8_method_23_code 177 = .ok (.iconst 1, 1) := by decide +kernel
theorem d_Y_walk_178 : decode prog_8_method_23_code 178 = .ok (.iand, 1) := by decide +kernel
theorem d_Y_walk_179 : decode prog_8_method_23_code 179 = .ok (.iconst 1, 1) := by decide +kernel
theorem d_Y_walk_180 : decode prog_8_method_23_code 180 = .ok (.if_icmp .ne 7, 3) := by decide +kernel
theorem d_Y_walk_183 : decode prog_8_method_23_code 183 = .ok (.iconst 1, 1) := by decide +kernel
theorem d_Y_walk_184 : decode prog_8_method_23_code 184 = .ok (.goto 4, 3) := by decide +kernel
theorem d_Y_walk_187 : decode prog_8_method_23_code 187 = .ok (.iconst 0, 1) := by decide +kernel
theorem d_Y_walk_188 : decode prog_8_method_23_code 188 = .ok (.istore 7, 2) := by decide +kernel
theorem d_Y_walk_190 : decode prog_8_method_23_code 190 = .ok (.aload_n 0, 1) := by decide +kernel
theorem d_Y_walk_191 : decode prog_8_method_23_code 191 = .ok (.getfield 31, 3) := by decide +kernel
theorem d_Y_walk_194 : decode prog_8_method_23_code 194 = .ok (.iconst 0, 1) := by decide +kernel
theorem d_Y_walk_195 : decode prog_8_method_23_code 195 = .ok (.iaload, 1) := by decide +kernel
theorem d_Y_walk_196 : decode prog_8_method_23_code 196 = .ok (.iload 6, 2) := by decide +kernel
theorem d_Y_walk_198 : decode prog_8_method_23_code 198 = .ok (.ishr, 1) := by decide +kernel
theorem d_Y_walk_199 : decode prog_8_method_23_code 199 = .ok (.iconst 1, 1) := by decide +kernel
theorem d_Y_walk_200 : decode prog_8_method_23_code 200 = .ok (.iand, 1) := by decide +kernel
theorem d_Y_walk_201 : decode prog_8_method_23_code 201 = .ok (.iconst 1, 1) := by decide +kernel
theorem d_Y_walk_202 : decode prog_8_method_23_code 202 = .ok (.if_icmp .ne 7, 3) := by decide +kernel
theorem d_Y_walk_205 : decode prog_8_method_23_code 205 = .ok (.iconst 1, 1) := by decide +kernel
theorem d_Y_walk_206 : decode prog_8_method_23_code 206 = .ok (.goto 4, 3) := by decide +kernel
theorem d_Y_walk_209 : decode prog_8_method_23_code 209 = .ok (.iconst 0, 1) := by decide +kernel
theorem d_Y_walk_210 : decode prog_8_method_23_code 210 = .ok (.istore 8, 2) := by decide +kernel
theorem d_Y_walk_212 : decode prog_8_method_23_code 212 = .ok (.iload_n 3, 1) := by decide +kernel
theorem d_Y_walk_213 : decode prog_8_method_23_code 213 = .ok (.iload 6, 2) := by decide +kernel
theorem d_Y_walk_215 : decode prog_8_method_23_code 215 = .ok (.ishr, 1) := by decide +kernel
theorem d_Y_walk_216 : decode prog_8_method_23_code 216 = .ok (.iconst 1, 1) := by decide +kernel
theorem d_Y_walk_217 : decode prog_8_method_23_code 217 = .ok (.iand, 1) := by decide +kernel
theorem d_Y_walk_218 : decode prog_8_method_23_code 218 = .ok (.iconst 1, 1) := by decide +kernel
theorem d_Y_walk_219 : decode prog_8_method_23_code 219 = .ok (.if_icmp .ne 7, 3) := by decide +kernel
theorem d_Y_walk_222 : decode prog_8_method_23_code 222 = .ok (.iconst 1, 1) := by decide +kernel
theorem d_Y_walk_223 : decode prog_8_method_23_code 223 = .ok (.goto 4, 3) := by decide +kernel
theorem d_Y_walk_226 : decode prog_8_method_23_code 226 = .ok (.iconst 0, 1) := by decide +kernel
theorem d_Y_walk_227 : decode prog_8_method_23_code 227 = .ok (.istore 9, 2) := by decide +kernel
theorem d_Y_walk_229 : decode prog_8_method_23_code 229 = .ok (.aload_n 0, 1) := by decide +kernel
theorem d_Y_walk_230 : decode prog_8_method_23_code 230 = .ok (.getfield 34, 3) := by decide +kernel
theorem d_Y_walk_233 : decode prog_8_method_23_code 233 = .ok (.iconst 1, 1) := by decide +kernel
theorem d_Y_walk_234 : decode prog_8_method_23_code 234 = .ok (.dup2, 1) := by decide +kernel
theorem d_Y_walk_235 : decode prog_8_method_23_code 235 = .ok (.iaload, 1) := by decide +kernel
theorem d_Y_walk_236 : decode prog_8_method_23_code 236 = .ok (.iload 7, 2) := by decide +kernel
theorem d_Y_walk_238 : decode prog_8_method_23_code 238 = .ok (.ifCond .ne 8, 3) := by decide +kernel
theorem d_Y_walk_241 : decode prog_8_method_23_code 241 = .ok (.iload 8, 2) := by decide +kernel
theorem d_Y_walk_243 : decode prog_8_method_23_code 243 = .ok (.ifCond .eq 18, 3) := by decide +kernel
theorem d_Y_walk_246 : decode prog_8_method_23_code 246 = .ok (.iload 9, 2) := by decide +kernel
theorem d_Y_walk_248 : decode prog_8_method_23_code 248 = .ok (.ifCond .ne 13, 3) := by decide +kernel
theorem d_Y_walk_251 : decode prog_8_method_23_code 251 = .ok (.aload_n 0, 1) := by decide +kernel
theorem d_Y_walk_252 : decode prog_8_method_23_code 252 = .ok (.getfield 25, 3) := by decide +kernel
theorem d_Y_walk_255 : decode prog_8_method_23_code 255 = .ok (.iload 6, 2) := by decide +kernel
theorem d_Y_walk_257 : decode prog_8_method_23_code 257 = .ok (.iaload, 1) := by decide +kernel
theorem d_Y_walk_258 : decode prog_8_method_23_code 258 = .ok (.goto 4, 3) := by decide +kernel
theorem d_Y_walk_261 : decode prog_8_method_23_code 261 = .ok (.iconst 0, 1) := by decide +kernel
theorem d_Y_walk_262 : decode prog_8_method_23_code 262 = .ok (.ior, 1) := by decide +kernel
theorem d_Y_walk_263 : decode prog_8_method_23_code 263 = .ok (.iastore, 1) := by decide +kernel
theorem d_Y_walk_264 : decode prog_8_method_23_code 264 = .ok (.aload_n 0, 1) := by decide +kernel
theorem d_Y_walk_265 : decode prog_8_method_23_code 265 = .ok (.getfield 34, 3) := by decide +kernel
theorem d_Y_walk_268 : decode prog_8_method_23_code 268 = .ok (.iconst 0, 1) := by decide +kernel
theorem d_Y_walk_269 : decode prog_8_method_23_code 269 = .ok (.dup2, 1) := by decide +kernel
theorem d_Y_walk_270 : decode prog_8_method_23_code 270 = .ok (.iaload, 1) := by decide +kernel
theorem d_Y_walk_271 : decode prog_8_method_23_code 271 = .ok (.iload 8, 2) := by decide +kernel
theorem d_Y_walk_273 : decode prog_8_method_23_code 273 = .ok (.ifCond .eq 8, 3) := by decide +kernel
theorem d_Y_walk_276 : decode prog_8_method_23_code 276 = .ok (.iload 9, 2) := by decide +kernel
theorem d_Y_walk_278 : decode prog_8_method_23_code 278 = .ok (.ifCond .eq 19, 3) := by decide +kernel
theorem d_Y_walk_281 : decode prog_8_method_23_code 281 = .ok (.iload 7, 2) := by decide +kernel
theorem d_Y_walk_283 : decode prog_8_method_23_code 283 = .ok (.ifCond .eq 24, 3) := by decide +kernel
theorem d_Y_walk_286 : decode prog_8_method_23_code 286 = .ok (.iload 4, 2) := by decide +kernel
theorem d_Y_walk_288 : decode prog_8_method_23_code 288 = .ok (.iload 6, 2) := by decide +kernel
theorem d_Y_walk_290 : decode prog_8_method_23_code 290 = .ok (.ishr, 1) := by decide +kernel
theorem d_Y_walk_291 : decode prog_8_method_23_code 291 = .ok (.iconst 1, 1) := by decide +kernel
theorem d_Y_walk_292 : decode prog_8_method_23_code 292 = .ok (.iand, 1) := by decide +kernel
theorem d_Y_walk_293 : decode prog_8_method_23_code 293 = .ok (.iconst 1, 1) := by decide +kernel
theorem d_Y_walk_294 : decode prog_8_method_23_code 294 = .ok (.if_icmp .ne 13, 3) := by decide +kernel
theorem d_Y_walk_297 : decode prog_8_method_23_code 297 = .ok (.aload_n 0, 1) := by decide +kernel
theorem d_Y_walk_298 : decode prog_8_method_23_code 298 = .ok (.getfield 22, 3) := by decide +kernel
theorem d_Y_walk_301 : decode prog_8_method_23_code 301 = .ok (.iload 6, 2) := by decide +kernel
theorem d_Y_walk_303 : decode prog_8_method_23_code 303 = .ok (.iaload, 1) := by decide +kernel
theorem d_Y_walk_304 : decode prog_8_method_23_code 304 = .ok (.goto 4, 3) := by decide +kernel
theorem d_Y_walk_307 : decode prog_8_method_23_code 307 = .ok (.iconst 0, 1) := by decide +kernel
theorem d_Y_walk_308 : decode prog_8_method_23_code 308 = .ok (.ior, 1) := by decide +kernel
theorem d_Y_walk_309 : decode prog_8_method_23_code 309 = .ok (.iastore, 1) := by decide +kernel
theorem d_Y_walk_310 : decode prog_8_method_23_code 310 = .ok (.iinc 6 1, 3) := by decide +kernel
theorem d_Y_walk_313 : decode prog_8_method_23_code 313 = .ok (.goto (-154), 3) := by decide +kernel
theorem d_Y_walk_316 : decode prog_8_method_23_code 316 = .ok (.aload_n 0, 1) := by decide +kernel
theorem d_Y_walk_317 : decode prog_8_method_23_code 317 = .ok (.getfield 31, 3) := by decide +kernel
theorem d_Y_walk_320 : decode prog_8_method_23_code 320 = .ok (.iconst 0, 1) := by decide +kernel
theorem d_Y_walk_321 : decode prog_8_method_23_code 321 = .ok (.aload_n 0, 1) := by decide +kernel
theorem d_Y_walk_322 : decode prog_8_method_23_code 322 = .ok (.getfield 34, 3) := by decide +kernel
theorem d_Y_walk_325 : decode prog_8_method_23_code 325 = .ok (.iconst 0, 1) := by decide +kernel
theorem d_Y_walk_326 : decode prog_8_method_23_code 326 = .ok (.iaload, 1) := by decide +kernel
theorem d_Y_walk_327 : decode prog_8_method_23_code 327 = .ok (.aload_n 0, 1) := by decide +kernel
theorem d_Y_walk_328 : decode prog_8_method_23_code 328 = .ok (.getfield 37, 3) := by decide +kernel
theorem d_Y_walk_331 : decode prog_8_method_23_code 331 = .ok (.iconst 0, 1) := by decide +kernel
theorem d_Y_walk_332 : decode prog_8_method_23_code 332 = .ok (.iaload, 1) := by decide +kernel
theorem d_Y_walk_333 : decode prog_8_method_23_code 333 = .ok (.iconst (-1), 1) := by decide +kernel
theorem d_Y_walk_334 : decode prog_8_method_23_code 334 = .ok (.ixor, 1) := by decide +kernel
theorem d_Y_walk_335 : decode prog_8_method_23_code 335 = .ok (.iand, 1) := by decide +kernel
theorem d_Y_walk_336 : decode prog_8_method_23_code 336 = .ok (.iastore, 1) := by decide +kernel
theorem d_Y_walk_337 : decode prog_8_method_23_code 337 = .ok (.aload_n 0, 1) := by decide +kernel
theorem d_Y_walk_338 : decode prog_8_method_23_code 338 = .ok (.getfield 31, 3) := by decide +kernel
theorem d_Y_walk_341 : decode prog_8_method_23_code 341 = .ok (.iconst 1, 1) := by decide +kernel
theorem d_Y_walk_342 : decode prog_8_method_23_code 342 = .ok (.aload_n 0, 1) := by decide +kernel
theorem d_Y_walk_343 : decode prog_8_method_23_code 343 = .ok (.getfield 34, 3) := by decide +kernel
theorem d_Y_walk_346 : decode prog_8_method_23_code 346 = .ok (.iconst 1, 1) := by decide +kernel
theorem d_Y_walk_347 : decode prog_8_method_23_code 347 = .ok (.iaload, 1) := by decide +kernel
theorem d_Y_walk_348 : decode prog_8_method_23_code 348 = .ok (.aload_n 0, 1) := by decide +kernel
theorem d_Y_walk_349 : decode prog_8_method_23_code 349 = .ok (.getfield 37, 3) := by decide +kernel
theorem d_Y_walk_352 : decode prog_8_method_23_code 352 = .ok (.iconst 1, 1) := by decide +kernel
theorem d_Y_walk_353 : decode prog_8_method_23_code 353 = .ok (.iaload, 1) := by decide +kernel
theorem d_Y_walk_354 : decode prog_8_method_23_code 354 = .ok (.iconst (-1), 1) := by decide +kernel
theorem d_Y_walk_355 : decode prog_8_method_23_code 355 = .ok (.ixor, 1) := by decide +kernel
theorem d_Y_walk_356 : decode prog_8_method_23_code 356 = .ok (.iand, 1) := by decide +kernel
theorem d_Y_walk_357 : decode prog_8_method_23_code 357 = .ok (.iastore, 1) := by decide +kernel
theorem d_Y_walk_358 : decode prog_8_method_23_code 358 = .ok (.iinc 5 1, 3) := by decide +kernel
theorem d_Y_walk_361 : decode prog_8_method_23_code 361 = .ok (.goto (-291), 3) := by decide +kernel
theorem d_Y_walk_364 : decode prog_8_method_23_code 364 = .ok (.iconst (-1), 1) := by decide +kernel
theorem d_Y_walk_365 : decode prog_8_method_23_code 365 = .ok (.ireturn, 1) := by decide +kernel
theorem d_Y_children2_0 : decode prog_8_method_24_code 0 = .ok (.iload_n 2, 1) := by decide +kernel
theorem d_Y_children2_1 : decode prog_8_method_24_code 1 = .ok (.iconst 1, 1) := by decide +kernel
theorem d_Y_children2_2 : decode prog_8_method_24_code 2 = .ok (.if_icmp .ne 12, 3) := by decide +kernel
theorem d_Y_children2_5 : decode prog_8_method_24_code 5 = .ok (.aload_n 0, 1) := by decide +kernel
theorem d_Y_children2_6 : decode prog_8_method_24_code 6 = .ok (.getfield 25, 3) := by decide +kernel
theorem d_Y_children2_9 : decode prog_8_method_24_code 9 = .ok (.iload_n 1, 1) := by decide +kernel
theorem d_Y_children2_10 : decode prog_8_method_24_code 10 = .ok (.iaload, 1) := by decide +kernel
theorem d_Y_children2_11 : decode prog_8_method_24_code 11 = .ok (.goto 9, 3) := by decide +kernel
theorem d_Y_children2_14 : decode prog_8_method_24_code 14 = .ok (.aload_n 0, 1) := by decide +kernel
theorem d_Y_children2_15 : decode prog_8_method_24_code 15 = .ok (.getfield 22, 3) := by decide +kernel
theorem d_Y_children2_18 : decode prog_8_method_24_code 18 = .ok (.iload_n 1, 1) := by decide +kernel
theorem d_Y_children2_19 : decode prog_8_method_24_code 19 = .ok (.iaload, 1) := by decide +kernel
theorem d_Y_children2_20 : decode prog_8_method_24_code 20 = .ok (.ireturn, 1) := by decide +kernel
theorem d_Y_weight_0 : decode prog_8_method_26_code 0 = .ok (.aload_n 0, 1) := by decide +kernel
theorem d_Y_weight_1 : decode prog_8_method_26_code 1 = .ok (.iload_n 1, 1) := by decide +kernel
theorem d_Y_weight_2 : decode prog_8_method_26_code 2 = .ok (.invokevirtual 81, 3) := by decide +kernel
theorem d_Y_weight_5 : decode prog_8_method_26_code 5 = .ok (.ifCond .eq 11, 3) := by decide +kernel
theorem d_Y_weight_8 : decode prog_8_method_26_code 8 = .ok (.aload_n 0, 1) := by decide +kernel
theorem d_Y_weight_9 : decode prog_8_method_26_code 9 = .ok (.iload_n 2, 1) := by decide +kernel
theorem d_Y_weight_10 : decode prog_8_method_26_code 10 = .ok (.invokevirtual 81, 3) := by decide +kernel
theorem d_Y_weight_13 : decode prog_8_method_26_code 13 = .ok (.ifCond .ne 7, 3) := by decide +kernel
theorem d_Y_weight_16 : decode prog_8_method_26_code 16 = .ok (.ldc2_w 123, 3) := by decide +kernel
theorem d_Y_weight_19 : decode prog_8_method_26_code 19 = .ok (.lreturn, 1) := by decide +kernel
theorem d_Y_weight_20 : decode prog_8_method_26_code 20 = .ok (.aload_n 0, 1) := by decide +kernel
theorem d_Y_weight_21 : decode prog_8_method_26_code 21 = .ok (.invokevirtual 125, 3) := by decide +kernel
theorem d_Y_weight_24 : decode prog_8_method_26_code 24 = .ok (.lconst 0, 1) := by decide +kernel
theorem d_Y_weight_25 : decode prog_8_method_26_code 25 = .ok (.lstore_n 3, 1) := by decide +kernel
theorem d_Y_weight_26 : decode prog_8_method_26_code 26 = .ok (.iconst 0, 1) := by decide +kernel
theorem d_Y_weight_27 : decode prog_8_method_26_code 27 = .ok (.istore 5, 2) := by decide +kernel
theorem d_Y_weight_29 : decode prog_8_method_26_code 29 = .ok (.iload 5, 2) := by decide +kernel
theorem d_Y_weight_31 : decode prog_8_method_26_code 31 = .ok (.iconst 1, 1) := by decide +kernel
theorem d_Y_weight_32 : decode prog_8_method_26_code 32 = .ok (.aload_n 0, 1) := by decide +kernel
theorem d_Y_weight_33 : decode prog_8_method_26_code 33 = .ok (.getfield 63, 3) := by decide +kernel
theorem d_Y_weight_36 : decode prog_8_method_26_code 36 = .ok (.ishl, 1) := by decide +kernel
theorem d_Y_weight_37 : decode prog_8_method_26_code 37 = .ok (.if_icmp .ge 32, 3) := by decide +kernel
theorem d_Y_weight_40 : decode prog_8_method_26_code 40 = .ok (.lload_n 3, 1) := by decide +kernel
theorem d_Y_weight_41 : decode prog_8_method_26_code 41 = .ok (.iload 5, 2) := by decide +kernel
theorem d_Y_weight_43 : decode prog_8_method_26_code 43 = .ok (.iload_n 2, 1) := by decide +kernel
theorem d_Y_weight_44 : decode prog_8_method_26_code 44 = .ok (.ixor, 1) := by decide +kernel
theorem d_Y_weight_45 : decode prog_8_method_26_code 45 = .ok (.iload_n 1, 1) := by decide +kernel
theorem d_Y_weight_46 : decode prog_8_method_26_code 46 = .ok (.iand, 1) := by decide +kernel
theorem d_Y_weight_47 : decode prog_8_method_26_code 47 = .ok (.ifCond .ne 13, 3) := by decide +kernel
theorem d_Y_weight_50 : decode prog_8_method_26_code 50 = .ok (.aload_n 0, 1) := by decide +kernel
theorem d_Y_weight_51 : decode prog_8_method_26_code 51 = .ok (.getfield 40, 3) := by decide +kernel
theorem d_Y_weight_54 : decode prog_8_method_26_code 54 = .ok (.iload 5, 2) := by decide +kernel
theorem d_Y_weight_56 : decode prog_8_method_26_code 56 = .ok (.laload, 1) := by decide +kernel
theorem d_Y_weight_57 : decode prog_8_method_26_code 57 = .ok (.goto 4, 3) := by decide +kernel
theorem d_Y_weight_60 : decode prog_8_method_26_code 60 = .ok (.lconst 0, 1) := by decide +kernel
theorem d_Y_weight_61 : decode prog_8_method_26_code 61 = .ok (.ladd, 1) := by decide +kernel
theorem d_Y_weight_62 : decode prog_8_method_26_code 62 = .ok (.lstore_n 3, 1) := by decide +kernel
theorem d_Y_weight_63 : decode prog_8_method_26_code 63 = .ok (.iinc 5 1, 3) := by decide +kernel
theorem d_Y_weight_66 : decode prog_8_method_26_code 66 = .ok (.goto (-37), 3) := by decide +kernel
theorem d_Y_weight_69 : decode prog_8_method_26_code 69 = .ok (.lload_n 3, 1) := by decide +kernel
theorem d_Y_weight_70 : decode prog_8_method_26_code 70 = .ok (.lreturn, 1) := by decide +kernel
theorem d_Y_weigh_0 : decode prog_8_method_25_code 0 = .ok (.iconst 0, 1) := by decide +kernel
theorem d_Y_weigh_1 : decode prog_8_method_25_code 1 = .ok (.istore_n 1, 1) := by decide +kernel
theorem d_Y_weigh_2 : decode prog_8_method_25_code 2 = .ok (.iload_n 1, 1) := by decide +kernel
theorem d_Y_weigh_3 : decode prog_8_method_25_code 3 = .ok (.iconst 1, 1) := by decide +kernel
theorem d_Y_weigh_4 : decode prog_8_method_25_code 4 = .ok (.aload_n 0, 1) := by decide +kernel
theorem d_Y_weigh_5 : decode prog_8_method_25_code 5 = .ok (.getfield 63, 3) := by decide +kernel
theorem d_Y_weigh_8 : decode prog_8_method_25_code 8 = .ok (.ishl, 1) := by decide +kernel
theorem d_Y_weigh_9 : decode prog_8_method_25_code 9 = .ok (.if_icmp .ge 169, 3) := by decide +kernel
theorem d_Y_weigh_12 : decode prog_8_method_25_code 12 = .ok (.lconst 1, 1) := by decide +kernel
theorem d_Y_weigh_13 : decode prog_8_method_25_code 13 = .ok (.lstore_n 2, 1) := by decide +kernel
theorem d_Y_weigh_14 : decode prog_8_method_25_code 14 = .ok (.iconst 0, 1) := by decide +kernel
theorem d_Y_weigh_15 : decode prog_8_method_25_code 15 = .ok (.istore 4, 2) := by decide +kernel
theorem d_Y_weigh_17 : decode prog_8_method_25_code 17 = .ok (.iload 4, 2) := by decide +kernel
theorem d_Y_weigh_19 : decode prog_8_method_25_code 19 = .ok (.aload_n 0, 1) := by decide +kernel
theorem d_Y_weigh_20 : decode prog_8_method_25_code 20 = .ok (.getfield 63, 3) := by decide +kernel
theorem d_Y_weigh_23 : decode prog_8_method_25_code 23 = .ok (.if_icmp .ge 142, 3) := by decide +kernel
theorem d_Y_weigh_26 : decode prog_8_method_25_code 26 = .ok (.iload_n 1, 1) := by decide +kernel
theorem d_Y_weigh_27 : decode prog_8_method_25_code 27 = .ok (.iload 4, 2) := by decide +kernel
theorem d_Y_weigh_29 : decode prog_8_method_25_code 29 = .ok (.ishr, 1) := by decide +kernel
theorem d_Y_weigh_30 : decode prog_8_method_25_code 30 = .ok (.iconst 1, 1) := by decide +kernel
theorem d_Y_weigh_31 : decode prog_8_method_25_code 31 = .ok (.iand, 1) := by decide +kernel
theorem d_Y_weigh_32 : decode prog_8_method_25_code 32 = .ok (.istore 5, 2) := by decide +kernel
theorem d_Y_weigh_34 : decode prog_8_method_25_code 34 = .ok (.aload_n 0, 1) := by decide +kernel
theorem d_Y_weigh_35 : decode prog_8_method_25_code 35 = .ok (.getfield 13, 3) := by decide +kernel
theorem d_Y_weigh_38 : decode prog_8_method_25_code 38 = .ok (.iload 4, 2) := by decide +kernel
theorem d_Y_weigh_40 : decode prog_8_method_25_code 40 = .ok (.iaload, 1) := by decide +kernel
theorem d_Y_weigh_41 : decode prog_8_method_25_code 41 = .ok (.iconst (-1), 1) := by decide +kernel
theorem d_Y_weigh_42 : decode prog_8_method_25_code 42 = .ok (.if_icmp .eq 28, 3) := by decide +kernel
theorem d_Y_weigh_45 : decode prog_8_method_25_code 45 = .ok (.lload_n 2, 1) := by decide +kernel
theorem d_Y_weigh_46 : decode prog_8_method_25_code 46 = .ok (.aload_n 0, 1) := by decide +kernel
theorem d_Y_weigh_47 : decode prog_8_method_25_code 47 = .ok (.getfield 13, 3) := by decide +kernel
theorem d_Y_weigh_50 : decode prog_8_method_25_code 50 = .ok (.iload 4, 2) := by decide +kernel
theorem d_Y_weigh_52 : decode prog_8_method_25_code 52 = .ok (.iaload, 1) := by decide +kernel
theorem d_Y_weigh_53 : decode prog_8_method_25_code 53 = .ok (.iload 5, 2) := by decide +kernel
theorem d_Y_weigh_55 : decode prog_8_method_25_code 55 = .ok (.if_icmp .ne 9, 3) := by decide +kernel
theorem d_Y_weigh_58 : decode prog_8_method_25_code 58 = .ok (.ldc2_w 121, 3) := by decide +kernel
theorem d_Y_weigh_61 : decode prog_8_method_25_code 61 = .ok (.goto 4, 3) := by decide +kernel
theorem d_Y_weigh_64 : decode prog_8_method_25_code 64 = .ok (.lconst 0, 1) := by decide +kernel
theorem d_Y_weigh_65 : decode prog_8_method_25_code 65 = .ok (.lmul, 1) := by decide +kernel
theorem d_Y_weigh_66 : decode prog_8_method_25_code 66 = .ok (.lstore_n 2, 1) := by decide +kernel
theorem d_Y_weigh_67 : decode prog_8_method_25_code 67 = .ok (.goto 92, 3) := by decide +kernel
theorem d_Y_weigh_70 : decode prog_8_method_25_code 70 = .ok (.iconst 0, 1) := by decide +kernel
theorem d_Y_weigh_71 : decode prog_8_method_25_code 71 = .ok (.istore 6, 2) := by decide +kernel
theorem d_Y_weigh_73 : decode prog_8_method_25_code 73 = .ok (.iconst 0, 1) := by decide +kernel
theorem d_Y_weigh_74 : decode prog_8_method_25_code 74 = .ok (.istore 7, 2) := by decide +kernel
theorem d_Y_weigh_76 : decode prog_8_method_25_code 76 = .ok (.iconst 0, 1) := by decide +kernel
theorem d_Y_weigh_77 : decode prog_8_method_25_code 77 = .ok (.istore 8, 2) := by decide +kernel
theorem d_Y_weigh_79 : decode prog_8_method_25_code 79 = .ok (.iload 8, 2) := by decide +kernel
theorem d_Y_weigh_81 : decode prog_8_method_25_code 81 = .ok (.aload_n 0, 1) := by decide +kernel
theorem d_Y_weigh_82 : decode prog_8_method_25_code 82 = .ok (.getfield 63, 3) := by decide +kernel
theorem d_Y_weigh_85 : decode prog_8_method_25_code 85 = .ok (.if_icmp .ge 37, 3) := by decide +kernel
theorem d_Y_weigh_88 : decode prog_8_method_25_code 88 = .ok (.aload_n 0, 1) := by decide +kernel
theorem d_Y_weigh_89 : decode prog_8_method_25_code 89 = .ok (.iload 8, 2) := by decide +kernel
theorem d_Y_weigh_91 : decode prog_8_method_25_code 91 = .ok (.iload 4, 2) := by decide +kernel
theorem d_Y_weigh_93 : decode prog_8_method_25_code 93 = .ok (.invokevirtual 92, 3) := by decide +kernel
theorem d_Y_weigh_96 : decode prog_8_method_25_code 96 = .ok (.ifCond .eq 20, 3) := by decide +kernel
theorem d_Y_weigh_99 : decode prog_8_method_25_code 99 = .ok (.iload 6, 2) := by decide +kernel
theorem d_Y_weigh_101 : decode prog_8_method_25_code 101 = .ok (.iload_n 1, 1) := by decide +kernel
theorem d_Y_weigh_102 : decode prog_8_method_25_code 102 = .ok (.iload 8, 2) := by decide +kernel
theorem d_Y_weigh_104 : decode prog_8_method_25_code 104 = .ok (.ishr, 1) := by decide +kernel
theorem d_Y_weigh_105 : decode prog_8_method_25_code 105 = .ok (.iconst 1, 1) := by decide +kernel
theorem d_Y_weigh_106 : decode prog_8_method_25_code 106 = .ok (.iand, 1) := by decide +kernel
theorem d_Y_weigh_107 : decode prog_8_method_25_code 107 = .ok (.iload 7, 2) := by decide +kernel
theorem d_Y_weigh_109 : decode prog_8_method_25_code 109 = .ok (.ishl, 1) := by decide +kernel
theorem d_Y_weigh_110 : decode prog_8_method_25_code 110 = .ok (.ior, 1) := by decide +kernel
theorem d_Y_weigh_111 : decode prog_8_method_25_code 111 = .ok (.istore 6, 2) := by decide +kernel
theorem d_Y_weigh_113 : decode prog_8_method_25_code 113 = .ok (.iinc 7 1, 3) := by decide +kernel
theorem d_Y_weigh_116 : decode prog_8_method_25_code 116 = .ok (.iinc 8 1, 3) := by decide +kernel
theorem d_Y_weigh_119 : decode prog_8_method_25_code 119 = .ok (.goto (-40), 3) := by decide +kernel
theorem d_Y_weigh_122 : decode prog_8_method_25_code 122 = .ok (.aload_n 0, 1) := by decide +kernel
theorem d_Y_weigh_123 : decode prog_8_method_25_code 123 = .ok (.getfield 16, 3) := by decide +kernel
theorem d_Y_weigh_126 : decode prog_8_method_25_code 126 = .ok (.sipush 128, 3) := by decide +kernel
theorem d_Y_weigh_129 : decode prog_8_method_25_code 129 = .ok (.iload 4, 2) := by decide +kernel
theorem d_Y_weigh_131 : decode prog_8_method_25_code 131 = .ok (.imul, 1) := by decide +kernel
theorem d_Y_weigh_132 : decode prog_8_method_25_code 132 = .ok (.iload 6, 2) := by decide +kernel
theorem d_Y_weigh_134 : decode prog_8_method_25_code 134 = .ok (.iadd, 1) := by decide +kernel
theorem d_Y_weigh_135 : decode prog_8_method_25_code 135 = .ok (.iaload, 1) := by decide +kernel
theorem d_Y_weigh_136 : decode prog_8_method_25_code 136 = .ok (.istore 8, 2) := by decide +kernel
theorem d_Y_weigh_138 : decode prog_8_method_25_code 138 = .ok (.lload_n 2, 1) := by decide +kernel
theorem d_Y_weigh_139 : decode prog_8_method_25_code 139 = .ok (.iload 5, 2) := by decide +kernel
theorem d_Y_weigh_141 : decode prog_8_method_25_code 141 = .ok (.iconst 1, 1) := by decide +kernel
theorem d_Y_weigh_142 : decode prog_8_method_25_code 142 = .ok (.if_icmp .ne 9, 3) := by decide +kernel
theorem d_Y_weigh_145 : decode prog_8_method_25_code 145 = .ok (.iload 8, 2) := by decide +kernel
theorem d_Y_weigh_147 : decode prog_8_method_25_code 147 = .ok (.i2l, 1) := by decide +kernel
theorem d_Y_weigh_148 : decode prog_8_method_25_code 148 = .ok (.goto 9, 3) := by decide +kernel
theorem d_Y_weigh_151 : decode prog_8_method_25_code 151 = .ok (.bipush 8, 2) := by decide +kernel
theorem d_Y_weigh_153 : decode prog_8_method_25_code 153 = .ok (.iload 8, 2) := by decide +kernel
theorem d_Y_weigh_155 : decode prog_8_method_25_code 155 = .ok (.isub, 1) := by decide +kernel
theorem d_Y_weigh_156 : decode prog_8_method_25_code 156 = .ok (.i2l, 1) := by decide +kernel
theorem d_Y_weigh_157 : decode prog_8_method_25_code 157 = .ok (.lmul, 1) := by decide +kernel
theorem d_Y_weigh_158 : decode prog_8_method_25_code 158 = .ok (.lstore_n 2, 1) := by decide +kernel
theorem d_Y_weigh_159 : decode prog_8_method_25_code 159 = .ok (.iinc 4 1, 3) := by decide +kernel
theorem d_Y_weigh_162 : decode prog_8_method_25_code 162 = .ok (.goto (-145), 3) := by decide +kernel
theorem d_Y_weigh_165 : decode prog_8_method_25_code 165 = .ok (.aload_n 0, 1) := by decide +kernel
theorem d_Y_weigh_166 : decode prog_8_method_25_code 166 = .ok (.getfield 40, 3) := by decide +kernel
theorem d_Y_weigh_169 : decode prog_8_method_25_code 169 = .ok (.iload_n 1, 1) := by decide +kernel
theorem d_Y_weigh_170 : decode prog_8_method_25_code 170 = .ok (.lload_n 2, 1) := by decide +kernel
theorem d_Y_weigh_171 : decode prog_8_method_25_code 171 = .ok (.lastore, 1) := by decide +kernel
theorem d_Y_weigh_172 : decode prog_8_method_25_code 172 = .ok (.iinc 1 1, 3) := by decide +kernel
theorem d_Y_weigh_175 : decode prog_8_method_25_code 175 = .ok (.goto (-173), 3) := by decide +kernel
theorem d_Y_weigh_178 : decode prog_8_method_25_code 178 = .ok (.return_, 1) := by decide +kernel
theorem d_Y_independent_0 : decode prog_8_method_28_code 0 = .ok (.aload_n 0, 1) := by decide +kernel
theorem d_Y_independent_1 : decode prog_8_method_28_code 1 = .ok (.iload_n 1, 1) := by decide +kernel
theorem d_Y_independent_2 : decode prog_8_method_28_code 2 = .ok (.iload_n 2, 1) := by decide +kernel
theorem d_Y_independent_3 : decode prog_8_method_28_code 3 = .ok (.iload_n 3, 1) := by decide +kernel
theorem d_Y_independent_4 : decode prog_8_method_28_code 4 = .ok (.invokevirtual 109, 3) := by decide +kernel
theorem d_Y_independent_7 : decode prog_8_method_28_code 7 = .ok (.ifCond .ne 6, 3) := by decide +kernel
theorem d_Y_independent_10 : decode prog_8_method_28_code 10 = .ok (.bipush (-2), 2) := by decide +kernel
theorem d_Y_independent_12 : decode prog_8_method_28_code 12 = .ok (.ireturn, 1) := by decide +kernel
theorem d_Y_independent_13 : decode prog_8_method_28_code 13 = .ok (.aload_n 0, 1) := by decide +kernel
theorem d_Y_independent_14 : decode prog_8_method_28_code 14 = .ok (.iload_n 1, 1) := by decide +kernel
theorem d_Y_independent_15 : decode prog_8_method_28_code 15 = .ok (.iload_n 2, 1) := by decide +kernel
theorem d_Y_independent_16 : decode prog_8_method_28_code 16 = .ok (.iload_n 3, 1) := by decide +kernel
theorem d_Y_independent_17 : decode prog_8_method_28_code 17 = .ok (.invokevirtual 128, 3) := by decide +kernel
theorem d_Y_independent_20 : decode prog_8_method_28_code 20 = .ok (.iconst (-1), 1) := by decide +kernel
theorem d_Y_independent_21 : decode prog_8_method_28_code 21 = .ok (.if_icmp .ne 7, 3) := by decide +kernel
theorem d_Y_independent_24 : decode prog_8_method_28_code 24 = .ok (.iconst 1, 1) := by decide +kernel
theorem d_Y_independent_25 : decode prog_8_method_28_code 25 = .ok (.goto 4, 3) := by decide +kernel
theorem d_Y_independent_28 : decode prog_8_method_28_code 28 = .ok (.iconst 0, 1) := by decide +kernel
theorem d_Y_independent_29 : decode prog_8_method_28_code 29 = .ok (.ireturn, 1) := by decide +kernel
theorem d_Y_hangs_0 : decode prog_8_method_27_code 0 = .ok (.aload_n 0, 1) := by decide +kernel
theorem d_Y_hangs_1 : decode prog_8_method_27_code 1 = .ok (.invokevirtual 125, 3) := by decide +kernel
theorem d_Y_hangs_4 : decode prog_8_method_27_code 4 = .ok (.iload_n 3, 1) := by decide +kernel
theorem d_Y_hangs_5 : decode prog_8_method_27_code 5 = .ok (.iconst 1, 1) := by decide +kernel
theorem d_Y_hangs_6 : decode prog_8_method_27_code 6 = .ok (.iload_n 1, 1) := by decide +kernel
theorem d_Y_hangs_7 : decode prog_8_method_27_code 7 = .ok (.ishl, 1) := by decide +kernel
theorem d_Y_hangs_8 : decode prog_8_method_27_code 8 = .ok (.ior, 1) := by decide +kernel
theorem d_Y_hangs_9 : decode prog_8_method_27_code 9 = .ok (.istore 4, 2) := by decide +kernel
theorem d_Y_hangs_11 : decode prog_8_method_27_code 11 = .ok (.iload_n 3, 1) := by decide +kernel
theorem d_Y_hangs_12 : decode prog_8_method_27_code 12 = .ok (.iconst 1, 1) := by decide +kernel
theorem d_Y_hangs_13 : decode prog_8_method_27_code 13 = .ok (.iload_n 2, 1) := by decide +kernel
theorem d_Y_hangs_14 : decode prog_8_method_27_code 14 = .ok (.ishl, 1) := by decide +kernel
theorem d_Y_hangs_15 : decode prog_8_method_27_code 15 = .ok (.ior, 1) := by decide +kernel
theorem d_Y_hangs_16 : decode prog_8_method_27_code 16 = .ok (.istore 5, 2) := by decide +kernel
theorem d_Y_hangs_18 : decode prog_8_method_27_code 18 = .ok (.iload 4, 2) := by decide +kernel
theorem d_Y_hangs_20 : decode prog_8_method_27_code 20 = .ok (.iload 5, 2) := by decide +kernel
theorem d_Y_hangs_22 : decode prog_8_method_27_code 22 = .ok (.ior, 1) := by decide +kernel
theorem d_Y_hangs_23 : decode prog_8_method_27_code 23 = .ok (.istore 6, 2) := by decide +kernel
theorem d_Y_hangs_25 : decode prog_8_method_27_code 25 = .ok (.iconst 0, 1) := by decide +kernel
theorem d_Y_hangs_26 : decode prog_8_method_27_code 26 = .ok (.istore 7, 2) := by decide +kernel
theorem d_Y_hangs_28 : decode prog_8_method_27_code 28 = .ok (.iload 7, 2) := by decide +kernel
theorem d_Y_hangs_30 : decode prog_8_method_27_code 30 = .ok (.sipush 1024, 3) := by decide +kernel
theorem d_Y_hangs_33 : decode prog_8_method_27_code 33 = .ok (.if_icmp .ge 17, 3) := by decide +kernel
theorem d_Y_hangs_36 : decode prog_8_method_27_code 36 = .ok (.aload_n 0, 1) := by decide +kernel
theorem d_Y_hangs_37 : decode prog_8_method_27_code 37 = .ok (.getfield 44, 3) := by decide +kernel
theorem d_Y_hangs_40 : decode prog_8_method_27_code 40 = .ok (.iload 7, 2) := by decide +kernel
theorem d_Y_hangs_42 : decode prog_8_method_27_code 42 = .ok (.lconst 0, 1) := by decide +kernel
theorem d_Y_hangs_43 : decode prog_8_method_27_code 43 = .ok (.lastore, 1) := by decide +kernel
theorem d_Y_hangs_44 : decode prog_8_method_27_code 44 = .ok (.iinc 7 1, 3) := by decide +kernel
theorem d_Y_hangs_47 : decode prog_8_method_27_code 47 = .ok (.goto (-19), 3) := by decide +kernel
theorem d_Y_hangs_50 : decode prog_8_method_27_code 50 = .ok (.iconst 0, 1) := by decide +kernel
theorem d_Y_hangs_51 : decode prog_8_method_27_code 51 = .ok (.istore 7, 2) := by decide +kernel
theorem d_Y_hangs_53 : decode prog_8_method_27_code 53 = .ok (.iload 7, 2) := by decide +kernel
theorem d_Y_hangs_55 : decode prog_8_method_27_code 55 = .ok (.iconst 1, 1) := by decide +kernel
theorem d_Y_hangs_56 : decode prog_8_method_27_code 56 = .ok (.aload_n 0, 1) := by decide +kernel
theorem d_Y_hangs_57 : decode prog_8_method_27_code 57 = .ok (.getfield 63, 3) := by decide +kernel
theorem d_Y_hangs_60 : decode prog_8_method_27_code 60 = .ok (.ishl, 1) := by decide +kernel
theorem d_Y_hangs_61 : decode prog_8_method_27_code 61 = .ok (.if_icmp .ge 100, 3) := by decide +kernel
theorem d_Y_hangs_64 : decode prog_8_method_27_code 64 = .ok (.aload_n 0, 1) := by decide +kernel
theorem d_Y_hangs_65 : decode prog_8_method_27_code 65 = .ok (.getfield 44, 3) := by decide +kernel
theorem d_Y_hangs_68 : decode prog_8_method_27_code 68 = .ok (.iload 7, 2) := by decide +kernel
theorem d_Y_hangs_70 : decode prog_8_method_27_code 70 = .ok (.iload 6, 2) := by decide +kernel
theorem d_Y_hangs_72 : decode prog_8_method_27_code 72 = .ok (.iand, 1) := by decide +kernel
theorem d_Y_hangs_73 : decode prog_8_method_27_code 73 = .ok (.dup2, 1) := by decide +kernel
theorem d_Y_hangs_74 : decode prog_8_method_27_code 74 = .ok (.laload, 1) := by decide +kernel
theorem d_Y_hangs_75 : decode prog_8_method_27_code 75 = .ok (.aload_n 0, 1) := by decide +kernel
theorem d_Y_hangs_76 : decode prog_8_method_27_code 76 = .ok (.getfield 40, 3) := by decide +kernel
theorem d_Y_hangs_79 : decode prog_8_method_27_code 79 = .ok (.iload 7, 2) := by decide +kernel
theorem d_Y_hangs_81 : decode prog_8_method_27_code 81 = .ok (.laload, 1) := by decide +kernel
theorem d_Y_hangs_82 : decode prog_8_method_27_code 82 = .ok (.ladd, 1) := by decide +kernel
theorem d_Y_hangs_83 : decode prog_8_method_27_code 83 = .ok (.lastore, 1) := by decide +kernel
theorem d_Y_hangs_84 : decode prog_8_method_27_code 84 = .ok (.aload_n 0, 1) := by decide +kernel
theorem d_Y_hangs_85 : decode prog_8_method_27_code 85 = .ok (.getfield 44, 3) := by decide +kernel
theorem d_Y_hangs_88 : decode prog_8_method_27_code 88 = .ok (.sipush 256, 3) := by decide +kernel
theorem d_Y_hangs_91 : decode prog_8_method_27_code 91 = .ok (.iload 7, 2) := by decide +kernel
theorem d_Y_hangs_93 : decode prog_8_method_27_code 93 = .ok (.iload_n 3, 1) := by decide +kernel
theorem d_Y_hangs_94 : decode prog_8_method_27_code 94 = .ok (.iand, 1) := by decide +kernel
theorem d_Y_hangs_95 : decode prog_8_method_27_code 95 = .ok (.iadd, 1) := by decide +kernel
theorem d_Y_hangs_96 : decode prog_8_method_27_code 96 = .ok (.dup2, 1) := by decide +kernel
theorem d_Y_hangs_97 : decode prog_8_method_27_code 97 = .ok (.laload, 1) := by decide +kernel
theorem d_Y_hangs_98 : decode prog_8_method_27_code 98 = .ok (.aload_n 0, 1) := by decide +kernel
theorem d_Y_hangs_99 : decode prog_8_method_27_code 99 = .ok (.getfield 40, 3) := by decide +kernel
theorem d_Y_hangs_102 : decode prog_8_method_27_code 102 = .ok (.iload 7, 2) := by decide +kernel
theorem d_Y_hangs_104 : decode prog_8_method_27_code 104 = .ok (.laload, 1) := by decide +kernel
theorem d_Y_hangs_105 : decode prog_8_method_27_code 105 = .ok (.ladd, 1) := by decide +kernel
theorem d_Y_hangs_106 : decode prog_8_method_27_code 106 = .ok (.lastore, 1) := by decide +kernel
theorem d_Y_hangs_107 : decode prog_8_method_27_code 107 = .ok (.aload_n 0, 1) := by decide +kernel
theorem d_Y_hangs_108 : decode prog_8_method_27_code 108 = .ok (.getfield 44, 3) := by decide +kernel
theorem d_Y_hangs_111 : decode prog_8_method_27_code 111 = .ok (.sipush 512, 3) := by decide +kernel
theorem d_Y_hangs_114 : decode prog_8_method_27_code 114 = .ok (.iload 7, 2) := by decide +kernel
theorem d_Y_hangs_116 : decode prog_8_method_27_code 116 = .ok (.iload 4, 2) := by decide +kernel
theorem d_Y_hangs_118 : decode prog_8_method_27_code 118 = .ok (.iand, 1) := by decide +kernel
theorem d_Y_hangs_119 : decode prog_8_method_27_code 119 = .ok (.iadd, 1) := by decide +kernel
theorem d_Y_hangs_120 : decode prog_8_method_27_code 120 = .ok (.dup2, 1) := by decide +kernel
theorem d_Y_hangs_121 : decode prog_8_method_27_code 121 = .ok (.laload, 1) := by decide +kernel
theorem d_Y_hangs_122 : decode prog_8_method_27_code 122 = .ok (.aload_n 0, 1) := by decide +kernel
theorem d_Y_hangs_123 : decode prog_8_method_27_code 123 = .ok (.getfield 40, 3) := by decide +kernel
theorem d_Y_hangs_126 : decode prog_8_method_27_code 126 = .ok (.iload 7, 2) := by decide +kernel
theorem d_Y_hangs_128 : decode prog_8_method_27_code 128 = .ok (.laload, 1) := by decide +kernel
theorem d_Y_hangs_129 : decode prog_8_method_27_code 129 = .ok (.ladd, 1) := by decide +kernel
theorem d_Y_hangs_130 : decode prog_8_method_27_code 130 = .ok (.lastore, 1) := by decide +kernel
theorem d_Y_hangs_131 : decode prog_8_method_27_code 131 = .ok (.aload_n 0, 1) := by decide +kernel
theorem d_Y_hangs_132 : decode prog_8_method_27_code 132 = .ok (.getfield 44, 3) := by decide +kernel
theorem d_Y_hangs_135 : decode prog_8_method_27_code 135 = .ok (.sipush 768, 3) := by decide +kernel
theorem d_Y_hangs_138 : decode prog_8_method_27_code 138 = .ok (.iload 7, 2) := by decide +kernel
theorem d_Y_hangs_140 : decode prog_8_method_27_code 140 = .ok (.iload 5, 2) := by decide +kernel
theorem d_Y_hangs_142 : decode prog_8_method_27_code 142 = .ok (.iand, 1) := by decide +kernel
theorem d_Y_hangs_143 : decode prog_8_method_27_code 143 = .ok (.iadd, 1) := by decide +kernel
theorem d_Y_hangs_144 : decode prog_8_method_27_code 144 = .ok (.dup2, 1) := by decide +kernel
theorem d_Y_hangs_145 : decode prog_8_method_27_code 145 = .ok (.laload, 1) := by decide +kernel
theorem d_Y_hangs_146 : decode prog_8_method_27_code 146 = .ok (.aload_n 0, 1) := by decide +kernel
theorem d_Y_hangs_147 : decode prog_8_method_27_code 147 = .ok (.getfield 40, 3) := by decide +kernel
theorem d_Y_hangs_150 : decode prog_8_method_27_code 150 = .ok (.iload 7, 2) := by decide +kernel
theorem d_Y_hangs_152 : decode prog_8_method_27_code 152 = .ok (.laload, 1) := by decide +kernel
theorem d_Y_hangs_153 : decode prog_8_method_27_code 153 = .ok (.ladd, 1) := by decide +kernel
theorem d_Y_hangs_154 : decode prog_8_method_27_code 154 = .ok (.lastore, 1) := by decide +kernel
theorem d_Y_hangs_155 : decode prog_8_method_27_code 155 = .ok (.iinc 7 1, 3) := by decide +kernel
theorem d_Y_hangs_158 : decode prog_8_method_27_code 158 = .ok (.goto (-105), 3) := by decide +kernel
theorem d_Y_hangs_161 : decode prog_8_method_27_code 161 = .ok (.iconst 0, 1) := by decide +kernel
theorem d_Y_hangs_162 : decode prog_8_method_27_code 162 = .ok (.istore 7, 2) := by decide +kernel
theorem d_Y_hangs_164 : decode prog_8_method_27_code 164 = .ok (.iload 7, 2) := by decide +kernel
theorem d_Y_hangs_166 : decode prog_8_method_27_code 166 = .ok (.iload 6, 2) := by decide +kernel
theorem d_Y_hangs_168 : decode prog_8_method_27_code 168 = .ok (.if_icmp .gt 76, 3) := by decide +kernel
theorem d_Y_hangs_171 : decode prog_8_method_27_code 171 = .ok (.iload 7, 2) := by decide +kernel
theorem d_Y_hangs_173 : decode prog_8_method_27_code 173 = .ok (.iload 6, 2) := by decide +kernel
theorem d_Y_hangs_175 : decode prog_8_method_27_code 175 = .ok (.iconst (-1), 1) := by decide +kernel
theorem d_Y_hangs_176 : decode prog_8_method_27_code 176 = .ok (.ixor, 1) := by decide +kernel
theorem d_Y_hangs_177 : decode prog_8_method_27_code 177 = .ok (.iand, 1) := by decide +kernel
theorem d_Y_hangs_178 : decode prog_8_method_27_code 178 = .ok (.ifCond .ne 60, 3) := by decide +kernel
theorem d_Y_hangs_181 : decode prog_8_method_27_code 181 = .ok (.aload_n 0, 1) := by decide +kernel
theorem d_Y_hangs_182 : decode prog_8_method_27_code 182 = .ok (.getfield 44, 3) := by decide +kernel
theorem d_Y_hangs_185 : decode prog_8_method_27_code 185 = .ok (.iload 7, 2) := by decide +kernel
theorem d_Y_hangs_187 : decode prog_8_method_27_code 187 = .ok (.laload, 1) := by decide +kernel
theorem d_Y_hangs_188 : decode prog_8_method_27_code 188 = .ok (.aload_n 0, 1) := by decide +kernel
theorem d_Y_hangs_189 : decode prog_8_method_27_code 189 = .ok (.getfield 44, 3) := by decide +kernel
theorem d_Y_hangs_192 : decode prog_8_method_27_code 192 = .ok (.sipush 256, 3) := by decide +kernel
theorem d_Y_hangs_195 : decode prog_8_method_27_code 195 = .ok (.iload 7, 2) := by decide +kernel
theorem d_Y_hangs_197 : decode prog_8_method_27_code 197 = .ok (.iload_n 3, 1) := by decide +kernel
theorem d_Y_hangs_198 : decode prog_8_method_27_code 198 = .ok (.iand, 1) := by decide +kernel
theorem d_Y_hangs_199 : decode prog_8_method_27_code 199 = .ok (.iadd, 1) := by decide +kernel
theorem d_Y_hangs_200 : decode prog_8_method_27_code 200 = .ok (.laload, 1) := by decide +kernel
theorem d_Y_hangs_201 : decode prog_8_method_27_code 201 = .ok (.lmul, 1) := by decide +kernel
theorem d_Y_hangs_202 : decode prog_8_method_27_code 202 = .ok (.aload_n 0, 1) := by decide +kernel
theorem d_Y_hangs_203 : decode prog_8_method_27_code 203 = .ok (.getfield 44, 3) := by decide +kernel
theorem d_Y_hangs_206 : decode prog_8_method_27_code 206 = .ok (.sipush 512, 3) := by decide +kernel
theorem d_Y_hangs_209 : decode prog_8_method_27_code 209 = .ok (.iload 7, 2) := by decide +kernel
theorem d_Y_hangs_211 : decode prog_8_method_27_code 211 = .ok (.iload 4, 2) := by decide +kernel
theorem d_Y_hangs_213 : decode prog_8_method_27_code 213 = .ok (.iand, 1) := by decide +kernel
theorem d_Y_hangs_214 : decode prog_8_method_27_code 214 = .ok (.iadd, 1) := by decide +kernel
theorem d_Y_hangs_215 : decode prog_8_method_27_code 215 = .ok (.laload, 1) := by decide +kernel
theorem d_Y_hangs_216 : decode prog_8_method_27_code 216 = .ok (.aload_n 0, 1) := by decide +kernel
theorem d_Y_hangs_217 : decode prog_8_method_27_code 217 = .ok (.getfield 44, 3) := by decide +kernel
theorem d_Y_hangs_220 : decode prog_8_method_27_code 220 = .ok (.sipush 768, 3) := by decide +kernel
theorem d_Y_hangs_223 : decode prog_8_method_27_code 223 = .ok (.iload 7, 2) := by decide +kernel
theorem d_Y_hangs_225 : decode prog_8_method_27_code 225 = .ok (.iload 5, 2) := by decide +kernel
theorem d_Y_hangs_227 : decode prog_8_method_27_code 227 = .ok (.iand, 1) := by decide +kernel
theorem d_Y_hangs_228 : decode prog_8_method_27_code 228 = .ok (.iadd, 1) := by decide +kernel
theorem d_Y_hangs_229 : decode prog_8_method_27_code 229 = .ok (.laload, 1) := by decide +kernel
theorem d_Y_hangs_230 : decode prog_8_method_27_code 230 = .ok (.lmul, 1) := by decide +kernel
theorem d_Y_hangs_231 : decode prog_8_method_27_code 231 = .ok (.lcmp, 1) := by decide +kernel
theorem d_Y_hangs_232 : decode prog_8_method_27_code 232 = .ok (.ifCond .eq 6, 3) := by decide +kernel
theorem d_Y_hangs_235 : decode prog_8_method_27_code 235 = .ok (.iload 7, 2) := by decide +kernel
theorem d_Y_hangs_237 : decode prog_8_method_27_code 237 = .ok (.ireturn, 1) := by decide +kernel
theorem d_Y_hangs_238 : decode prog_8_method_27_code 238 = .ok (.iinc 7 1, 3) := by decide +kernel
theorem d_Y_hangs_241 : decode prog_8_method_27_code 241 = .ok (.goto (-77), 3) := by decide +kernel
theorem d_Y_hangs_244 : decode prog_8_method_27_code 244 = .ok (.iconst (-1), 1) := by decide +kernel
theorem d_Y_hangs_245 : decode prog_8_method_27_code 245 = .ok (.ireturn, 1) := by decide +kernel
theorem d_Y_differ_0 : decode prog_8_method_29_code 0 = .ok (.aload_n 0, 1) := by decide +kernel
theorem d_Y_differ_1 : decode prog_8_method_29_code 1 = .ok (.iload_n 1, 1) := by decide +kernel
theorem d_Y_differ_2 : decode prog_8_method_29_code 2 = .ok (.iload_n 2, 1) := by decide +kernel
theorem d_Y_differ_3 : decode prog_8_method_29_code 3 = .ok (.iload_n 3, 1) := by decide +kernel
theorem d_Y_differ_4 : decode prog_8_method_29_code 4 = .ok (.invokevirtual 109, 3) := by decide +kernel
theorem d_Y_differ_7 : decode prog_8_method_29_code 7 = .ok (.ifCond .eq 13, 3) := by decide +kernel
theorem d_Y_differ_10 : decode prog_8_method_29_code 10 = .ok (.aload_n 0, 1) := by decide +kernel
theorem d_Y_differ_11 : decode prog_8_method_29_code 11 = .ok (.iload_n 1, 1) := by decide +kernel
theorem d_Y_differ_12 : decode prog_8_method_29_code 12 = .ok (.iload_n 2, 1) := by decide +kernel
theorem d_Y_differ_13 : decode prog_8_method_29_code 13 = .ok (.iload_n 3, 1) := by decide +kernel
theorem d_Y_differ_14 : decode prog_8_method_29_code 14 = .ok (.invokevirtual 128, 3) := by decide +kernel
theorem d_Y_differ_17 : decode prog_8_method_29_code 17 = .ok (.goto 5, 3) := by decide +kernel
theorem d_Y_differ_20 : decode prog_8_method_29_code 20 = .ok (.bipush (-2), 2) := by decide +kernel
theorem d_Y_differ_22 : decode prog_8_method_29_code 22 = .ok (.ireturn, 1) := by decide +kernel
theorem d_Y_blanket_0 : decode prog_8_method_30_code 0 = .ok (.aload_n 0, 1) := by decide +kernel
theorem d_Y_blanket_1 : decode prog_8_method_30_code 1 = .ok (.iload_n 1, 1) := by decide +kernel
theorem d_Y_blanket_2 : decode prog_8_method_30_code 2 = .ok (.invokevirtual 77, 3) := by decide +kernel
theorem d_Y_blanket_5 : decode prog_8_method_30_code 5 = .ok (.ifCond .ne 6, 3) := by decide +kernel
theorem d_Y_blanket_8 : decode prog_8_method_30_code 8 = .ok (.bipush (-2), 2) := by decide +kernel
theorem d_Y_blanket_10 : decode prog_8_method_30_code 10 = .ok (.ireturn, 1) := by decide +kernel
theorem d_Y_blanket_11 : decode prog_8_method_30_code 11 = .ok (.aload_n 0, 1) := by decide +kernel
theorem d_Y_blanket_12 : decode prog_8_method_30_code 12 = .ok (.iconst (-1), 1) := by decide +kernel
theorem d_Y_blanket_13 : decode prog_8_method_30_code 13 = .ok (.invokevirtual 103, 3) := by decide +kernel
theorem d_Y_blanket_16 : decode prog_8_method_30_code 16 = .ok (.iconst 1, 1) := by decide +kernel
theorem d_Y_blanket_17 : decode prog_8_method_30_code 17 = .ok (.aload_n 0, 1) := by decide +kernel
theorem d_Y_blanket_18 : decode prog_8_method_30_code 18 = .ok (.getfield 63, 3) := by decide +kernel
theorem d_Y_blanket_21 : decode prog_8_method_30_code 21 = .ok (.ishl, 1) := by decide +kernel
theorem d_Y_blanket_22 : decode prog_8_method_30_code 22 = .ok (.iconst 1, 1) := by decide +kernel
theorem d_Y_blanket_23 : decode prog_8_method_30_code 23 = .ok (.isub, 1) := by decide +kernel
theorem d_Y_blanket_24 : decode prog_8_method_30_code 24 = .ok (.iconst 1, 1) := by decide +kernel
theorem d_Y_blanket_25 : decode prog_8_method_30_code 25 = .ok (.iload_n 1, 1) := by decide +kernel
theorem d_Y_blanket_26 : decode prog_8_method_30_code 26 = .ok (.ishl, 1) := by decide +kernel
theorem d_Y_blanket_27 : decode prog_8_method_30_code 27 = .ok (.iconst (-1), 1) := by decide +kernel
theorem d_Y_blanket_28 : decode prog_8_method_30_code 28 = .ok (.ixor, 1) := by decide +kernel
theorem d_Y_blanket_29 : decode prog_8_method_30_code 29 = .ok (.iand, 1) := by decide +kernel
theorem d_Y_blanket_30 : decode prog_8_method_30_code 30 = .ok (.istore_n 2, 1) := by decide +kernel
theorem d_Y_blanket_31 : decode prog_8_method_30_code 31 = .ok (.iload_n 2, 1) := by decide +kernel
theorem d_Y_blanket_32 : decode prog_8_method_30_code 32 = .ok (.istore_n 3, 1) := by decide +kernel
theorem d_Y_blanket_33 : decode prog_8_method_30_code 33 = .ok (.iload_n 2, 1) := by decide +kernel
theorem d_Y_blanket_34 : decode prog_8_method_30_code 34 = .ok (.istore 4, 2) := by decide +kernel
theorem d_Y_blanket_36 : decode prog_8_method_30_code 36 = .ok (.iload 4, 2) := by decide +kernel
theorem d_Y_blanket_38 : decode prog_8_method_30_code 38 = .ok (.ifCond .lt 108, 3) := by decide +kernel
theorem d_Y_blanket_41 : decode prog_8_method_30_code 41 = .ok (.iload 4, 2) := by decide +kernel
theorem d_Y_blanket_43 : decode prog_8_method_30_code 43 = .ok (.iload_n 2, 1) := by decide +kernel
theorem d_Y_blanket_44 : decode prog_8_method_30_code 44 = .ok (.iconst (-1), 1) := by decide +kernel
theorem d_Y_blanket_45 : decode prog_8_method_30_code 45 = .ok (.ixor, 1) := by decide +kernel
theorem d_Y_blanket_46 : decode prog_8_method_30_code 46 = .ok (.iand, 1) := by decide +kernel
theorem d_Y_blanket_47 : decode prog_8_method_30_code 47 = .ok (.ifCond .ne 93, 3) := by decide +kernel
theorem d_Y_blanket_50 : decode prog_8_method_30_code 50 = .ok (.iload 4, 2) := by decide +kernel
theorem d_Y_blanket_52 : decode prog_8_method_30_code 52 = .ok (.invokestatic 96, 3) := by decide +kernel
theorem d_Y_blanket_55 : decode prog_8_method_30_code 55 = .ok (.iload_n 3, 1) := by decide +kernel
theorem d_Y_blanket_56 : decode prog_8_method_30_code 56 = .ok (.invokestatic 96, 3) := by decide +kernel
theorem d_Y_blanket_59 : decode prog_8_method_30_code 59 = .ok (.if_icmp .gt 81, 3) := by decide +kernel
theorem d_Y_blanket_62 : decode prog_8_method_30_code 62 = .ok (.iconst 1, 1) := by decide +kernel
theorem d_Y_blanket_63 : decode prog_8_method_30_code 63 = .ok (.istore 5, 2) := by decide +kernel
theorem d_Y_blanket_65 : decode prog_8_method_30_code 65 = .ok (.iconst 0, 1) := by decide +kernel
theorem d_Y_blanket_66 : decode prog_8_method_30_code 66 = .ok (.istore 6, 2) := by decide +kernel
theorem d_Y_blanket_68 : decode prog_8_method_30_code 68 = .ok (.iload 6, 2) := by decide +kernel
theorem d_Y_blanket_70 : decode prog_8_method_30_code 70 = .ok (.aload_n 0, 1) := by decide +kernel
theorem d_Y_blanket_71 : decode prog_8_method_30_code 71 = .ok (.getfield 63, 3) := by decide +kernel
theorem d_Y_blanket_74 : decode prog_8_method_30_code 74 = .ok (.if_icmp .ge 54, 3) := by decide +kernel
theorem d_Y_blanket_77 : decode prog_8_method_30_code 77 = .ok (.iload 5, 2) := by decide +kernel
theorem d_Y_blanket_79 : decode prog_8_method_30_code 79 = .ok (.ifCond .eq 49, 3) := by decide +kernel
theorem d_Y_blanket_82 : decode prog_8_method_30_code 82 = .ok (.iload 6, 2) := by decide +kernel
theorem d_Y_blanket_84 : decode prog_8_method_30_code 84 = .ok (.iload_n 1, 1) := by decide +kernel
theorem d_Y_blanket_85 : decode prog_8_method_30_code 85 = .ok (.if_icmp .eq 30, 3) := by decide +kernel
theorem d_Y_blanket_88 : decode prog_8_method_30_code 88 = .ok (.iload 4, 2) := by decide +kernel
theorem d_Y_blanket_90 : decode prog_8_method_30_code 90 = .ok (.iload 6, 2) := by decide +kernel
theorem d_Y_blanket_92 : decode prog_8_method_30_code 92 = .ok (.ishr, 1) := by decide +kernel
theorem d_Y_blanket_93 : decode prog_8_method_30_code 93 = .ok (.iconst 1, 1) := by decide +kernel
theorem d_Y_blanket_94 : decode prog_8_method_30_code 94 = .ok (.iand, 1) := by decide +kernel
theorem d_Y_blanket_95 : decode prog_8_method_30_code 95 = .ok (.iconst 1, 1) := by decide +kernel
theorem d_Y_blanket_96 : decode prog_8_method_30_code 96 = .ok (.if_icmp .eq 19, 3) := by decide +kernel
theorem d_Y_blanket_99 : decode prog_8_method_30_code 99 = .ok (.aload_n 0, 1) := by decide +kernel
theorem d_Y_blanket_100 : decode prog_8_method_30_code 100 = .ok (.aload_n 0, 1) := by decide +kernel
theorem d_Y_blanket_101 : decode prog_8_method_30_code 101 = .ok (.getfield 22, 3) := by decide +kernel
theorem d_Y_blanket_104 : decode prog_8_method_30_code 104 = .ok (.iload_n 1, 1) := by decide +kernel
theorem d_Y_blanket_105 : decode prog_8_method_30_code 105 = .ok (.iload 6, 2) := by decide +kernel
theorem d_Y_blanket_107 : decode prog_8_method_30_code 107 = .ok (.iload 4, 2) := by decide +kernel
theorem d_Y_blanket_109 : decode prog_8_method_30_code 109 = .ok (.invokevirtual 113, 3) := by decide +kernel
theorem d_Y_blanket_112 : decode prog_8_method_30_code 112 = .ok (.ifCond .eq 7, 3) := by decide +kernel
theorem d_Y_blanket_115 : decode prog_8_method_30_code 115 = .ok (.iconst 1, 1) := by decide +kernel
theorem d_Y_blanket_116 : decode prog_8_method_30_code 116 = .ok (.goto 4, 3) := by decide +kernel
theorem d_Y_blanket_119 : decode prog_8_method_30_code 119 = .ok (.iconst 0, 1) := by decide +kernel
theorem d_Y_blanket_120 : decode prog_8_method_30_code 120 = .ok (.istore 5, 2) := by decide +kernel
theorem d_Y_blanket_122 : decode prog_8_method_30_code 122 = .ok (.iinc 6 1, 3) := by decide +kernel
theorem d_Y_blanket_125 : decode prog_8_method_30_code 125 = .ok (.goto (-57), 3) := by decide +kernel
theorem d_Y_blanket_128 : decode prog_8_method_30_code 128 = .ok (.iload 5, 2) := by decide +kernel
theorem d_Y_blanket_130 : decode prog_8_method_30_code 130 = .ok (.ifCond .eq 8, 3) := by decide +kernel
theorem d_Y_blanket_133 : decode prog_8_method_30_code 133 = .ok (.iload 4, 2) := by decide +kernel
theorem d_Y_blanket_135 : decode prog_8_method_30_code 135 = .ok (.goto 4, 3) := by decide +kernel
theorem d_Y_blanket_138 : decode prog_8_method_30_code 138 = .ok (.iload_n 3, 1) := by decide +kernel
theorem d_Y_blanket_139 : decode prog_8_method_30_code 139 = .ok (.istore_n 3, 1) := by decide +kernel
theorem d_Y_blanket_140 : decode prog_8_method_30_code 140 = .ok (.iinc 4 (-1), 3) := by decide +kernel
theorem d_Y_blanket_143 : decode prog_8_method_30_code 143 = .ok (.goto (-107), 3) := by decide +kernel
theorem d_Y_blanket_146 : decode prog_8_method_30_code 146 = .ok (.iload_n 3, 1) := by decide +kernel
theorem d_Y_blanket_147 : decode prog_8_method_30_code 147 = .ok (.ireturn, 1) := by decide +kernel
theorem d_Y_least_0 : decode prog_8_method_31_code 0 = .ok (.aload_n 0, 1) := by decide +kernel
theorem d_Y_least_1 : decode prog_8_method_31_code 1 = .ok (.iload_n 1, 1) := by decide +kernel
theorem d_Y_least_2 : decode prog_8_method_31_code 2 = .ok (.invokevirtual 77, 3) := by decide +kernel
theorem d_Y_least_5 : decode prog_8_method_31_code 5 = .ok (.ifCond .eq 16, 3) := by decide +kernel
theorem d_Y_least_8 : decode prog_8_method_31_code 8 = .ok (.aload_n 0, 1) := by decide +kernel
theorem d_Y_least_9 : decode prog_8_method_31_code 9 = .ok (.iload_n 2, 1) := by decide +kernel
theorem d_Y_least_10 : decode prog_8_method_31_code 10 = .ok (.invokevirtual 77, 3) := by decide +kernel
theorem d_Y_least_13 : decode prog_8_method_31_code 13 = .ok (.ifCond .eq 8, 3) := by decide +kernel
theorem d_Y_least_16 : decode prog_8_method_31_code 16 = .ok (.iload_n 1, 1) := by decide +kernel
theorem d_Y_least_17 : decode prog_8_method_31_code 17 = .ok (.iload_n 2, 1) := by decide +kernel
theorem d_Y_least_18 : decode prog_8_method_31_code 18 = .ok (.if_icmp .ne 6, 3) := by decide +kernel
theorem d_Y_least_21 : decode prog_8_method_31_code 21 = .ok (.bipush (-2), 2) := by decide +kernel
theorem d_Y_least_23 : decode prog_8_method_31_code 23 = .ok (.ireturn, 1) := by decide +kernel
theorem d_Y_least_24 : decode prog_8_method_31_code 24 = .ok (.aload_n 0, 1) := by decide +kernel
theorem d_Y_least_25 : decode prog_8_method_31_code 25 = .ok (.iconst (-1), 1) := by decide +kernel
theorem d_Y_least_26 : decode prog_8_method_31_code 26 = .ok (.invokevirtual 103, 3) := by decide +kernel
theorem d_Y_least_29 : decode prog_8_method_31_code 29 = .ok (.iconst 1, 1) := by decide +kernel
theorem d_Y_least_30 : decode prog_8_method_31_code 30 = .ok (.aload_n 0, 1) := by decide +kernel
theorem d_Y_least_31 : decode prog_8_method_31_code 31 = .ok (.getfield 63, 3) := by decide +kernel
theorem d_Y_least_34 : decode prog_8_method_31_code 34 = .ok (.ishl, 1) := by decide +kernel
theorem d_Y_least_35 : decode prog_8_method_31_code 35 = .ok (.iconst 1, 1) := by decide +kernel
theorem d_Y_least_36 : decode prog_8_method_31_code 36 = .ok (.isub, 1) := by decide +kernel
theorem d_Y_least_37 : decode prog_8_method_31_code 37 = .ok (.iconst 1, 1) := by decide +kernel
theorem d_Y_least_38 : decode prog_8_method_31_code 38 = .ok (.iload_n 1, 1) := by decide +kernel
theorem d_Y_least_39 : decode prog_8_method_31_code 39 = .ok (.ishl, 1) := by decide +kernel
theorem d_Y_least_40 : decode prog_8_method_31_code 40 = .ok (.iconst (-1), 1) := by decide +kernel
theorem d_Y_least_41 : decode prog_8_method_31_code 41 = .ok (.ixor, 1) := by decide +kernel
theorem d_Y_least_42 : decode prog_8_method_31_code 42 = .ok (.iand, 1) := by decide +kernel
theorem d_Y_least_43 : decode prog_8_method_31_code 43 = .ok (.iconst 1, 1) := by decide +kernel
theorem d_Y_least_44 : decode prog_8_method_31_code 44 = .ok (.iload_n 2, 1) := by decide +kernel
theorem d_Y_least_45 : decode prog_8_method_31_code 45 = .ok (.ishl, 1) := by decide +kernel
theorem d_Y_least_46 : decode prog_8_method_31_code 46 = .ok (.iconst (-1), 1) := by decide +kernel
theorem d_Y_least_47 : decode prog_8_method_31_code 47 = .ok (.ixor, 1) := by decide +kernel
theorem d_Y_least_48 : decode prog_8_method_31_code 48 = .ok (.iand, 1) := by decide +kernel
theorem d_Y_least_49 : decode prog_8_method_31_code 49 = .ok (.istore_n 3, 1) := by decide +kernel
theorem d_Y_least_50 : decode prog_8_method_31_code 50 = .ok (.iconst (-1), 1) := by decide +kernel
theorem d_Y_least_51 : decode prog_8_method_31_code 51 = .ok (.istore 4, 2) := by decide +kernel
theorem d_Y_least_53 : decode prog_8_method_31_code 53 = .ok (.iload_n 3, 1) := by decide +kernel
theorem d_Y_least_54 : decode prog_8_method_31_code 54 = .ok (.istore 5, 2) := by decide +kernel
theorem d_Y_least_56 : decode prog_8_method_31_code 56 = .ok (.iload 5, 2) := by decide +kernel
theorem d_Y_least_58 : decode prog_8_method_31_code 58 = .ok (.ifCond .lt 56, 3) := by decide +kernel
theorem d_Y_least_61 : decode prog_8_method_31_code 61 = .ok (.iload 5, 2) := by decide +kernel
theorem d_Y_least_63 : decode prog_8_method_31_code 63 = .ok (.iload_n 3, 1) := by decide +kernel
theorem d_Y_least_64 : decode prog_8_method_31_code 64 = .ok (.iconst (-1), 1) := by decide +kernel
theorem d_Y_least_65 : decode prog_8_method_31_code 65 = .ok (.ixor, 1) := by decide +kernel
theorem d_Y_least_66 : decode prog_8_method_31_code 66 = .ok (.iand, 1) := by decide +kernel
theorem d_Y_least_67 : decode prog_8_method_31_code 67 = .ok (.ifCond .ne 41, 3) := by decide +kernel
theorem d_Y_least_70 : decode prog_8_method_31_code 70 = .ok (.iload 4, 2) := by decide +kernel
theorem d_Y_least_72 : decode prog_8_method_31_code 72 = .ok (.iconst (-1), 1) := by decide +kernel
theorem d_Y_least_73 : decode prog_8_method_31_code 73 = .ok (.if_icmp .eq 16, 3) := by decide +kernel
theorem d_Y_least_76 : decode prog_8_method_31_code 76 = .ok (.iload 5, 2) := by decide +kernel
theorem d_Y_least_78 : decode prog_8_method_31_code 78 = .ok (.invokestatic 96, 3) := by decide +kernel
theorem d_Y_least_81 : decode prog_8_method_31_code 81 = .ok (.iload 4, 2) := by decide +kernel
theorem d_Y_least_83 : decode prog_8_method_31_code 83 = .ok (.invokestatic 96, 3) := by decide +kernel
theorem d_Y_least_86 : decode prog_8_method_31_code 86 = .ok (.if_icmp .gt 22, 3) := by decide +kernel
theorem d_Y_least_89 : decode prog_8_method_31_code 89 = .ok (.aload_n 0, 1) := by decide +kernel
theorem d_Y_least_90 : decode prog_8_method_31_code 90 = .ok (.aload_n 0, 1) := by decide +kernel
theorem d_Y_least_91 : decode prog_8_method_31_code 91 = .ok (.getfield 22, 3) := by decide +kernel
theorem d_Y_least_94 : decode prog_8_method_31_code 94 = .ok (.iload_n 1, 1) := by decide +kernel
theorem d_Y_least_95 : decode prog_8_method_31_code 95 = .ok (.iload_n 2, 1) := by decide +kernel
theorem d_Y_least_96 : decode prog_8_method_31_code 96 = .ok (.iload 5, 2) := by decide +kernel
theorem d_Y_least_98 : decode prog_8_method_31_code 98 = .ok (.invokevirtual 113, 3) := by decide +kernel
theorem d_Y_least_101 : decode prog_8_method_31_code 101 = .ok (.ifCond .eq 7, 3) := by decide +kernel
theorem d_Y_least_104 : decode prog_8_method_31_code 104 = .ok (.iload 5, 2) := by decide +kernel
theorem d_Y_least_106 : decode prog_8_method_31_code 106 = .ok (.istore 4, 2) := by decide +kernel
theorem d_Y_least_108 : decode prog_8_method_31_code 108 = .ok (.iinc 5 (-1), 3) := by decide +kernel
theorem d_Y_least_111 : decode prog_8_method_31_code 111 = .ok (.goto (-55), 3) := by decide +kernel
theorem d_Y_least_114 : decode prog_8_method_31_code 114 = .ok (.iload 4, 2) := by decide +kernel
theorem d_Y_least_116 : decode prog_8_method_31_code 116 = .ok (.ireturn, 1) := by decide +kernel
theorem d_Y_enough_0 : decode prog_8_method_32_code 0 = .ok (.aload_n 0, 1) := by decide +kernel
theorem d_Y_enough_1 : decode prog_8_method_32_code 1 = .ok (.iload_n 1, 1) := by decide +kernel
theorem d_Y_enough_2 : decode prog_8_method_32_code 2 = .ok (.iload_n 2, 1) := by decide +kernel
theorem d_Y_enough_3 : decode prog_8_method_32_code 3 = .ok (.iload_n 3, 1) := by decide +kernel
theorem d_Y_enough_4 : decode prog_8_method_32_code 4 = .ok (.invokevirtual 109, 3) := by decide +kernel
theorem d_Y_enough_7 : decode prog_8_method_32_code 7 = .ok (.ifCond .ne 6, 3) := by decide +kernel
theorem d_Y_enough_10 : decode prog_8_method_32_code 10 = .ok (.bipush (-2), 2) := by decide +kernel
theorem d_Y_enough_12 : decode prog_8_method_32_code 12 = .ok (.ireturn, 1) := by decide +kernel
theorem d_Y_enough_13 : decode prog_8_method_32_code 13 = .ok (.aload_n 0, 1) := by decide +kernel
theorem d_Y_enough_14 : decode prog_8_method_32_code 14 = .ok (.iconst (-1), 1) := by decide +kernel
theorem d_Y_enough_15 : decode prog_8_method_32_code 15 = .ok (.invokevirtual 103, 3) := by decide +kernel
theorem d_Y_enough_18 : decode prog_8_method_32_code 18 = .ok (.aload_n 0, 1) := by decide +kernel
theorem d_Y_enough_19 : decode prog_8_method_32_code 19 = .ok (.iload_n 1, 1) := by decide +kernel
theorem d_Y_enough_20 : decode prog_8_method_32_code 20 = .ok (.invokevirtual 106, 3) := by decide +kernel
theorem d_Y_enough_23 : decode prog_8_method_32_code 23 = .ok (.iload_n 3, 1) := by decide +kernel
theorem d_Y_enough_24 : decode prog_8_method_32_code 24 = .ok (.iand, 1) := by decide +kernel
theorem d_Y_enough_25 : decode prog_8_method_32_code 25 = .ok (.ifCond .eq 5, 3) := by decide +kernel
theorem d_Y_enough_28 : decode prog_8_method_32_code 28 = .ok (.iconst 0, 1) := by decide +kernel
theorem d_Y_enough_29 : decode prog_8_method_32_code 29 = .ok (.ireturn, 1) := by decide +kernel
theorem d_Y_enough_30 : decode prog_8_method_32_code 30 = .ok (.aload_n 0, 1) := by decide +kernel
theorem d_Y_enough_31 : decode prog_8_method_32_code 31 = .ok (.iload_n 1, 1) := by decide +kernel
theorem d_Y_enough_32 : decode prog_8_method_32_code 32 = .ok (.invokevirtual 103, 3) := by decide +kernel
theorem d_Y_enough_35 : decode prog_8_method_32_code 35 = .ok (.aload_n 0, 1) := by decide +kernel
theorem d_Y_enough_36 : decode prog_8_method_32_code 36 = .ok (.aload_n 0, 1) := by decide +kernel
theorem d_Y_enough_37 : decode prog_8_method_32_code 37 = .ok (.getfield 22, 3) := by decide +kernel
theorem d_Y_enough_40 : decode prog_8_method_32_code 40 = .ok (.iload_n 1, 1) := by decide +kernel
theorem d_Y_enough_41 : decode prog_8_method_32_code 41 = .ok (.iload_n 2, 1) := by decide +kernel
theorem d_Y_enough_42 : decode prog_8_method_32_code 42 = .ok (.iload_n 3, 1) := by decide +kernel
theorem d_Y_enough_43 : decode prog_8_method_32_code 43 = .ok (.invokevirtual 113, 3) := by decide +kernel
theorem d_Y_enough_46 : decode prog_8_method_32_code 46 = .ok (.ifCond .eq 7, 3) := by decide +kernel
theorem d_Y_enough_49 : decode prog_8_method_32_code 49 = .ok (.iconst 1, 1) := by decide +kernel
theorem d_Y_enough_50 : decode prog_8_method_32_code 50 = .ok (.goto 4, 3) := by decide +kernel
theorem d_Y_enough_53 : decode prog_8_method_32_code 53 = .ok (.iconst 0, 1) := by decide +kernel
theorem d_Y_enough_54 : decode prog_8_method_32_code 54 = .ok (.ireturn, 1) := by decide +kernel
theorem d_Y_keep_0 : decode prog_8_method_33_code 0 = .ok (.aload_n 0, 1) := by decide +kernel
theorem d_Y_keep_1 : decode prog_8_method_33_code 1 = .ok (.iconst 1, 1) := by decide +kernel
theorem d_Y_keep_2 : decode prog_8_method_33_code 2 = .ok (.putfield 70, 3) := by decide +kernel
theorem d_Y_keep_5 : decode prog_8_method_33_code 5 = .ok (.aload_n 0, 1) := by decide +kernel
theorem d_Y_keep_6 : decode prog_8_method_33_code 6 = .ok (.aload_n 0, 1) := by decide +kernel
theorem d_Y_keep_7 : decode prog_8_method_33_code 7 = .ok (.getfield 63, 3) := by decide +kernel
theorem d_Y_keep_10 : decode prog_8_method_33_code 10 = .ok (.putfield 132, 3) := by decide +kernel
theorem d_Y_keep_13 : decode prog_8_method_33_code 13 = .ok (.iconst 0, 1) := by decide +kernel
theorem d_Y_keep_14 : decode prog_8_method_33_code 14 = .ok (.istore_n 1, 1) := by decide +kernel
theorem d_Y_keep_15 : decode prog_8_method_33_code 15 = .ok (.iload_n 1, 1) := by decide +kernel
theorem d_Y_keep_16 : decode prog_8_method_33_code 16 = .ok (.bipush 8, 2) := by decide +kernel
theorem d_Y_keep_18 : decode prog_8_method_33_code 18 = .ok (.if_icmp .ge 21, 3) := by decide +kernel
theorem d_Y_keep_21 : decode prog_8_method_33_code 21 = .ok (.aload_n 0, 1) := by decide +kernel
theorem d_Y_keep_22 : decode prog_8_method_33_code 22 = .ok (.getfield 19, 3) := by decide +kernel
theorem d_Y_keep_25 : decode prog_8_method_33_code 25 = .ok (.iload_n 1, 1) := by decide +kernel
theorem d_Y_keep_26 : decode prog_8_method_33_code 26 = .ok (.aload_n 0, 1) := by decide +kernel
theorem d_Y_keep_27 : decode prog_8_method_33_code 27 = .ok (.getfield 7, 3) := by decide +kernel
theorem d_Y_keep_30 : decode prog_8_method_33_code 30 = .ok (.iload_n 1, 1) := by decide +kernel
theorem d_Y_keep_31 : decode prog_8_method_33_code 31 = .ok (.iaload, 1) := by decide +kernel
theorem d_Y_keep_32 : decode prog_8_method_33_code 32 = .ok (.iastore, 1) := by decide +kernel
theorem d_Y_keep_33 : decode prog_8_method_33_code 33 = .ok (.iinc 1 1, 3) := by decide +kernel
theorem d_Y_keep_36 : decode prog_8_method_33_code 36 = .ok (.goto (-21), 3) := by decide +kernel
theorem d_Y_keep_39 : decode prog_8_method_33_code 39 = .ok (.aload_n 0, 1) := by decide +kernel
theorem d_Y_keep_40 : decode prog_8_method_33_code 40 = .ok (.getfield 67, 3) := by decide +kernel
theorem d_Y_keep_43 : decode prog_8_method_33_code 43 = .ok (.ireturn, 1) := by decide +kernel
theorem d_Y_alike_0 : decode prog_8_method_36_code 0 = .ok (.aload_n 0, 1) := by decide +kernel
theorem d_Y_alike_1 : decode prog_8_method_36_code 1 = .ok (.getfield 70, 3) := by decide +kernel
theorem d_Y_alike_4 : decode prog_8_method_36_code 4 = .ok (.ifCond .eq 14, 3) := by decide +kernel
theorem d_Y_alike_7 : decode prog_8_method_36_code 7 = .ok (.aload_n 0, 1) := by decide +kernel
theorem d_Y_alike_8 : decode prog_8_method_36_code 8 = .ok (.getfield 132, 3) := by decide +kernel
theorem d_Y_alike_11 : decode prog_8_method_36_code 11 = .ok (.aload_n 0, 1) := by decide +kernel
theorem d_Y_alike_12 : decode prog_8_method_36_code 12 = .ok (.getfield 63, 3) := by decide +kernel
theorem d_Y_alike_15 : decode prog_8_method_36_code 15 = .ok (.if_icmp .eq 5, 3) := by decide +kernel
theorem d_Y_alike_18 : decode prog_8_method_36_code 18 = .ok (.iconst (-1), 1) := by decide +kernel
theorem d_Y_alike_19 : decode prog_8_method_36_code 19 = .ok (.ireturn, 1) := by decide +kernel
theorem d_Y_alike_20 : decode prog_8_method_36_code 20 = .ok (.aload_n 0, 1) := by decide +kernel
theorem d_Y_alike_21 : decode prog_8_method_36_code 21 = .ok (.invokevirtual 135, 3) := by decide +kernel
theorem d_Y_alike_24 : decode prog_8_method_36_code 24 = .ok (.aload_n 0, 1) := by decide +kernel
theorem d_Y_alike_25 : decode prog_8_method_36_code 25 = .ok (.aload_n 0, 1) := by decide +kernel
theorem d_Y_alike_26 : decode prog_8_method_36_code 26 = .ok (.getfield 19, 3) := by decide +kernel
theorem d_Y_alike_29 : decode prog_8_method_36_code 29 = .ok (.invokevirtual 138, 3) := by decide +kernel
theorem d_Y_alike_32 : decode prog_8_method_36_code 32 = .ok (.ifCond .eq 7, 3) := by decide +kernel
theorem d_Y_alike_35 : decode prog_8_method_36_code 35 = .ok (.iconst 1, 1) := by decide +kernel
theorem d_Y_alike_36 : decode prog_8_method_36_code 36 = .ok (.goto 4, 3) := by decide +kernel
theorem d_Y_alike_39 : decode prog_8_method_36_code 39 = .ok (.iconst 0, 1) := by decide +kernel
theorem d_Y_alike_40 : decode prog_8_method_36_code 40 = .ok (.ireturn, 1) := by decide +kernel
theorem d_Y_learn_0 : decode prog_8_method_34_code 0 = .ok (.iconst 0, 1) := by decide +kernel
theorem d_Y_learn_1 : decode prog_8_method_34_code 1 = .ok (.istore_n 1, 1) := by decide +kernel
theorem d_Y_learn_2 : decode prog_8_method_34_code 2 = .ok (.iload_n 1, 1) := by decide +kernel
theorem d_Y_learn_3 : decode prog_8_method_34_code 3 = .ok (.iconst 1, 1) := by decide +kernel
theorem d_Y_learn_4 : decode prog_8_method_34_code 4 = .ok (.aload_n 0, 1) := by decide +kernel
theorem d_Y_learn_5 : decode prog_8_method_34_code 5 = .ok (.getfield 63, 3) := by decide +kernel
theorem d_Y_learn_8 : decode prog_8_method_34_code 8 = .ok (.ishl, 1) := by decide +kernel
theorem d_Y_learn_9 : decode prog_8_method_34_code 9 = .ok (.if_icmp .ge 108, 3) := by decide +kernel
theorem d_Y_learn_12 : decode prog_8_method_34_code 12 = .ok (.iconst 0, 1) := by decide +kernel
theorem d_Y_learn_13 : decode prog_8_method_34_code 13 = .ok (.istore_n 2, 1) := by decide +kernel
theorem d_Y_learn_14 : decode prog_8_method_34_code 14 = .ok (.iload_n 2, 1) := by decide +kernel
theorem d_Y_learn_15 : decode prog_8_method_34_code 15 = .ok (.aload_n 0, 1) := by decide +kernel
theorem d_Y_learn_16 : decode prog_8_method_34_code 16 = .ok (.getfield 63, 3) := by decide +kernel
theorem d_Y_learn_19 : decode prog_8_method_34_code 19 = .ok (.if_icmp .ge 92, 3) := by decide +kernel
theorem d_Y_learn_22 : decode prog_8_method_34_code 22 = .ok (.iload_n 2, 1) := by decide +kernel
theorem d_Y_learn_23 : decode prog_8_method_34_code 23 = .ok (.iconst 1, 1) := by decide +kernel
theorem d_Y_learn_24 : decode prog_8_method_34_code 24 = .ok (.iadd, 1) := by decide +kernel
theorem d_Y_learn_25 : decode prog_8_method_34_code 25 = .ok (.istore_n 3, 1) := by decide +kernel
theorem d_Y_learn_26 : decode prog_8_method_34_code 26 = .ok (.iload_n 3, 1) := by decide +kernel
theorem d_Y_learn_27 : decode prog_8_method_34_code 27 = .ok (.aload_n 0, 1) := by decide +kernel
theorem d_Y_learn_28 : decode prog_8_method_34_code 28 = .ok (.getfield 63, 3) := by decide +kernel
theorem d_Y_learn_31 : decode prog_8_method_34_code 31 = .ok (.if_icmp .ge 74, 3) := by decide +kernel
theorem d_Y_learn_34 : decode prog_8_method_34_code 34 = .ok (.iload_n 1, 1) := by decide +kernel
theorem d_Y_learn_35 : decode prog_8_method_34_code 35 = .ok (.iload_n 2, 1) := by decide +kernel
theorem d_Y_learn_36 : decode prog_8_method_34_code 36 = .ok (.ishr, 1) := by decide +kernel
theorem d_Y_learn_37 : decode prog_8_method_34_code 37 = .ok (.iconst 1, 1) := by decide +kernel
theorem d_Y_learn_38 : decode prog_8_method_34_code 38 = .ok (.iand, 1) := by decide +kernel
theorem d_Y_learn_39 : decode prog_8_method_34_code 39 = .ok (.iconst 1, 1) := by decide +kernel
theorem d_Y_learn_40 : decode prog_8_method_34_code 40 = .ok (.if_icmp .eq 12, 3) := by decide +kernel
theorem d_Y_learn_43 : decode prog_8_method_34_code 43 = .ok (.iload_n 1, 1) := by decide +kernel
theorem d_Y_learn_44 : decode prog_8_method_34_code 44 = .ok (.iload_n 3, 1) := by decide +kernel
theorem d_Y_learn_45 : decode prog_8_method_34_code 45 = .ok (.ishr, 1) := by decide +kernel
theorem d_Y_learn_46 : decode prog_8_method_34_code 46 = .ok (.iconst 1, 1) := by decide +kernel
theorem d_Y_learn_47 : decode prog_8_method_34_code 47 = .ok (.iand, 1) := by decide +kernel
theorem d_Y_learn_48 : decode prog_8_method_34_code 48 = .ok (.iconst 1, 1) := by decide +kernel
theorem d_Y_learn_49 : decode prog_8_method_34_code 49 = .ok (.if_icmp .ne 7, 3) := by decide +kernel
theorem d_Y_learn_52 : decode prog_8_method_34_code 52 = .ok (.iconst 1, 1) := by decide +kernel
theorem d_Y_learn_53 : decode prog_8_method_34_code 53 = .ok (.goto 4, 3) := by decide +kernel
theorem d_Y_learn_56 : decode prog_8_method_34_code 56 = .ok (.iconst 0, 1) := by decide +kernel
theorem d_Y_learn_57 : decode prog_8_method_34_code 57 = .ok (.istore 4, 2) := by decide +kernel
theorem d_Y_learn_59 : decode prog_8_method_34_code 59 = .ok (.aload_n 0, 1) := by decide +kernel
theorem d_Y_learn_60 : decode prog_8_method_34_code 60 = .ok (.getfield 47, 3) := by decide +kernel
theorem d_Y_learn_63 : decode prog_8_method_34_code 63 = .ok (.bipush 64, 2) := by decide +kernel
theorem d_Y_learn_65 : decode prog_8_method_34_code 65 = .ok (.iload_n 1, 1) := by decide +kernel
theorem d_Y_learn_66 : decode prog_8_method_34_code 66 = .ok (.imul, 1) := by decide +kernel
theorem d_Y_learn_67 : decode prog_8_method_34_code 67 = .ok (.bipush 8, 2) := by decide +kernel
theorem d_Y_learn_69 : decode prog_8_method_34_code 69 = .ok (.iload_n 2, 1) := by decide +kernel
theorem d_Y_learn_70 : decode prog_8_method_34_code 70 = .ok (.imul, 1) := by decide +kernel
theorem d_Y_learn_71 : decode prog_8_method_34_code 71 = .ok (.iadd, 1) := by decide +kernel
theorem d_Y_learn_72 : decode prog_8_method_34_code 72 = .ok (.iload_n 3, 1) := by decide +kernel
theorem d_Y_learn_73 : decode prog_8_method_34_code 73 = .ok (.iadd, 1) := by decide +kernel
theorem d_Y_learn_74 : decode prog_8_method_34_code 74 = .ok (.iload 4, 2) := by decide +kernel
theorem d_Y_learn_76 : decode prog_8_method_34_code 76 = .ok (.ifCond .ne 21, 3) := by decide +kernel
theorem d_Y_learn_79 : decode prog_8_method_34_code 79 = .ok (.aload_n 0, 1) := by decide +kernel
theorem d_Y_learn_80 : decode prog_8_method_34_code 80 = .ok (.aload_n 0, 1) := by decide +kernel
theorem d_Y_learn_81 : decode prog_8_method_34_code 81 = .ok (.getfield 7, 3) := by decide +kernel
theorem d_Y_learn_84 : decode prog_8_method_34_code 84 = .ok (.iload_n 2, 1) := by decide +kernel
theorem d_Y_learn_85 : decode prog_8_method_34_code 85 = .ok (.iload_n 3, 1) := by decide +kernel
theorem d_Y_learn_86 : decode prog_8_method_34_code 86 = .ok (.iload_n 1, 1) := by decide +kernel
theorem d_Y_learn_87 : decode prog_8_method_34_code 87 = .ok (.invokevirtual 113, 3) := by decide +kernel
theorem d_Y_learn_90 : decode prog_8_method_34_code 90 = .ok (.ifCond .eq 7, 3) := by decide +kernel
theorem d_Y_learn_93 : decode prog_8_method_34_code 93 = .ok (.iconst 1, 1) := by decide +kernel
theorem d_Y_learn_94 : decode prog_8_method_34_code 94 = .ok (.goto 4, 3) := by decide +kernel
theorem d_Y_learn_97 : decode prog_8_method_34_code 97 = .ok (.iconst 0, 1) := by decide +kernel
theorem d_Y_learn_98 : decode prog_8_method_34_code 98 = .ok (.bastore, 1) := by decide +kernel
theorem d_Y_learn_99 : decode prog_8_method_34_code 99 = .ok (.iinc 3 1, 3) := by decide +kernel
theorem d_Y_learn_102 : decode prog_8_method_34_code 102 = .ok (.goto (-76), 3) := by decide +kernel
theorem d_Y_learn_105 : decode prog_8_method_34_code 105 = .ok (.iinc 2 1, 3) := by decide +kernel
theorem d_Y_learn_108 : decode prog_8_method_34_code 108 = .ok (.goto (-94), 3) := by decide +kernel
theorem d_Y_learn_111 : decode prog_8_method_34_code 111 = .ok (.iinc 1 1, 3) := by decide +kernel
theorem d_Y_learn_114 : decode prog_8_method_34_code 114 = .ok (.goto (-112), 3) := by decide +kernel
theorem d_Y_learn_117 : decode prog_8_method_34_code 117 = .ok (.return_, 1) := by decide +kernel
theorem d_Y_tellsAlike_0 : decode prog_8_method_35_code 0 = .ok (.iconst 0, 1) := by decide +kernel
theorem d_Y_tellsAlike_1 : decode prog_8_method_35_code 1 = .ok (.istore_n 2, 1) := by decide +kernel
theorem d_Y_tellsAlike_2 : decode prog_8_method_35_code 2 = .ok (.iload_n 2, 1) := by decide +kernel
theorem d_Y_tellsAlike_3 : decode prog_8_method_35_code 3 = .ok (.iconst 1, 1) := by decide +kernel
theorem d_Y_tellsAlike_4 : decode prog_8_method_35_code 4 = .ok (.aload_n 0, 1) := by decide +kernel
theorem d_Y_tellsAlike_5 : decode prog_8_method_35_code 5 = .ok (.getfield 63, 3) := by decide +kernel
theorem d_Y_tellsAlike_8 : decode prog_8_method_35_code 8 = .ok (.ishl, 1) := by decide +kernel
theorem d_Y_tellsAlike_9 : decode prog_8_method_35_code 9 = .ok (.if_icmp .ge 107, 3) := by decide +kernel
theorem d_Y_tellsAlike_12 : decode prog_8_method_35_code 12 = .ok (.iconst 0, 1) := by decide +kernel
theorem d_Y_tellsAlike_13 : decode prog_8_method_35_code 13 = .ok (.istore_n 3, 1) := by decide +kernel
theorem d_Y_tellsAlike_14 : decode prog_8_method_35_code 14 = .ok (.iload_n 3, 1) := by decide +kernel
theorem d_Y_tellsAlike_15 : decode prog_8_method_35_code 15 = .ok (.aload_n 0, 1) := by decide +kernel
theorem d_Y_tellsAlike_16 : decode prog_8_method_35_code 16 = .ok (.getfield 63, 3) := by decide +kernel
theorem d_Y_tellsAlike_19 : decode prog_8_method_35_code 19 = .ok (.if_icmp .ge 91, 3) := by decide +kernel
theorem d_Y_tellsAlike_22 : decode prog_8_method_35_code 22 = .ok (.iload_n 3, 1) := by decide +kernel
theorem d_Y_tellsAlike_23 : decode prog_8_method_35_code 23 = .ok (.iconst 1, 1) := by decide +kernel
theorem d_Y_tellsAlike_24 : decode prog_8_method_35_code 24 = .ok (.iadd, 1) := by decide +kernel
theorem d_Y_tellsAlike_25 : decode prog_8_method_35_code 25 = .ok (.istore 4, 2) := by decide +kernel
theorem d_Y_tellsAlike_27 : decode prog_8_method_35_code 27 = .ok (.iload 4, 2) := by decide +kernel
theorem d_Y_tellsAlike_29 : decode prog_8_method_35_code 29 = .ok (.aload_n 0, 1) := by decide +kernel
theorem d_Y_tellsAlike_30 : decode prog_8_method_35_code 30 = .ok (.getfield 63, 3) := by decide +kernel
theorem d_Y_tellsAlike_33 : decode prog_8_method_35_code 33 = .ok (.if_icmp .ge 71, 3) := by decide +kernel
theorem d_Y_tellsAlike_36 : decode prog_8_method_35_code 36 = .ok (.iload_n 2, 1) := by decide +kernel
theorem d_Y_tellsAlike_37 : decode prog_8_method_35_code 37 = .ok (.iload_n 3, 1) := by decide +kernel
theorem d_Y_tellsAlike_38 : decode prog_8_method_35_code 38 = .ok (.ishr, 1) := by decide +kernel
theorem d_Y_tellsAlike_39 : decode prog_8_method_35_code 39 = .ok (.iconst 1, 1) := by decide +kernel
theorem d_Y_tellsAlike_40 : decode prog_8_method_35_code 40 = .ok (.iand, 1) := by decide +kernel
theorem d_Y_tellsAlike_41 : decode prog_8_method_35_code 41 = .ok (.iconst 1, 1) := by decide +kernel
theorem d_Y_tellsAlike_42 : decode prog_8_method_35_code 42 = .ok (.if_icmp .eq 13, 3) := by decide +kernel
theorem d_Y_tellsAlike_45 : decode prog_8_method_35_code 45 = .ok (.iload_n 2, 1) := by decide +kernel
theorem d_Y_tellsAlike_46 : decode prog_8_method_35_code 46 = .ok (.iload 4, 2) := by decide +kernel
theorem d_Y_tellsAlike_48 : decode prog_8_method_35_code 48 = .ok (.ishr, 1) := by decide +kernel
theorem d_Y_tellsAlike_49 : decode prog_8_method_35_code 49 = .ok (.iconst 1, 1) := by decide +kernel
theorem d_Y_tellsAlike_50 : decode prog_8_method_35_code 50 = .ok (.iand, 1) := by decide +kernel
theorem d_Y_tellsAlike_51 : decode prog_8_method_35_code 51 = .ok (.iconst 1, 1) := by decide +kernel
theorem d_Y_tellsAlike_52 : decode prog_8_method_35_code 52 = .ok (.if_icmp .ne 7, 3) := by decide +kernel
theorem d_Y_tellsAlike_55 : decode prog_8_method_35_code 55 = .ok (.iconst 1, 1) := by decide +kernel
theorem d_Y_tellsAlike_56 : decode prog_8_method_35_code 56 = .ok (.goto 4, 3) := by decide +kernel
theorem d_Y_tellsAlike_59 : decode prog_8_method_35_code 59 = .ok (.iconst 0, 1) := by decide +kernel
theorem d_Y_tellsAlike_60 : decode prog_8_method_35_code 60 = .ok (.istore 5, 2) := by decide +kernel
theorem d_Y_tellsAlike_62 : decode prog_8_method_35_code 62 = .ok (.iload 5, 2) := by decide +kernel
theorem d_Y_tellsAlike_64 : decode prog_8_method_35_code 64 = .ok (.ifCond .ne 34, 3) := by decide +kernel
theorem d_Y_tellsAlike_67 : decode prog_8_method_35_code 67 = .ok (.aload_n 0, 1) := by decide +kernel
theorem d_Y_tellsAlike_68 : decode prog_8_method_35_code 68 = .ok (.aload_n 1, 1) := by decide +kernel
theorem d_Y_tellsAlike_69 : decode prog_8_method_35_code 69 = .ok (.iload_n 3, 1) := by decide +kernel
theorem d_Y_tellsAlike_70 : decode prog_8_method_35_code 70 = .ok (.iload 4, 2) := by decide +kernel
theorem d_Y_tellsAlike_72 : decode prog_8_method_35_code 72 = .ok (.iload_n 2, 1) := by decide +kernel
theorem d_Y_tellsAlike_73 : decode prog_8_method_35_code 73 = .ok (.invokevirtual 113, 3) := by decide +kernel
theorem d_Y_tellsAlike_76 : decode prog_8_method_35_code 76 = .ok (.aload_n 0, 1) := by decide +kernel
theorem d_Y_tellsAlike_77 : decode prog_8_method_35_code 77 = .ok (.getfield 47, 3) := by decide +kernel
theorem d_Y_tellsAlike_80 : decode prog_8_method_35_code 80 = .ok (.bipush 64, 2) := by decide +kernel
theorem d_Y_tellsAlike_82 : decode prog_8_method_35_code 82 = .ok (.iload_n 2, 1) := by decide +kernel
theorem d_Y_tellsAlike_83 : decode prog_8_method_35_code 83 = .ok (.imul, 1) := by decide +kernel
theorem d_Y_tellsAlike_84 : decode prog_8_method_35_code 84 = .ok (.bipush 8, 2) := by decide +kernel
theorem d_Y_tellsAlike_86 : decode prog_8_method_35_code 86 = .ok (.iload_n 3, 1) := by decide +kernel
theorem d_Y_tellsAlike_87 : decode prog_8_method_35_code 87 = .ok (.imul, 1) := by decide +kernel
theorem d_Y_tellsAlike_88 : decode prog_8_method_35_code 88 = .ok (.iadd, 1) := by decide +kernel
theorem d_Y_tellsAlike_89 : decode prog_8_method_35_code 89 = .ok (.iload 4, 2) := by decide +kernel
theorem d_Y_tellsAlike_91 : decode prog_8_method_35_code 91 = .ok (.iadd, 1) := by decide +kernel
theorem d_Y_tellsAlike_92 : decode prog_8_method_35_code 92 = .ok (.baload, 1) := by decide +kernel
theorem d_Y_tellsAlike_93 : decode prog_8_method_35_code 93 = .ok (.if_icmp .eq 5, 3) := by decide +kernel
theorem d_Y_tellsAlike_96 : decode prog_8_method_35_code 96 = .ok (.iconst 0, 1) := by decide +kernel
theorem d_Y_tellsAlike_97 : decode prog_8_method_35_code 97 = .ok (.ireturn, 1) := by decide +kernel
theorem d_Y_tellsAlike_98 : decode prog_8_method_35_code 98 = .ok (.iinc 4 1, 3) := by decide +kernel
theorem d_Y_tellsAlike_101 : decode prog_8_method_35_code 101 = .ok (.goto (-74), 3) := by decide +kernel
theorem d_Y_tellsAlike_104 : decode prog_8_method_35_code 104 = .ok (.iinc 3 1, 3) := by decide +kernel
theorem d_Y_tellsAlike_107 : decode prog_8_method_35_code 107 = .ok (.goto (-93), 3) := by decide +kernel
theorem d_Y_tellsAlike_110 : decode prog_8_method_35_code 110 = .ok (.iinc 2 1, 3) := by decide +kernel
theorem d_Y_tellsAlike_113 : decode prog_8_method_35_code 113 = .ok (.goto (-111), 3) := by decide +kernel
theorem d_Y_tellsAlike_116 : decode prog_8_method_35_code 116 = .ok (.iconst 1, 1) := by decide +kernel
theorem d_Y_tellsAlike_117 : decode prog_8_method_35_code 117 = .ok (.ireturn, 1) := by decide +kernel
theorem d_Y_settled_0 : decode prog_8_method_40_code 0 = .ok (.aload_n 0, 1) := by decide +kernel
theorem d_Y_settled_1 : decode prog_8_method_40_code 1 = .ok (.iload_n 1, 1) := by decide +kernel
theorem d_Y_settled_2 : decode prog_8_method_40_code 2 = .ok (.invokevirtual 77, 3) := by decide +kernel

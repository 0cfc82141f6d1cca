theorem fc_12 : fw_cal 12 2 := ⟨tw_333, tw_1, ⟨by decide +kernel, by decide +kernel, by decide +kernel⟩, by decide +kernel⟩
theorem fc_142 : fw_cal 142 2 := ⟨tw_1036, tw_12, ⟨by decide +kernel, by decide +kernel, by decide +kernel⟩, by decide +kernel⟩
theorem fc_17 : fw_cal 17 2 := ⟨tw_353, tw_1, ⟨by decide +kernel, by decide +kernel, by decide +kernel⟩, by decide +kernel⟩
theorem fc_146 : fw_cal 146 2 := ⟨tw_1050, tw_12, ⟨by decide +kernel, by decide +kernel, by decide +kernel⟩, by decide +kernel⟩
theorem fc_39 : fw_cal 39 3 := ⟨tw_449, tw_1, ⟨by decide +kernel, by decide +kernel, by decide +kernel⟩, by decide +kernel⟩
theorem fc_153 : fw_cal 153 3 := ⟨tw_1078, tw_12, ⟨by decide +kernel, by decide +kernel, by decide +kernel⟩, by decide +kernel⟩
theorem fc_51 : fw_cal 51 2 := ⟨tw_499, tw_1, ⟨by decide +kernel, by decide +kernel, by decide +kernel⟩, by decide +kernel⟩
theorem fc_157 : fw_cal 157 2 := ⟨tw_1093, tw_12, ⟨by decide +kernel, by decide +kernel, by decide +kernel⟩, by decide +kernel⟩
theorem fc_56 : fw_cal 56 2 := ⟨tw_520, tw_1, ⟨by decide +kernel, by decide +kernel, by decide +kernel⟩, by decide +kernel⟩
theorem fc_158 : fw_cal 158 2 := ⟨tw_1097, tw_12, ⟨by decide +kernel, by decide +kernel, by decide +kernel⟩, by decide +kernel⟩
theorem fc_61 : fw_cal 61 2 := ⟨tw_540, tw_1, ⟨by decide +kernel, by decide +kernel, by decide +kernel⟩, by decide +kernel⟩
theorem fc_160 : fw_cal 160 2 := ⟨tw_1105, tw_12, ⟨by decide +kernel, by decide +kernel, by decide +kernel⟩, by decide +kernel⟩
theorem fc_63 : fw_cal 63 3 := ⟨tw_548, tw_1, ⟨by decide +kernel, by decide +kernel, by decide +kernel⟩, by decide +kernel⟩
theorem fc_131 : fw_cal 131 3 := ⟨tw_991, tw_12, ⟨by decide +kernel, by decide +kernel, by decide +kernel⟩, by decide +kernel⟩
theorem fc_66 : fw_cal 66 1 := ⟨tw_561, tw_1, ⟨by decide +kernel, by decide +kernel, by decide +kernel⟩, by decide +kernel⟩
theorem fc_161 : fw_cal 161 1 := ⟨tw_1109, tw_12, ⟨by decide +kernel, by decide +kernel, by decide +kernel⟩, by decide +kernel⟩
theorem fc_110 : fw_cal 110 2 := ⟨tw_749, tw_1, ⟨by decide +kernel, by decide +kernel, by decide +kernel⟩, by decide +kernel⟩
theorem fc_180 : fw_cal 180 2 := ⟨tw_1185, tw_12, ⟨by decide +kernel, by decide +kernel, by decide +kernel⟩, by decide +kernel⟩
theorem fc_114 : fw_cal 114 3 := ⟨tw_766, tw_1, ⟨by decide +kernel, by decide +kernel, by decide +kernel⟩, by decide +kernel⟩
theorem fc_181 : fw_cal 181 3 := ⟨tw_1189, tw_12, ⟨by decide +kernel, by decide +kernel, by decide +kernel⟩, by decide +kernel⟩
theorem fc_116 : fw_cal 116 1 := ⟨tw_774, tw_1, ⟨by decide +kernel, by decide +kernel, by decide +kernel⟩, by decide +kernel⟩
theorem fc_182 : fw_cal 182 1 := ⟨tw_1193, tw_12, ⟨by decide +kernel, by decide +kernel, by decide +kernel⟩, by decide +kernel⟩
theorem fc_185 : fw_cal 185 1 := ⟨tw_1205, tw_12, ⟨by decide +kernel, by decide +kernel, by decide +kernel⟩, by decide +kernel⟩
theorem fc_124 : fw_cal 124 3 := ⟨tw_808, tw_1, ⟨by decide +kernel, by decide +kernel, by decide +kernel⟩, by decide +kernel⟩
theorem fc_186 : fw_cal 186 3 := ⟨tw_1209, tw_12, ⟨by decide +kernel, by decide +kernel, by decide +kernel⟩, by decide +kernel⟩
theorem fc_125 : fw_cal 125 3 := ⟨tw_813, tw_1, ⟨by decide +kernel, by decide +kernel, by decide +kernel⟩, by decide +kernel⟩
theorem fc_187 : fw_cal 187 3 := ⟨tw_1213, tw_12, ⟨by decide +kernel, by decide +kernel, by decide +kernel⟩, by decide +kernel⟩
theorem fc_127 : fw_cal 127 2 := ⟨tw_821, tw_1, ⟨by decide +kernel, by decide +kernel, by decide +kernel⟩, by decide +kernel⟩
theorem fc_188 : fw_cal 188 2 := ⟨tw_1217, tw_12, ⟨by decide +kernel, by decide +kernel, by decide +kernel⟩, by decide +kernel⟩
theorem dl_0 : decode code 0 = .ok (.new 7, 3) := by decide +kernel
theorem dl_3 : decode code 3 = .ok (.dup, 1) := by decide +kernel
theorem dl_4 : decode code 4 = .ok (.invokespecial 9, 3) := by decide +kernel
theorem dl_7 : decode code 7 = .ok (.astore_n 1, 1) := by decide +kernel
theorem dl_8 : decode code 8 = .ok (.new 10, 3) := by decide +kernel
theorem dl_11 : decode code 11 = .ok (.dup, 1) := by decide +kernel
theorem dl_12 : decode code 12 = .ok (.invokespecial 12, 3) := by decide +kernel
theorem dl_15 : decode code 15 = .ok (.astore_n 2, 1) := by decide +kernel
theorem dl_16 : decode code 16 = .ok (.iconst 0, 1) := by decide +kernel
theorem dl_17 : decode code 17 = .ok (.istore_n 3, 1) := by decide +kernel
theorem dl_18 : decode code 18 = .ok (.iload_n 3, 1) := by decide +kernel
theorem dl_19 : decode code 19 = .ok (.aload_n 0, 1) := by decide +kernel
theorem dl_20 : decode code 20 = .ok (.arraylength, 1) := by decide +kernel
theorem dl_21 : decode code 21 = .ok (.iconst 4, 1) := by decide +kernel
theorem dl_22 : decode code 22 = .ok (.isub, 1) := by decide +kernel
theorem dl_23 : decode code 23 = .ok (.if_icmp .gt 606, 3) := by decide +kernel
theorem dl_26 : decode code 26 = .ok (.aload_n 0, 1) := by decide +kernel
theorem dl_27 : decode code 27 = .ok (.iload_n 3, 1) := by decide +kernel
theorem dl_28 : decode code 28 = .ok (.iaload, 1) := by decide +kernel
theorem dl_29 : decode code 29 = .ok (.bipush 15, 2) := by decide +kernel
theorem dl_31 : decode code 31 = .ok (.iand, 1) := by decide +kernel
theorem dl_32 : decode code 32 = .ok (.tableswitch 591 0 14 #[76, 109, 142, 185, 218, 251, 284, 327, 350, 383, 426, 449, 472, 515, 558], 76) := by decide +kernel
theorem dl_108 : decode code 108 = .ok (.aload_n 1, 1) := by decide +kernel
theorem dl_109 : decode code 109 = .ok (.aload_n 0, 1) := by decide +kernel
theorem dl_110 : decode code 110 = .ok (.iload_n 3, 1) := by decide +kernel
theorem dl_111 : decode code 111 = .ok (.iconst 1, 1) := by decide +kernel
theorem dl_112 : decode code 112 = .ok (.iadd, 1) := by decide +kernel
theorem dl_113 : decode code 113 = .ok (.iaload, 1) := by decide +kernel
theorem dl_114 : decode code 114 = .ok (.aload_n 0, 1) := by decide +kernel
theorem dl_115 : decode code 115 = .ok (.iload_n 3, 1) := by decide +kernel
theorem dl_116 : decode code 116 = .ok (.iconst 2, 1) := by decide +kernel
theorem dl_117 : decode code 117 = .ok (.iadd, 1) := by decide +kernel
theorem dl_118 : decode code 118 = .ok (.iaload, 1) := by decide +kernel
theorem dl_119 : decode code 119 = .ok (.invokevirtual 13, 3) := by decide +kernel
theorem dl_122 : decode code 122 = .ok (.aload_n 2, 1) := by decide +kernel
theorem dl_123 : decode code 123 = .ok (.aload_n 0, 1) := by decide +kernel
theorem dl_124 : decode code 124 = .ok (.iload_n 3, 1) := by decide +kernel
theorem dl_125 : decode code 125 = .ok (.iconst 1, 1) := by decide +kernel
theorem dl_126 : decode code 126 = .ok (.iadd, 1) := by decide +kernel
theorem dl_127 : decode code 127 = .ok (.iaload, 1) := by decide +kernel
theorem dl_128 : decode code 128 = .ok (.aload_n 0, 1) := by decide +kernel
theorem dl_129 : decode code 129 = .ok (.iload_n 3, 1) := by decide +kernel
theorem dl_130 : decode code 130 = .ok (.iconst 2, 1) := by decide +kernel
theorem dl_131 : decode code 131 = .ok (.iadd, 1) := by decide +kernel
theorem dl_132 : decode code 132 = .ok (.iaload, 1) := by decide +kernel
theorem dl_133 : decode code 133 = .ok (.invokevirtual 17, 3) := by decide +kernel
theorem dl_136 : decode code 136 = .ok (.if_icmp .eq 487, 3) := by decide +kernel
theorem dl_139 : decode code 139 = .ok (.iconst 0, 1) := by decide +kernel
theorem dl_140 : decode code 140 = .ok (.ireturn, 1) := by decide +kernel
theorem dl_141 : decode code 141 = .ok (.aload_n 1, 1) := by decide +kernel
theorem dl_142 : decode code 142 = .ok (.aload_n 0, 1) := by decide +kernel
theorem dl_143 : decode code 143 = .ok (.iload_n 3, 1) := by decide +kernel
theorem dl_144 : decode code 144 = .ok (.iconst 1, 1) := by decide +kernel
theorem dl_145 : decode code 145 = .ok (.iadd, 1) := by decide +kernel
theorem dl_146 : decode code 146 = .ok (.iaload, 1) := by decide +kernel
theorem dl_147 : decode code 147 = .ok (.aload_n 0, 1) := by decide +kernel
theorem dl_148 : decode code 148 = .ok (.iload_n 3, 1) := by decide +kernel
theorem dl_149 : decode code 149 = .ok (.iconst 2, 1) := by decide +kernel
theorem dl_150 : decode code 150 = .ok (.iadd, 1) := by decide +kernel
theorem dl_151 : decode code 151 = .ok (.iaload, 1) := by decide +kernel
theorem dl_152 : decode code 152 = .ok (.invokevirtual 18, 3) := by decide +kernel
theorem dl_155 : decode code 155 = .ok (.aload_n 2, 1) := by decide +kernel
theorem dl_156 : decode code 156 = .ok (.aload_n 0, 1) := by decide +kernel
theorem dl_157 : decode code 157 = .ok (.iload_n 3, 1) := by decide +kernel
theorem dl_158 : decode code 158 = .ok (.iconst 1, 1) := by decide +kernel
theorem dl_159 : decode code 159 = .ok (.iadd, 1) := by decide +kernel
theorem dl_160 : decode code 160 = .ok (.iaload, 1) := by decide +kernel
theorem dl_161 : decode code 161 = .ok (.aload_n 0, 1) := by decide +kernel
theorem dl_162 : decode code 162 = .ok (.iload_n 3, 1) := by decide +kernel
theorem dl_163 : decode code 163 = .ok (.iconst 2, 1) := by decide +kernel
theorem dl_164 : decode code 164 = .ok (.iadd, 1) := by decide +kernel
theorem dl_165 : decode code 165 = .ok (.iaload, 1) := by decide +kernel
theorem dl_166 : decode code 166 = .ok (.invokevirtual 21, 3) := by decide +kernel
theorem dl_169 : decode code 169 = .ok (.if_icmp .eq 454, 3) := by decide +kernel
theorem dl_172 : decode code 172 = .ok (.iconst 0, 1) := by decide +kernel
theorem dl_173 : decode code 173 = .ok (.ireturn, 1) := by decide +kernel
theorem dl_174 : decode code 174 = .ok (.aload_n 1, 1) := by decide +kernel
theorem dl_175 : decode code 175 = .ok (.aload_n 0, 1) := by decide +kernel
theorem dl_176 : decode code 176 = .ok (.iload_n 3, 1) := by decide +kernel
theorem dl_177 : decode code 177 = .ok (.iconst 1, 1) := by decide +kernel
theorem dl_178 : decode code 178 = .ok (.iadd, 1) := by decide +kernel
theorem dl_179 : decode code 179 = .ok (.iaload, 1) := by decide +kernel
theorem dl_180 : decode code 180 = .ok (.aload_n 0, 1) := by decide +kernel
theorem dl_181 : decode code 181 = .ok (.iload_n 3, 1) := by decide +kernel
theorem dl_182 : decode code 182 = .ok (.iconst 2, 1) := by decide +kernel
theorem dl_183 : decode code 183 = .ok (.iadd, 1) := by decide +kernel
theorem dl_184 : decode code 184 = .ok (.iaload, 1) := by decide +kernel
theorem dl_185 : decode code 185 = .ok (.aload_n 0, 1) := by decide +kernel
theorem dl_186 : decode code 186 = .ok (.iload_n 3, 1) := by decide +kernel
theorem dl_187 : decode code 187 = .ok (.iconst 3, 1) := by decide +kernel
theorem dl_188 : decode code 188 = .ok (.iadd, 1) := by decide +kernel
theorem dl_189 : decode code 189 = .ok (.iaload, 1) := by decide +kernel
theorem dl_190 : decode code 190 = .ok (.invokevirtual 22, 3) := by decide +kernel
theorem dl_193 : decode code 193 = .ok (.aload_n 2, 1) := by decide +kernel
theorem dl_194 : decode code 194 = .ok (.aload_n 0, 1) := by decide +kernel
theorem dl_195 : decode code 195 = .ok (.iload_n 3, 1) := by decide +kernel
theorem dl_196 : decode code 196 = .ok (.iconst 1, 1) := by decide +kernel
theorem dl_197 : decode code 197 = .ok (.iadd, 1) := by decide +kernel
theorem dl_198 : decode code 198 = .ok (.iaload, 1) := by decide +kernel
theorem dl_199 : decode code 199 = .ok (.aload_n 0, 1) := by decide +kernel
theorem dl_200 : decode code 200 = .ok (.iload_n 3, 1) := by decide +kernel
theorem dl_201 : decode code 201 = .ok (.iconst 2, 1) := by decide +kernel
theorem dl_202 : decode code 202 = .ok (.iadd, 1) := by decide +kernel
theorem dl_203 : decode code 203 = .ok (.iaload, 1) := by decide +kernel
theorem dl_204 : decode code 204 = .ok (.aload_n 0, 1) := by decide +kernel
theorem dl_205 : decode code 205 = .ok (.iload_n 3, 1) := by decide +kernel
theorem dl_206 : decode code 206 = .ok (.iconst 3, 1) := by decide +kernel
theorem dl_207 : decode code 207 = .ok (.iadd, 1) := by decide +kernel
theorem dl_208 : decode code 208 = .ok (.iaload, 1) := by decide +kernel
theorem dl_209 : decode code 209 = .ok (.invokevirtual 26, 3) := by decide +kernel
theorem dl_212 : decode code 212 = .ok (.if_icmp .eq 411, 3) := by decide +kernel
theorem dl_215 : decode code 215 = .ok (.iconst 0, 1) := by decide +kernel
theorem dl_216 : decode code 216 = .ok (.ireturn, 1) := by decide +kernel
theorem dl_217 : decode code 217 = .ok (.aload_n 1, 1) := by decide +kernel
theorem dl_218 : decode code 218 = .ok (.aload_n 0, 1) := by decide +kernel
theorem dl_219 : decode code 219 = .ok (.iload_n 3, 1) := by decide +kernel
theorem dl_220 : decode code 220 = .ok (.iconst 1, 1) := by decide +kernel
theorem dl_221 : decode code 221 = .ok (.iadd, 1) := by decide +kernel
theorem dl_222 : decode code 222 = .ok (.iaload, 1) := by decide +kernel
theorem dl_223 : decode code 223 = .ok (.aload_n 0, 1) := by decide +kernel
theorem dl_224 : decode code 224 = .ok (.iload_n 3, 1) := by decide +kernel
theorem dl_225 : decode code 225 = .ok (.iconst 2, 1) := by decide +kernel
theorem dl_226 : decode code 226 = .ok (.iadd, 1) := by decide +kernel
theorem dl_227 : decode code 227 = .ok (.iaload, 1) := by decide +kernel
theorem dl_228 : decode code 228 = .ok (.invokevirtual 27, 3) := by decide +kernel
theorem dl_231 : decode code 231 = .ok (.aload_n 2, 1) := by decide +kernel
theorem dl_232 : decode code 232 = .ok (.aload_n 0, 1) := by decide +kernel
theorem dl_233 : decode code 233 = .ok (.iload_n 3, 1) := by decide +kernel
theorem dl_234 : decode code 234 = .ok (.iconst 1, 1) := by decide +kernel
theorem dl_235 : decode code 235 = .ok (.iadd, 1) := by decide +kernel
theorem dl_236 : decode code 236 = .ok (.iaload, 1) := by decide +kernel
theorem dl_237 : decode code 237 = .ok (.aload_n 0, 1) := by decide +kernel
theorem dl_238 : decode code 238 = .ok (.iload_n 3, 1) := by decide +kernel
theorem dl_239 : decode code 239 = .ok (.iconst 2, 1) := by decide +kernel
theorem dl_240 : decode code 240 = .ok (.iadd, 1) := by decide +kernel
theorem dl_241 : decode code 241 = .ok (.iaload, 1) := by decide +kernel
theorem dl_242 : decode code 242 = .ok (.invokevirtual 31, 3) := by decide +kernel
theorem dl_245 : decode code 245 = .ok (.if_icmp .eq 378, 3) := by decide +kernel
theorem dl_248 : decode code 248 = .ok (.iconst 0, 1) := by decide +kernel
theorem dl_249 : decode code 249 = .ok (.ireturn, 1) := by decide +kernel
theorem dl_250 : decode code 250 = .ok (.aload_n 1, 1) := by decide +kernel
theorem dl_251 : decode code 251 = .ok (.aload_n 0, 1) := by decide +kernel
theorem dl_252 : decode code 252 = .ok (.iload_n 3, 1) := by decide +kernel
theorem dl_253 : decode code 253 = .ok (.iconst 1, 1) := by decide +kernel
theorem dl_254 : decode code 254 = .ok (.iadd, 1) := by decide +kernel
theorem dl_255 : decode code 255 = .ok (.iaload, 1) := by decide +kernel
theorem dl_256 : decode code 256 = .ok (.aload_n 0, 1) := by decide +kernel
theorem dl_257 : decode code 257 = .ok (.iload_n 3, 1) := by decide +kernel
theorem dl_258 : decode code 258 = .ok (.iconst 2, 1) := by decide +kernel
theorem dl_259 : decode code 259 = .ok (.iadd, 1) := by decide +kernel
theorem dl_260 : decode code 260 = .ok (.iaload, 1) := by decide +kernel
theorem dl_261 : decode code 261 = .ok (.invokevirtual 32, 3) := by decide +kernel
theorem dl_264 : decode code 264 = .ok (.aload_n 2, 1) := by decide +kernel
theorem dl_265 : decode code 265 = .ok (.aload_n 0, 1) := by decide +kernel
theorem dl_266 : decode code 266 = .ok (.iload_n 3, 1) := by decide +kernel
theorem dl_267 : decode code 267 = .ok (.iconst 1, 1) := by decide +kernel
theorem dl_268 : decode code 268 = .ok (.iadd, 1) := by decide +kernel
theorem dl_269 : decode code 269 = .ok (.iaload, 1) := by decide +kernel
theorem dl_270 : decode code 270 = .ok (.aload_n 0, 1) := by decide +kernel
theorem dl_271 : decode code 271 = .ok (.iload_n 3, 1) := by decide +kernel
theorem dl_272 : decode code 272 = .ok (.iconst 2, 1) := by decide +kernel
theorem dl_273 : decode code 273 = .ok (.iadd, 1) := by decide +kernel
theorem dl_274 : decode code 274 = .ok (.iaload, 1) := by decide +kernel
theorem dl_275 : decode code 275 = .ok (.invokevirtual 35, 3) := by decide +kernel
theorem dl_278 : decode code 278 = .ok (.if_icmp .eq 345, 3) := by decide +kernel
theorem dl_281 : decode code 281 = .ok (.iconst 0, 1) := by decide +kernel
theorem dl_282 : decode code 282 = .ok (.ireturn, 1) := by decide +kernel
theorem dl_283 : decode code 283 = .ok (.aload_n 1, 1) := by decide +kernel
theorem dl_284 : decode code 284 = .ok (.aload_n 0, 1) := by decide +kernel
theorem dl_285 : decode code 285 = .ok (.iload_n 3, 1) := by decide +kernel
theorem dl_286 : decode code 286 = .ok (.iconst 1, 1) := by decide +kernel
theorem dl_287 : decode code 287 = .ok (.iadd, 1) := by decide +kernel
theorem dl_288 : decode code 288 = .ok (.iaload, 1) := by decide +kernel
theorem dl_289 : decode code 289 = .ok (.aload_n 0, 1) := by decide +kernel
theorem dl_290 : decode code 290 = .ok (.iload_n 3, 1) := by decide +kernel
theorem dl_291 : decode code 291 = .ok (.iconst 2, 1) := by decide +kernel
theorem dl_292 : decode code 292 = .ok (.iadd, 1) := by decide +kernel
theorem dl_293 : decode code 293 = .ok (.iaload, 1) := by decide +kernel
theorem dl_294 : decode code 294 = .ok (.invokevirtual 36, 3) := by decide +kernel
theorem dl_297 : decode code 297 = .ok (.aload_n 2, 1) := by decide +kernel
theorem dl_298 : decode code 298 = .ok (.aload_n 0, 1) := by decide +kernel
theorem dl_299 : decode code 299 = .ok (.iload_n 3, 1) := by decide +kernel
theorem dl_300 : decode code 300 = .ok (.iconst 1, 1) := by decide +kernel
theorem dl_301 : decode code 301 = .ok (.iadd, 1) := by decide +kernel
theorem dl_302 : decode code 302 = .ok (.iaload, 1) := by decide +kernel
theorem dl_303 : decode code 303 = .ok (.aload_n 0, 1) := by decide +kernel
theorem dl_304 : decode code 304 = .ok (.iload_n 3, 1) := by decide +kernel
theorem dl_305 : decode code 305 = .ok (.iconst 2, 1) := by decide +kernel
theorem dl_306 : decode code 306 = .ok (.iadd, 1) := by decide +kernel
theorem dl_307 : decode code 307 = .ok (.iaload, 1) := by decide +kernel
theorem dl_308 : decode code 308 = .ok (.invokevirtual 39, 3) := by decide +kernel
theorem dl_311 : decode code 311 = .ok (.if_icmp .eq 312, 3) := by decide +kernel
theorem dl_314 : decode code 314 = .ok (.iconst 0, 1) := by decide +kernel
theorem dl_315 : decode code 315 = .ok (.ireturn, 1) := by decide +kernel
theorem dl_316 : decode code 316 = .ok (.aload_n 1, 1) := by decide +kernel
theorem dl_317 : decode code 317 = .ok (.aload_n 0, 1) := by decide +kernel
theorem dl_318 : decode code 318 = .ok (.iload_n 3, 1) := by decide +kernel
theorem dl_319 : decode code 319 = .ok (.iconst 1, 1) := by decide +kernel
theorem dl_320 : decode code 320 = .ok (.iadd, 1) := by decide +kernel
theorem dl_321 : decode code 321 = .ok (.iaload, 1) := by decide +kernel
theorem dl_322 : decode code 322 = .ok (.aload_n 0, 1) := by decide +kernel
theorem dl_323 : decode code 323 = .ok (.iload_n 3, 1) := by decide +kernel
theorem dl_324 : decode code 324 = .ok (.iconst 2, 1) := by decide +kernel
theorem dl_325 : decode code 325 = .ok (.iadd, 1) := by decide +kernel
theorem dl_326 : decode code 326 = .ok (.iaload, 1) := by decide +kernel
theorem dl_327 : decode code 327 = .ok (.aload_n 0, 1) := by decide +kernel
theorem dl_328 : decode code 328 = .ok (.iload_n 3, 1) := by decide +kernel
theorem dl_329 : decode code 329 = .ok (.iconst 3, 1) := by decide +kernel
theorem dl_330 : decode code 330 = .ok (.iadd, 1) := by decide +kernel
theorem dl_331 : decode code 331 = .ok (.iaload, 1) := by decide +kernel
theorem dl_332 : decode code 332 = .ok (.invokevirtual 40, 3) := by decide +kernel
theorem dl_335 : decode code 335 = .ok (.aload_n 2, 1) := by decide +kernel
theorem dl_336 : decode code 336 = .ok (.aload_n 0, 1) := by decide +kernel
theorem dl_337 : decode code 337 = .ok (.iload_n 3, 1) := by decide +kernel
theorem dl_338 : decode code 338 = .ok (.iconst 1, 1) := by decide +kernel
theorem dl_339 : decode code 339 = .ok (.iadd, 1) := by decide +kernel
theorem dl_340 : decode code 340 = .ok (.iaload, 1) := by decide +kernel
theorem dl_341 : decode code 341 = .ok (.aload_n 0, 1) := by decide +kernel
theorem dl_342 : decode code 342 = .ok (.iload_n 3, 1) := by decide +kernel
theorem dl_343 : decode code 343 = .ok (.iconst 2, 1) := by decide +kernel
theorem dl_344 : decode code 344 = .ok (.iadd, 1) := by decide +kernel
theorem dl_345 : decode code 345 = .ok (.iaload, 1) := by decide +kernel
theorem dl_346 : decode code 346 = .ok (.aload_n 0, 1) := by decide +kernel
theorem dl_347 : decode code 347 = .ok (.iload_n 3, 1) := by decide +kernel
theorem dl_348 : decode code 348 = .ok (.iconst 3, 1) := by decide +kernel
theorem dl_349 : decode code 349 = .ok (.iadd, 1) := by decide +kernel
theorem dl_350 : decode code 350 = .ok (.iaload, 1) := by decide +kernel
theorem dl_351 : decode code 351 = .ok (.invokevirtual 43, 3) := by decide +kernel
theorem dl_354 : decode code 354 = .ok (.if_icmp .eq 269, 3) := by decide +kernel
theorem dl_357 : decode code 357 = .ok (.iconst 0, 1) := by decide +kernel
theorem dl_358 : decode code 358 = .ok (.ireturn, 1) := by decide +kernel
theorem dl_359 : decode code 359 = .ok (.aload_n 1, 1) := by decide +kernel
theorem dl_360 : decode code 360 = .ok (.aload_n 0, 1) := by decide +kernel
theorem dl_361 : decode code 361 = .ok (.iload_n 3, 1) := by decide +kernel
theorem dl_362 : decode code 362 = .ok (.iconst 1, 1) := by decide +kernel
theorem dl_363 : decode code 363 = .ok (.iadd, 1) := by decide +kernel
theorem dl_364 : decode code 364 = .ok (.iaload, 1) := by decide +kernel
theorem dl_365 : decode code 365 = .ok (.invokevirtual 44, 3) := by decide +kernel
theorem dl_368 : decode code 368 = .ok (.aload_n 2, 1) := by decide +kernel
theorem dl_369 : decode code 369 = .ok (.aload_n 0, 1) := by decide +kernel
theorem dl_370 : decode code 370 = .ok (.iload_n 3, 1) := by decide +kernel
theorem dl_371 : decode code 371 = .ok (.iconst 1, 1) := by decide +kernel
theorem dl_372 : decode code 372 = .ok (.iadd, 1) := by decide +kernel
theorem dl_373 : decode code 373 = .ok (.iaload, 1) := by decide +kernel
theorem dl_374 : decode code 374 = .ok (.invokevirtual 48, 3) := by decide +kernel
theorem dl_377 : decode code 377 = .ok (.if_icmp .eq 246, 3) := by decide +kernel
theorem dl_380 : decode code 380 = .ok (.iconst 0, 1) := by decide +kernel
theorem dl_381 : decode code 381 = .ok (.ireturn, 1) := by decide +kernel
theorem dl_382 : decode code 382 = .ok (.aload_n 1, 1) := by decide +kernel
theorem dl_383 : decode code 383 = .ok (.aload_n 0, 1) := by decide +kernel
theorem dl_384 : decode code 384 = .ok (.iload_n 3, 1) := by decide +kernel
theorem dl_385 : decode code 385 = .ok (.iconst 1, 1) := by decide +kernel
theorem dl_386 : decode code 386 = .ok (.iadd, 1) := by decide +kernel
theorem dl_387 : decode code 387 = .ok (.iaload, 1) := by decide +kernel
theorem dl_388 : decode code 388 = .ok (.aload_n 0, 1) := by decide +kernel
theorem dl_389 : decode code 389 = .ok (.iload_n 3, 1) := by decide +kernel
theorem dl_390 : decode code 390 = .ok (.iconst 2, 1) := by decide +kernel
theorem dl_391 : decode code 391 = .ok (.iadd, 1) := by decide +kernel
theorem dl_392 : decode code 392 = .ok (.iaload, 1) := by decide +kernel
theorem dl_393 : decode code 393 = .ok (.invokevirtual 49, 3) := by decide +kernel
theorem dl_396 : decode code 396 = .ok (.aload_n 2, 1) := by decide +kernel
theorem dl_397 : decode code 397 = .ok (.aload_n 0, 1) := by decide +kernel
theorem dl_398 : decode code 398 = .ok (.iload_n 3, 1) := by decide +kernel
theorem dl_399 : decode code 399 = .ok (.iconst 1, 1) := by decide +kernel
theorem dl_400 : decode code 400 = .ok (.iadd, 1) := by decide +kernel
theorem dl_401 : decode code 401 = .ok (.iaload, 1) := by decide +kernel
theorem dl_402 : decode code 402 = .ok (.aload_n 0, 1) := by decide +kernel
theorem dl_403 : decode code 403 = .ok (.iload_n 3, 1) := by decide +kernel
theorem dl_404 : decode code 404 = .ok (.iconst 2, 1) := by decide +kernel
theorem dl_405 : decode code 405 = .ok (.iadd, 1) := by decide +kernel
theorem dl_406 : decode code 406 = .ok (.iaload, 1) := by decide +kernel
theorem dl_407 : decode code 407 = .ok (.invokevirtual 52, 3) := by decide +kernel
theorem dl_410 : decode code 410 = .ok (.if_icmp .eq 213, 3) := by decide +kernel
theorem dl_413 : decode code 413 = .ok (.iconst 0, 1) := by decide +kernel
theorem dl_414 : decode code 414 = .ok (.ireturn, 1) := by decide +kernel
theorem dl_415 : decode code 415 = .ok (.aload_n 1, 1) := by decide +kernel
theorem dl_416 : decode code 416 = .ok (.aload_n 0, 1) := by decide +kernel
theorem dl_417 : decode code 417 = .ok (.iload_n 3, 1) := by decide +kernel
theorem dl_418 : decode code 418 = .ok (.iconst 1, 1) := by decide +kernel
theorem dl_419 : decode code 419 = .ok (.iadd, 1) := by decide +kernel
theorem dl_420 : decode code 420 = .ok (.iaload, 1) := by decide +kernel
theorem dl_421 : decode code 421 = .ok (.aload_n 0, 1) := by decide +kernel
theorem dl_422 : decode code 422 = .ok (.iload_n 3, 1) := by decide +kernel
theorem dl_423 : decode code 423 = .ok (.iconst 2, 1) := by decide +kernel
theorem dl_424 : decode code 424 = .ok (.iadd, 1) := by decide +kernel
theorem dl_425 : decode code 425 = .ok (.iaload, 1) := by decide +kernel
theorem dl_426 : decode code 426 = .ok (.aload_n 0, 1) := by decide +kernel
theorem dl_427 : decode code 427 = .ok (.iload_n 3, 1) := by decide +kernel
theorem dl_428 : decode code 428 = .ok (.iconst 3, 1) := by decide +kernel
theorem dl_429 : decode code 429 = .ok (.iadd, 1) := by decide +kernel
theorem dl_430 : decode code 430 = .ok (.iaload, 1) := by decide +kernel
theorem dl_431 : decode code 431 = .ok (.invokevirtual 53, 3) := by decide +kernel
theorem dl_434 : decode code 434 = .ok (.aload_n 2, 1) := by decide +kernel
theorem dl_435 : decode code 435 = .ok (.aload_n 0, 1) := by decide +kernel
theorem dl_436 : decode code 436 = .ok (.iload_n 3, 1) := by decide +kernel
theorem dl_437 : decode code 437 = .ok (.iconst 1, 1) := by decide +kernel
theorem dl_438 : decode code 438 = .ok (.iadd, 1) := by decide +kernel
theorem dl_439 : decode code 439 = .ok (.iaload, 1) := by decide +kernel
theorem dl_440 : decode code 440 = .ok (.aload_n 0, 1) := by decide +kernel
theorem dl_441 : decode code 441 = .ok (.iload_n 3, 1) := by decide +kernel
theorem dl_442 : decode code 442 = .ok (.iconst 2, 1) := by decide +kernel
theorem dl_443 : decode code 443 = .ok (.iadd, 1) := by decide +kernel
theorem dl_444 : decode code 444 = .ok (.iaload, 1) := by decide +kernel
theorem dl_445 : decode code 445 = .ok (.aload_n 0, 1) := by decide +kernel
theorem dl_446 : decode code 446 = .ok (.iload_n 3, 1) := by decide +kernel
theorem dl_447 : decode code 447 = .ok (.iconst 3, 1) := by decide +kernel
theorem dl_448 : decode code 448 = .ok (.iadd, 1) := by decide +kernel
theorem dl_449 : decode code 449 = .ok (.iaload, 1) := by decide +kernel
theorem dl_450 : decode code 450 = .ok (.invokevirtual 56, 3) := by decide +kernel
theorem dl_453 : decode code 453 = .ok (.if_icmp .eq 170, 3) := by decide +kernel
theorem dl_456 : decode code 456 = .ok (.iconst 0, 1) := by decide +kernel
theorem dl_457 : decode code 457 = .ok (.ireturn, 1) := by decide +kernel
theorem dl_458 : decode code 458 = .ok (.aload_n 1, 1) := by decide +kernel
theorem dl_459 : decode code 459 = .ok (.aload_n 0, 1) := by decide +kernel
theorem dl_460 : decode code 460 = .ok (.iload_n 3, 1) := by decide +kernel
theorem dl_461 : decode code 461 = .ok (.iconst 1, 1) := by decide +kernel
theorem dl_462 : decode code 462 = .ok (.iadd, 1) := by decide +kernel
theorem dl_463 : decode code 463 = .ok (.iaload, 1) := by decide +kernel
theorem dl_464 : decode code 464 = .ok (.invokevirtual 57, 3) := by decide +kernel
theorem dl_467 : decode code 467 = .ok (.aload_n 2, 1) := by decide +kernel
theorem dl_468 : decode code 468 = .ok (.aload_n 0, 1) := by decide +kernel
theorem dl_469 : decode code 469 = .ok (.iload_n 3, 1) := by decide +kernel
theorem dl_470 : decode code 470 = .ok (.iconst 1, 1) := by decide +kernel
theorem dl_471 : decode code 471 = .ok (.iadd, 1) := by decide +kernel
theorem dl_472 : decode code 472 = .ok (.iaload, 1) := by decide +kernel
theorem dl_473 : decode code 473 = .ok (.invokevirtual 60, 3) := by decide +kernel
theorem dl_476 : decode code 476 = .ok (.if_icmp .eq 147, 3) := by decide +kernel
theorem dl_479 : decode code 479 = .ok (.iconst 0, 1) := by decide +kernel
theorem dl_480 : decode code 480 = .ok (.ireturn, 1) := by decide +kernel
theorem dl_481 : decode code 481 = .ok (.aload_n 1, 1) := by decide +kernel
theorem dl_482 : decode code 482 = .ok (.aload_n 0, 1) := by decide +kernel
theorem dl_483 : decode code 483 = .ok (.iload_n 3, 1) := by decide +kernel
theorem dl_484 : decode code 484 = .ok (.iconst 1, 1) := by decide +kernel
theorem dl_485 : decode code 485 = .ok (.iadd, 1) := by decide +kernel
theorem dl_486 : decode code 486 = .ok (.iaload, 1) := by decide +kernel
theorem dl_487 : decode code 487 = .ok (.invokevirtual 61, 3) := by decide +kernel
theorem dl_490 : decode code 490 = .ok (.aload_n 2, 1) := by decide +kernel
theorem dl_491 : decode code 491 = .ok (.aload_n 0, 1) := by decide +kernel
theorem dl_492 : decode code 492 = .ok (.iload_n 3, 1) := by decide +kernel
theorem dl_493 : decode code 493 = .ok (.iconst 1, 1) := by decide +kernel
theorem dl_494 : decode code 494 = .ok (.iadd, 1) := by decide +kernel
theorem dl_495 : decode code 495 = .ok (.iaload, 1) := by decide +kernel
theorem dl_496 : decode code 496 = .ok (.invokevirtual 64, 3) := by decide +kernel
theorem dl_499 : decode code 499 = .ok (.if_icmp .eq 124, 3) := by decide +kernel
theorem dl_502 : decode code 502 = .ok (.iconst 0, 1) := by decide +kernel
theorem dl_503 : decode code 503 = .ok (.ireturn, 1) := by decide +kernel
theorem dl_504 : decode code 504 = .ok (.aload_n 1, 1) := by decide +kernel
theorem dl_505 : decode code 505 = .ok (.aload_n 0, 1) := by decide +kernel
theorem dl_506 : decode code 506 = .ok (.iload_n 3, 1) := by decide +kernel
theorem dl_507 : decode code 507 = .ok (.iconst 1, 1) := by decide +kernel
theorem dl_508 : decode code 508 = .ok (.iadd, 1) := by decide +kernel
theorem dl_509 : decode code 509 = .ok (.iaload, 1) := by decide +kernel
theorem dl_510 : decode code 510 = .ok (.aload_n 0, 1) := by decide +kernel
theorem dl_511 : decode code 511 = .ok (.iload_n 3, 1) := by decide +kernel
theorem dl_512 : decode code 512 = .ok (.iconst 2, 1) := by decide +kernel
theorem dl_513 : decode code 513 = .ok (.iadd, 1) := by decide +kernel
theorem dl_514 : decode code 514 = .ok (.iaload, 1) := by decide +kernel
theorem dl_515 : decode code 515 = .ok (.aload_n 0, 1) := by decide +kernel
theorem dl_516 : decode code 516 = .ok (.iload_n 3, 1) := by decide +kernel
theorem dl_517 : decode code 517 = .ok (.iconst 3, 1) := by decide +kernel
theorem dl_518 : decode code 518 = .ok (.iadd, 1) := by decide +kernel
theorem dl_519 : decode code 519 = .ok (.iaload, 1) := by decide +kernel
theorem dl_520 : decode code 520 = .ok (.invokevirtual 65, 3) := by decide +kernel
theorem dl_523 : decode code 523 = .ok (.aload_n 2, 1) := by decide +kernel
theorem dl_524 : decode code 524 = .ok (.aload_n 0, 1) := by decide +kernel
theorem dl_525 : decode code 525 = .ok (.iload_n 3, 1) := by decide +kernel
theorem dl_526 : decode code 526 = .ok (.iconst 1, 1) := by decide +kernel
theorem dl_527 : decode code 527 = .ok (.iadd, 1) := by decide +kernel
theorem dl_528 : decode code 528 = .ok (.iaload, 1) := by decide +kernel
theorem dl_529 : decode code 529 = .ok (.aload_n 0, 1) := by decide +kernel
theorem dl_530 : decode code 530 = .ok (.iload_n 3, 1) := by decide +kernel
theorem dl_531 : decode code 531 = .ok (.iconst 2, 1) := by decide +kernel
theorem dl_532 : decode code 532 = .ok (.iadd, 1) := by decide +kernel
theorem dl_533 : decode code 533 = .ok (.iaload, 1) := by decide +kernel
theorem dl_534 : decode code 534 = .ok (.aload_n 0, 1) := by decide +kernel
theorem dl_535 : decode code 535 = .ok (.iload_n 3, 1) := by decide +kernel
theorem dl_536 : decode code 536 = .ok (.iconst 3, 1) := by decide +kernel
theorem dl_537 : decode code 537 = .ok (.iadd, 1) := by decide +kernel
theorem dl_538 : decode code 538 = .ok (.iaload, 1) := by decide +kernel
theorem dl_539 : decode code 539 = .ok (.invokevirtual 69, 3) := by decide +kernel
theorem dl_542 : decode code 542 = .ok (.if_icmp .eq 81, 3) := by decide +kernel
theorem dl_545 : decode code 545 = .ok (.iconst 0, 1) := by decide +kernel
theorem dl_546 : decode code 546 = .ok (.ireturn, 1) := by decide +kernel
theorem dl_547 : decode code 547 = .ok (.aload_n 1, 1) := by decide +kernel
theorem dl_548 : decode code 548 = .ok (.aload_n 0, 1) := by decide +kernel
theorem dl_549 : decode code 549 = .ok (.iload_n 3, 1) := by decide +kernel
theorem dl_550 : decode code 550 = .ok (.iconst 1, 1) := by decide +kernel
theorem dl_551 : decode code 551 = .ok (.iadd, 1) := by decide +kernel
theorem dl_552 : decode code 552 = .ok (.iaload, 1) := by decide +kernel
theorem dl_553 : decode code 553 = .ok (.aload_n 0, 1) := by decide +kernel
theorem dl_554 : decode code 554 = .ok (.iload_n 3, 1) := by decide +kernel
theorem dl_555 : decode code 555 = .ok (.iconst 2, 1) := by decide +kernel
theorem dl_556 : decode code 556 = .ok (.iadd, 1) := by decide +kernel
theorem dl_557 : decode code 557 = .ok (.iaload, 1) := by decide +kernel
theorem dl_558 : decode code 558 = .ok (.aload_n 0, 1) := by decide +kernel
theorem dl_559 : decode code 559 = .ok (.iload_n 3, 1) := by decide +kernel
theorem dl_560 : decode code 560 = .ok (.iconst 3, 1) := by decide +kernel
theorem dl_561 : decode code 561 = .ok (.iadd, 1) := by decide +kernel
theorem dl_562 : decode code 562 = .ok (.iaload, 1) := by decide +kernel
theorem dl_563 : decode code 563 = .ok (.invokevirtual 70, 3) := by decide +kernel
theorem dl_566 : decode code 566 = .ok (.aload_n 2, 1) := by decide +kernel
theorem dl_567 : decode code 567 = .ok (.aload_n 0, 1) := by decide +kernel
theorem dl_568 : decode code 568 = .ok (.iload_n 3, 1) := by decide +kernel
theorem dl_569 : decode code 569 = .ok (.iconst 1, 1) := by decide +kernel
theorem dl_570 : decode code 570 = .ok (.iadd, 1) := by decide +kernel
theorem dl_571 : decode code 571 = .ok (.iaload, 1) := by decide +kernel
theorem dl_572 : decode code 572 = .ok (.aload_n 0, 1) := by decide +kernel
theorem dl_573 : decode code 573 = .ok (.iload_n 3, 1) := by decide +kernel
theorem dl_574 : decode code 574 = .ok (.iconst 2, 1) := by decide +kernel
theorem dl_575 : decode code 575 = .ok (.iadd, 1) := by decide +kernel
theorem dl_576 : decode code 576 = .ok (.iaload, 1) := by decide +kernel
theorem dl_577 : decode code 577 = .ok (.aload_n 0, 1) := by decide +kernel
theorem dl_578 : decode code 578 = .ok (.iload_n 3, 1) := by decide +kernel
theorem dl_579 : decode code 579 = .ok (.iconst 3, 1) := by decide +kernel
theorem dl_580 : decode code 580 = .ok (.iadd, 1) := by decide +kernel
theorem dl_581 : decode code 581 = .ok (.iaload, 1) := by decide +kernel
theorem dl_582 : decode code 582 = .ok (.invokevirtual 73, 3) := by decide +kernel
theorem dl_585 : decode code 585 = .ok (.if_icmp .eq 38, 3) := by decide +kernel
theorem dl_588 : decode code 588 = .ok (.iconst 0, 1) := by decide +kernel
theorem dl_589 : decode code 589 = .ok (.ireturn, 1) := by decide +kernel
theorem dl_590 : decode code 590 = .ok (.aload_n 1, 1) := by decide +kernel
theorem dl_591 : decode code 591 = .ok (.aload_n 0, 1) := by decide +kernel
theorem dl_592 : decode code 592 = .ok (.iload_n 3, 1) := by decide +kernel
theorem dl_593 : decode code 593 = .ok (.iconst 1, 1) := by decide +kernel
theorem dl_594 : decode code 594 = .ok (.iadd, 1) := by decide +kernel
theorem dl_595 : decode code 595 = .ok (.iaload, 1) := by decide +kernel
theorem dl_596 : decode code 596 = .ok (.aload_n 0, 1) := by decide +kernel
theorem dl_597 : decode code 597 = .ok (.iload_n 3, 1) := by decide +kernel
theorem dl_598 : decode code 598 = .ok (.iconst 2, 1) := by decide +kernel
theorem dl_599 : decode code 599 = .ok (.iadd, 1) := by decide +kernel
theorem dl_600 : decode code 600 = .ok (.iaload, 1) := by decide +kernel
theorem dl_601 : decode code 601 = .ok (.invokevirtual 74, 3) := by decide +kernel
theorem dl_604 : decode code 604 = .ok (.aload_n 2, 1) := by decide +kernel
theorem dl_605 : decode code 605 = .ok (.aload_n 0, 1) := by decide +kernel
theorem dl_606 : decode code 606 = .ok (.iload_n 3, 1) := by decide +kernel
theorem dl_607 : decode code 607 = .ok (.iconst 1, 1) := by decide +kernel
theorem dl_608 : decode code 608 = .ok (.iadd, 1) := by decide +kernel
theorem dl_609 : decode code 609 = .ok (.iaload, 1) := by decide +kernel
theorem dl_610 : decode code 610 = .ok (.aload_n 0, 1) := by decide +kernel
theorem dl_611 : decode code 611 = .ok (.iload_n 3, 1) := by decide +kernel
theorem dl_612 : decode code 612 = .ok (.iconst 2, 1) := by decide +kernel
theorem dl_613 : decode code 613 = .ok (.iadd, 1) := by decide +kernel
theorem dl_614 : decode code 614 = .ok (.iaload, 1) := by decide +kernel
theorem dl_615 : decode code 615 = .ok (.invokevirtual 77, 3) := by decide +kernel
theorem dl_618 : decode code 618 = .ok (.if_icmp .eq 5, 3) := by decide +kernel
theorem dl_621 : decode code 621 = .ok (.iconst 0, 1) := by decide +kernel
theorem dl_622 : decode code 622 = .ok (.ireturn, 1) := by decide +kernel
theorem dl_623 : decode code 623 = .ok (.iinc 3 4, 3) := by decide +kernel
theorem dl_626 : decode code 626 = .ok (.goto (-608), 3) := by decide +kernel
theorem dl_629 : decode code 629 = .ok (.iconst 1, 1) := by decide +kernel
theorem dl_630 : decode code 630 = .ok (.ireturn, 1) := by decide +kernel
section LG
def lg_G (p : Program) (l : Launch) (e : Env) (s : State) (m : MethodId) (below : List Frame) (meth : Method) (c : Code) (b : Nat) (D : va_G) (tA : Nat → ClassId) (ad : Nat → Nat) (A : Nat → Prop) (CE SL : Nat) (pc : Nat) (i : Int32) (st : List Value) (v : sv_T) : Prop :=
  ∀ (H : Heap) (locs : List Loc) (cs : Array Slot), fw_I D tA A s ad sv_n (sv_h v) H locs → lv_has cs 4 [(0, .ref b), (1, .ref (ad 0)), (2, .ref (ad 75)), (3, .int i)] → W p l e room_1 s m #[Value.ref b] below meth c H locs CE SL (lw_Z below #[Value.ref b] s) (F0 m pc cs (st.map (fw_v ad)))
variable {p : Program} {l : Launch} {e : Env} {s : State} {m : MethodId} {below : List Frame} {meth : Method} {c : Code} {b : Nat} {D : va_G} {tA : Nat → ClassId} {ad : Nat → Nat} {A : Nat → Prop} {CE SL : Nat} {i : Int32} {st : List Value} {v : sv_T} {pc L : Nat} {xs : Nat → Int32}
/-- the script as the law's frame has it -/
def lw_S (s : State) (A : Nat → Prop) (b L : Nat) (xs : Nat → Int32) : Prop := va_X b L xs s s.heap ∧ b < s.heap.size ∧ ¬ A b
theorem lg_x (C : lw_C p s m #[Value.ref b] meth c) (hd : decode code pc = .ok (.aload_n 1, 1)) (k : lg_G p l e s m below meth c b D tA ad A CE SL (pc + 1) i (.ref 0 :: st) v) : lg_G p l e s m below meth c b D tA ad A CE SL pc i st v := fun H locs cs I h => lv_aload_n C.1 C.2.1 hd rfl (h.2.2 (1, .ref (ad 0)) (by simp)) (k H locs cs I h)
theorem lg_m (C : lw_C p s m #[Value.ref b] meth c) (hd : decode code pc = .ok (.aload_n 2, 1)) (k : lg_G p l e s m below meth c b D tA ad A CE SL (pc + 1) i (.ref 75 :: st) v) : lg_G p l e s m below meth c b D tA ad A CE SL pc i st v := fun H locs cs I h => lv_aload_n C.1 C.2.1 hd rfl (h.2.2 (2, .ref (ad 75)) (by simp)) (k H locs cs I h)
theorem lg_scr {z : Int} {y : Int32} (C : lw_C p s m #[Value.ref b] meth c) (S : lw_S s A b L xs) (h0 : decode code pc = .ok (.aload_n 0, 1)) (h1 : decode code (pc + 1) = .ok (.iload_n 3, 1)) (h2 : decode code (pc + 2) = .ok (.iconst z, 1)) (h3 : decode code (pc + 3) = .ok (.iadd, 1)) (h4 : decode code (pc + 4) = .ok (.iaload, 1)) (hz : Int32.ofInt z = y) (hin : vp_in (i + y) L)
    (k : lg_G p l e s m below meth c b D tA ad A CE SL (pc + 5) i (.int (xs (i + y).toNatClampNeg) :: st) v) : lg_G p l e s m below meth c b D tA ad A CE SL pc i st v := fun H locs cs I h => by
  refine lv_aload_n C.1 C.2.1 h0 rfl (h.2.2 (0, .ref b) (by simp)) ?_
  refine lv_iload_n C.1 C.2.1 h1 rfl (h.2.2 (3, .int i) (by simp)) ?_
  refine lv_iconst C.1 C.2.1 h2 hz ?_
  refine lv_iadd C.1 C.2.1 h3 ?_
  exact va_sld C.1 C.2.1 S.1 S.2.1 S.2.2 I.2.2.2.2.1 hin h4 (k H locs cs I h)
theorem lg_call {d j' idx nA o ci : Nat} {q : vw_C} {as stk : List Value} {X : Option (Int32 × sv_T)} {r : Int32} {w : sv_T} (C : lw_C p s m #[Value.ref b] meth c) (hce : CE ≤ 600000) (hsl : SL ≤ 7302250) (hd : decode code pc = .ok (.invokevirtual idx, 3)) (hcal : fw_cal j' nA) (hlk : Cond.methodLink "WireHostsLaw" idx (tb_m j').1 ∈ tb_ws) (hin : Cond.instanceMethod (tb_m j').1 ∈ tb_ws) (hse : Cond.selects (tb_m j').1.cls (tb_m j').1 (tb_m j').1 ∈ tb_ws) (ho : sv_isO (sg o) ci = true) (hc' : tb_cl[ci]? = some q) (hq : q.1 = (tb_m j').1.cls) (hn : as.length = nA) (hst : st.length ≤ 8) (hstk : stk = as.reverse ++ .ref o :: st) (S : ∀ u ∈ stk, fw_ok sv_n u) (hdp : d ≤ 15) (hdl : 8 + ((tb_m j').2.2.1 + 11) + 32 * d ≤ 664)
    (hS : sv_Cl d j' (.ref o :: as) v X sv_Zi) (hX : X = some (r, w)) (k : lg_G p l e s m below meth c b D tA ad A CE SL (pc + 3) i (.int r :: st) w) : lg_G p l e s m below meth c b D tA ad A CE SL pc i stk v := fun H locs cs I h => by
  obtain ⟨fs, hs⟩ := sv_isO_of ho
  refine lw_callV (a' := 0) (b' := 0) C I h.1 hcal hlk hin hse (sv_h_obj hs) hc' hq hn hst hstk S hd hdp hdl hce hsl (hS (fun r' u => r' = some (.int r) ∧ u = w) (r, w) hX ⟨rfl, rfl⟩) (fun r' n' h' ad' H1 locs1 g1 g2 g3 g4 g5 => ?_)
  obtain ⟨u, rfl, rfl, rfl, rfl⟩ := g1
  exact k H1 locs1 cs (g5.ext g3) h
theorem lg_eq {r : Int32} {off : Int} (tg : Nat) (C : lw_C p s m #[Value.ref b] meth c) (hd : decode code pc = .ok (.if_icmp .eq off, 3)) (ht : (pc : Int) + off = (tg : Int)) (k : lg_G p l e s m below meth c b D tA ad A CE SL tg i [] v) : lg_G p l e s m below meth c b D tA ad A CE SL pc i [.int r, .int r] v := fun H locs cs I h => by
  exact lv_icmp_eq C.1 C.2.1 hd ht (fun _ => k H locs cs I h) (fun g => absurd rfl g)
theorem lg_next (C : lw_C p s m #[Value.ref b] meth c) (k : lg_G p l e s m below meth c b D tA ad A CE SL 18 (i + 4) [] v) : lg_G p l e s m below meth c b D tA ad A CE SL 623 i [] v := fun H locs cs I h => by
  refine lv_iinc C.1 C.2.1 dl_623 h (k := 3) rfl (v := i + 4) rfl (by decide) rfl (fun cs' hh => ?_)
  refine lv_goto C.1 C.2.1 (tgt := 18) dl_626 rfl ?_
  refine k H locs cs' I ⟨hh.1, hh.2.1, fun q hq => hh.2.2 q ?_⟩
  simp only [List.mem_cons, List.not_mem_nil, or_false] at hq
  rcases hq with rfl | rfl | rfl | rfl <;> simp [Value.category]
end LG
section LC
variable {p : Program} {l : Launch} {e : Env} {s : State} {m : MethodId} {below : List Frame} {meth : Method} {c : Code} {b : Nat} {D : va_G} {tA : Nat → ClassId} {ad : Nat → Nat} {A : Nat → Prop} {CE SL : Nat} {i : Int32} {v : sv_T} {L : Nat} {xs : Nat → Int32}
theorem lg_ok2 {l : List Value} (h : l.all (fun u => match u with | .int _ => true | .ref k => decide (k < sv_n) | _ => false) = true) : ∀ u ∈ l, fw_ok sv_n u := fun u hu => by
  have h1 := List.all_eq_true.mp h u hu
  cases u with
  | int x => exact fw_ok_int _ x
  | ref k => exact fw_ok_ref (of_decide_eq_true h1)
  | _ => cases h1
theorem lg_c0 (C : lw_C p s m #[Value.ref b] meth c) (S : lw_S s A b L xs) (hce : CE ≤ 600000) (hsl : SL ≤ 7302250) (h1 : vp_in (i + 1) L) (h2 : vp_in (i + 2) L) {r : Int32} {v1 v2 : sv_T} (e1 : f_W_listen (xs (i + 1).toNatClampNeg) (xs (i + 2).toNatClampNeg) v = some (r, v1)) (e2 : f_M_listen (xs (i + 1).toNatClampNeg) (xs (i + 2).toNatClampNeg) v1 = some (r, v2)) (k : lg_G p l e s m below meth c b D tA ad A CE SL 623 i [] v2) : lg_G p l e s m below meth c b D tA ad A CE SL 108 i [] v := by
  refine lg_x C dl_108 ?_
  refine lg_scr (y := 1) C S dl_109 dl_110 dl_111 dl_112 dl_113 (by decide) h1 ?_
  refine lg_scr (y := 2) C S dl_114 dl_115 dl_116 dl_117 dl_118 (by decide) h2 ?_
  refine lg_call (d := 2) (as := [.int (xs (i + 1).toNatClampNeg), .int (xs (i + 2).toNatClampNeg)]) C hce hsl dl_119 fc_12 tw_330 tw_331 tw_332 so_0 rfl rfl rfl (Nat.le_of_ble_eq_true rfl) rfl (lg_ok2 rfl) (by decide) (Nat.le_of_ble_eq_true rfl) (by simpa using c_W_listen 0 (xs (i + 1).toNatClampNeg) (xs (i + 2).toNatClampNeg) v) e1 ?_
  refine lg_m C dl_122 ?_
  refine lg_scr (y := 1) C S dl_123 dl_124 dl_125 dl_126 dl_127 (by decide) h1 ?_
  refine lg_scr (y := 2) C S dl_128 dl_129 dl_130 dl_131 dl_132 (by decide) h2 ?_
  refine lg_call (d := 2) (as := [.int (xs (i + 1).toNatClampNeg), .int (xs (i + 2).toNatClampNeg)]) C hce hsl dl_133 fc_142 tw_1033 tw_1034 tw_1035 so_75 rfl rfl rfl (Nat.le_of_ble_eq_true rfl) rfl (lg_ok2 rfl) (by decide) (Nat.le_of_ble_eq_true rfl) (by simpa using c_M_listen 0 (xs (i + 1).toNatClampNeg) (xs (i + 2).toNatClampNeg) v1) e2 ?_
  exact lg_eq 623 C dl_136 rfl k
theorem lg_c1 (C : lw_C p s m #[Value.ref b] meth c) (S : lw_S s A b L xs) (hce : CE ≤ 600000) (hsl : SL ≤ 7302250) (h1 : vp_in (i + 1) L) (h2 : vp_in (i + 2) L) {r : Int32} {v1 v2 : sv_T} (e1 : f_W_connect (xs (i + 1).toNatClampNeg) (xs (i + 2).toNatClampNeg) v = some (r, v1)) (e2 : f_M_connect (xs (i + 1).toNatClampNeg) (xs (i + 2).toNatClampNeg) v1 = some (r, v2)) (k : lg_G p l e s m below meth c b D tA ad A CE SL 623 i [] v2) : lg_G p l e s m below meth c b D tA ad A CE SL 141 i [] v := by
  refine lg_x C dl_141 ?_
  refine lg_scr (y := 1) C S dl_142 dl_143 dl_144 dl_145 dl_146 (by decide) h1 ?_
  refine lg_scr (y := 2) C S dl_147 dl_148 dl_149 dl_150 dl_151 (by decide) h2 ?_
  refine lg_call (d := 7) (as := [.int (xs (i + 1).toNatClampNeg), .int (xs (i + 2).toNatClampNeg)]) C hce hsl dl_152 fc_17 tw_350 tw_351 tw_352 so_0 rfl rfl rfl (Nat.le_of_ble_eq_true rfl) rfl (lg_ok2 rfl) (by decide) (Nat.le_of_ble_eq_true rfl) (by simpa using c_W_connect 0 (xs (i + 1).toNatClampNeg) (xs (i + 2).toNatClampNeg) v) e1 ?_
  refine lg_m C dl_155 ?_
  refine lg_scr (y := 1) C S dl_156 dl_157 dl_158 dl_159 dl_160 (by decide) h1 ?_
  refine lg_scr (y := 2) C S dl_161 dl_162 dl_163 dl_164 dl_165 (by decide) h2 ?_
  refine lg_call (d := 7) (as := [.int (xs (i + 1).toNatClampNeg), .int (xs (i + 2).toNatClampNeg)]) C hce hsl dl_166 fc_146 tw_1047 tw_1048 tw_1049 so_75 rfl rfl rfl (Nat.le_of_ble_eq_true rfl) rfl (lg_ok2 rfl) (by decide) (Nat.le_of_ble_eq_true rfl) (by simpa using c_M_connect 0 (xs (i + 1).toNatClampNeg) (xs (i + 2).toNatClampNeg) v1) e2 ?_
  exact lg_eq 623 C dl_169 rfl k
theorem lg_c2 (C : lw_C p s m #[Value.ref b] meth c) (S : lw_S s A b L xs) (hce : CE ≤ 600000) (hsl : SL ≤ 7302250) (h1 : vp_in (i + 1) L) (h2 : vp_in (i + 2) L) (h3 : vp_in (i + 3) L) {r : Int32} {v1 v2 : sv_T} (e1 : f_W_send (xs (i + 1).toNatClampNeg) (xs (i + 2).toNatClampNeg) (xs (i + 3).toNatClampNeg) v = some (r, v1)) (e2 : f_M_send (xs (i + 1).toNatClampNeg) (xs (i + 2).toNatClampNeg) (xs (i + 3).toNatClampNeg) v1 = some (r, v2)) (k : lg_G p l e s m below meth c b D tA ad A CE SL 623 i [] v2) : lg_G p l e s m below meth c b D tA ad A CE SL 174 i [] v := by
  refine lg_x C dl_174 ?_
  refine lg_scr (y := 1) C S dl_175 dl_176 dl_177 dl_178 dl_179 (by decide) h1 ?_
  refine lg_scr (y := 2) C S dl_180 dl_181 dl_182 dl_183 dl_184 (by decide) h2 ?_
  refine lg_scr (y := 3) C S dl_185 dl_186 dl_187 dl_188 dl_189 (by decide) h3 ?_
  refine lg_call (d := 7) (as := [.int (xs (i + 1).toNatClampNeg), .int (xs (i + 2).toNatClampNeg), .int (xs (i + 3).toNatClampNeg)]) C hce hsl dl_190 fc_39 tw_446 tw_447 tw_448 so_0 rfl rfl rfl (Nat.le_of_ble_eq_true rfl) rfl (lg_ok2 rfl) (by decide) (Nat.le_of_ble_eq_true rfl) (by simpa using c_W_send 0 (xs (i + 1).toNatClampNeg) (xs (i + 2).toNatClampNeg) (xs (i + 3).toNatClampNeg) v) e1 ?_
  refine lg_m C dl_193 ?_
  refine lg_scr (y := 1) C S dl_194 dl_195 dl_196 dl_197 dl_198 (by decide) h1 ?_
  refine lg_scr (y := 2) C S dl_199 dl_200 dl_201 dl_202 dl_203 (by decide) h2 ?_
  refine lg_scr (y := 3) C S dl_204 dl_205 dl_206 dl_207 dl_208 (by decide) h3 ?_
  refine lg_call (d := 8) (as := [.int (xs (i + 1).toNatClampNeg), .int (xs (i + 2).toNatClampNeg), .int (xs (i + 3).toNatClampNeg)]) C hce hsl dl_209 fc_153 tw_1075 tw_1076 tw_1077 so_75 rfl rfl rfl (Nat.le_of_ble_eq_true rfl) rfl (lg_ok2 rfl) (by decide) (Nat.le_of_ble_eq_true rfl) (by simpa using c_M_send 0 (xs (i + 1).toNatClampNeg) (xs (i + 2).toNatClampNeg) (xs (i + 3).toNatClampNeg) v1) e2 ?_
  exact lg_eq 623 C dl_212 rfl k
theorem lg_c3 (C : lw_C p s m #[Value.ref b] meth c) (S : lw_S s A b L xs) (hce : CE ≤ 600000) (hsl : SL ≤ 7302250) (h1 : vp_in (i + 1) L) (h2 : vp_in (i + 2) L) {r : Int32} {v1 v2 : sv_T} (e1 : f_W_read (xs (i + 1).toNatClampNeg) (xs (i + 2).toNatClampNeg) v = some (r, v1)) (e2 : f_M_read (xs (i + 1).toNatClampNeg) (xs (i + 2).toNatClampNeg) v1 = some (r, v2)) (k : lg_G p l e s m below meth c b D tA ad A CE SL 623 i [] v2) : lg_G p l e s m below meth c b D tA ad A CE SL 217 i [] v := by
  refine lg_x C dl_217 ?_
  refine lg_scr (y := 1) C S dl_218 dl_219 dl_220 dl_221 dl_222 (by decide) h1 ?_
  refine lg_scr (y := 2) C S dl_223 dl_224 dl_225 dl_226 dl_227 (by decide) h2 ?_
  refine lg_call (d := 7) (as := [.int (xs (i + 1).toNatClampNeg), .int (xs (i + 2).toNatClampNeg)]) C hce hsl dl_228 fc_51 tw_496 tw_497 tw_498 so_0 rfl rfl rfl (Nat.le_of_ble_eq_true rfl) rfl (lg_ok2 rfl) (by decide) (Nat.le_of_ble_eq_true rfl) (by simpa using c_W_read 0 (xs (i + 1).toNatClampNeg) (xs (i + 2).toNatClampNeg) v) e1 ?_
  refine lg_m C dl_231 ?_
  refine lg_scr (y := 1) C S dl_232 dl_233 dl_234 dl_235 dl_236 (by decide) h1 ?_
  refine lg_scr (y := 2) C S dl_237 dl_238 dl_239 dl_240 dl_241 (by decide) h2 ?_
  refine lg_call (d := 7) (as := [.int (xs (i + 1).toNatClampNeg), .int (xs (i + 2).toNatClampNeg)]) C hce hsl dl_242 fc_157 tw_1090 tw_1091 tw_1092 so_75 rfl rfl rfl (Nat.le_of_ble_eq_true rfl) rfl (lg_ok2 rfl) (by decide) (Nat.le_of_ble_eq_true rfl) (by simpa using c_M_read 0 (xs (i + 1).toNatClampNeg) (xs (i + 2).toNatClampNeg) v1) e2 ?_
  exact lg_eq 623 C dl_245 rfl k
theorem lg_c4 (C : lw_C p s m #[Value.ref b] meth c) (S : lw_S s A b L xs) (hce : CE ≤ 600000) (hsl : SL ≤ 7302250) (h1 : vp_in (i + 1) L) (h2 : vp_in (i + 2) L) {r : Int32} {v1 v2 : sv_T} (e1 : f_W_close (xs (i + 1).toNatClampNeg) (xs (i + 2).toNatClampNeg) v = some (r, v1)) (e2 : f_M_close (xs (i + 1).toNatClampNeg) (xs (i + 2).toNatClampNeg) v1 = some (r, v2)) (k : lg_G p l e s m below meth c b D tA ad A CE SL 623 i [] v2) : lg_G p l e s m below meth c b D tA ad A CE SL 250 i [] v := by
  refine lg_x C dl_250 ?_
  refine lg_scr (y := 1) C S dl_251 dl_252 dl_253 dl_254 dl_255 (by decide) h1 ?_
  refine lg_scr (y := 2) C S dl_256 dl_257 dl_258 dl_259 dl_260 (by decide) h2 ?_
  refine lg_call (d := 7) (as := [.int (xs (i + 1).toNatClampNeg), .int (xs (i + 2).toNatClampNeg)]) C hce hsl dl_261 fc_56 tw_517 tw_518 tw_519 so_0 rfl rfl rfl (Nat.le_of_ble_eq_true rfl) rfl (lg_ok2 rfl) (by decide) (Nat.le_of_ble_eq_true rfl) (by simpa using c_W_close 0 (xs (i + 1).toNatClampNeg) (xs (i + 2).toNatClampNeg) v) e1 ?_
  refine lg_m C dl_264 ?_
  refine lg_scr (y := 1) C S dl_265 dl_266 dl_267 dl_268 dl_269 (by decide) h1 ?_
  refine lg_scr (y := 2) C S dl_270 dl_271 dl_272 dl_273 dl_274 (by decide) h2 ?_
  refine lg_call (d := 8) (as := [.int (xs (i + 1).toNatClampNeg), .int (xs (i + 2).toNatClampNeg)]) C hce hsl dl_275 fc_158 tw_1094 tw_1095 tw_1096 so_75 rfl rfl rfl (Nat.le_of_ble_eq_true rfl) rfl (lg_ok2 rfl) (by decide) (Nat.le_of_ble_eq_true rfl) (by simpa using c_M_close 0 (xs (i + 1).toNatClampNeg) (xs (i + 2).toNatClampNeg) v1) e2 ?_
  exact lg_eq 623 C dl_278 rfl k
theorem lg_c5 (C : lw_C p s m #[Value.ref b] meth c) (S : lw_S s A b L xs) (hce : CE ≤ 600000) (hsl : SL ≤ 7302250) (h1 : vp_in (i + 1) L) (h2 : vp_in (i + 2) L) {r : Int32} {v1 v2 : sv_T} (e1 : f_W_abort (xs (i + 1).toNatClampNeg) (xs (i + 2).toNatClampNeg) v = some (r, v1)) (e2 : f_M_abort (xs (i + 1).toNatClampNeg) (xs (i + 2).toNatClampNeg) v1 = some (r, v2)) (k : lg_G p l e s m below meth c b D tA ad A CE SL 623 i [] v2) : lg_G p l e s m below meth c b D tA ad A CE SL 283 i [] v := by
  refine lg_x C dl_283 ?_
  refine lg_scr (y := 1) C S dl_284 dl_285 dl_286 dl_287 dl_288 (by decide) h1 ?_
  refine lg_scr (y := 2) C S dl_289 dl_290 dl_291 dl_292 dl_293 (by decide) h2 ?_
  refine lg_call (d := 7) (as := [.int (xs (i + 1).toNatClampNeg), .int (xs (i + 2).toNatClampNeg)]) C hce hsl dl_294 fc_61 tw_537 tw_538 tw_539 so_0 rfl rfl rfl (Nat.le_of_ble_eq_true rfl) rfl (lg_ok2 rfl) (by decide) (Nat.le_of_ble_eq_true rfl) (by simpa using c_W_abort 0 (xs (i + 1).toNatClampNeg) (xs (i + 2).toNatClampNeg) v) e1 ?_
  refine lg_m C dl_297 ?_
  refine lg_scr (y := 1) C S dl_298 dl_299 dl_300 dl_301 dl_302 (by decide) h1 ?_
  refine lg_scr (y := 2) C S dl_303 dl_304 dl_305 dl_306 dl_307 (by decide) h2 ?_
  refine lg_call (d := 7) (as := [.int (xs (i + 1).toNatClampNeg), .int (xs (i + 2).toNatClampNeg)]) C hce hsl dl_308 fc_160 tw_1102 tw_1103 tw_1104 so_75 rfl rfl rfl (Nat.le_of_ble_eq_true rfl) rfl (lg_ok2 rfl) (by decide) (Nat.le_of_ble_eq_true rfl) (by simpa using c_M_abort 0 (xs (i + 1).toNatClampNeg) (xs (i + 2).toNatClampNeg) v1) e2 ?_
  exact lg_eq 623 C dl_311 rfl k
theorem lg_c6 (C : lw_C p s m #[Value.ref b] meth c) (S : lw_S s A b L xs) (hce : CE ≤ 600000) (hsl : SL ≤ 7302250) (h1 : vp_in (i + 1) L) (h2 : vp_in (i + 2) L) (h3 : vp_in (i + 3) L) {r : Int32} {v1 v2 : sv_T} (e1 : f_W_ping (xs (i + 1).toNatClampNeg) (xs (i + 2).toNatClampNeg) (xs (i + 3).toNatClampNeg) v = some (r, v1)) (e2 : f_M_ping (xs (i + 1).toNatClampNeg) (xs (i + 2).toNatClampNeg) (xs (i + 3).toNatClampNeg) v1 = some (r, v2)) (k : lg_G p l e s m below meth c b D tA ad A CE SL 623 i [] v2) : lg_G p l e s m below meth c b D tA ad A CE SL 316 i [] v := by
  refine lg_x C dl_316 ?_
  refine lg_scr (y := 1) C S dl_317 dl_318 dl_319 dl_320 dl_321 (by decide) h1 ?_
  refine lg_scr (y := 2) C S dl_322 dl_323 dl_324 dl_325 dl_326 (by decide) h2 ?_
  refine lg_scr (y := 3) C S dl_327 dl_328 dl_329 dl_330 dl_331 (by decide) h3 ?_
  refine lg_call (d := 7) (as := [.int (xs (i + 1).toNatClampNeg), .int (xs (i + 2).toNatClampNeg), .int (xs (i + 3).toNatClampNeg)]) C hce hsl dl_332 fc_63 tw_545 tw_546 tw_547 so_0 rfl rfl rfl (Nat.le_of_ble_eq_true rfl) rfl (lg_ok2 rfl) (by decide) (Nat.le_of_ble_eq_true rfl) (by simpa using c_W_ping 0 (xs (i + 1).toNatClampNeg) (xs (i + 2).toNatClampNeg) (xs (i + 3).toNatClampNeg) v) e1 ?_
  refine lg_m C dl_335 ?_
  refine lg_scr (y := 1) C S dl_336 dl_337 dl_338 dl_339 dl_340 (by decide) h1 ?_
  refine lg_scr (y := 2) C S dl_341 dl_342 dl_343 dl_344 dl_345 (by decide) h2 ?_
  refine lg_scr (y := 3) C S dl_346 dl_347 dl_348 dl_349 dl_350 (by decide) h3 ?_
  refine lg_call (d := 6) (as := [.int (xs (i + 1).toNatClampNeg), .int (xs (i + 2).toNatClampNeg), .int (xs (i + 3).toNatClampNeg)]) C hce hsl dl_351 fc_131 tw_988 tw_989 tw_990 so_75 rfl rfl rfl (Nat.le_of_ble_eq_true rfl) rfl (lg_ok2 rfl) (by decide) (Nat.le_of_ble_eq_true rfl) (by simpa using c_M_ping 0 (xs (i + 1).toNatClampNeg) (xs (i + 2).toNatClampNeg) (xs (i + 3).toNatClampNeg) v1) e2 ?_
  exact lg_eq 623 C dl_354 rfl k
theorem lg_c7 (C : lw_C p s m #[Value.ref b] meth c) (S : lw_S s A b L xs) (hce : CE ≤ 600000) (hsl : SL ≤ 7302250) (h1 : vp_in (i + 1) L) {r : Int32} {v1 v2 : sv_T} (e1 : f_W_carry (xs (i + 1).toNatClampNeg) v = some (r, v1)) (e2 : f_M_carry (xs (i + 1).toNatClampNeg) v1 = some (r, v2)) (k : lg_G p l e s m below meth c b D tA ad A CE SL 623 i [] v2) : lg_G p l e s m below meth c b D tA ad A CE SL 359 i [] v := by
  refine lg_x C dl_359 ?_
  refine lg_scr (y := 1) C S dl_360 dl_361 dl_362 dl_363 dl_364 (by decide) h1 ?_
  refine lg_call (d := 7) (as := [.int (xs (i + 1).toNatClampNeg)]) C hce hsl dl_365 fc_66 tw_558 tw_559 tw_560 so_0 rfl rfl rfl (Nat.le_of_ble_eq_true rfl) rfl (lg_ok2 rfl) (by decide) (Nat.le_of_ble_eq_true rfl) (by simpa using c_W_carry 0 (xs (i + 1).toNatClampNeg) v) e1 ?_
  refine lg_m C dl_368 ?_
  refine lg_scr (y := 1) C S dl_369 dl_370 dl_371 dl_372 dl_373 (by decide) h1 ?_
  refine lg_call (d := 13) (as := [.int (xs (i + 1).toNatClampNeg)]) C hce hsl dl_374 fc_161 tw_1106 tw_1107 tw_1108 so_75 rfl rfl rfl (Nat.le_of_ble_eq_true rfl) rfl (lg_ok2 rfl) (by decide) (Nat.le_of_ble_eq_true rfl) (by simpa using c_M_carry 0 (xs (i + 1).toNatClampNeg) v1) e2 ?_
  exact lg_eq 623 C dl_377 rfl k
theorem lg_c8 (C : lw_C p s m #[Value.ref b] meth c) (S : lw_S s A b L xs) (hce : CE ≤ 600000) (hsl : SL ≤ 7302250) (h1 : vp_in (i + 1) L) (h2 : vp_in (i + 2) L) {r : Int32} {v1 v2 : sv_T} (e1 : f_W_disturb (xs (i + 1).toNatClampNeg) (xs (i + 2).toNatClampNeg) v = some (r, v1)) (e2 : f_M_disturb (xs (i + 1).toNatClampNeg) (xs (i + 2).toNatClampNeg) v1 = some (r, v2)) (k : lg_G p l e s m below meth c b D tA ad A CE SL 623 i [] v2) : lg_G p l e s m below meth c b D tA ad A CE SL 382 i [] v := by
  refine lg_x C dl_382 ?_
  refine lg_scr (y := 1) C S dl_383 dl_384 dl_385 dl_386 dl_387 (by decide) h1 ?_
  refine lg_scr (y := 2) C S dl_388 dl_389 dl_390 dl_391 dl_392 (by decide) h2 ?_
  refine lg_call (d := 3) (as := [.int (xs (i + 1).toNatClampNeg), .int (xs (i + 2).toNatClampNeg)]) C hce hsl dl_393 fc_110 tw_746 tw_747 tw_748 so_0 rfl rfl rfl (Nat.le_of_ble_eq_true rfl) rfl (lg_ok2 rfl) (by decide) (Nat.le_of_ble_eq_true rfl) (by simpa using c_W_disturb 0 (xs (i + 1).toNatClampNeg) (xs (i + 2).toNatClampNeg) v) e1 ?_
  refine lg_m C dl_396 ?_
  refine lg_scr (y := 1) C S dl_397 dl_398 dl_399 dl_400 dl_401 (by decide) h1 ?_
  refine lg_scr (y := 2) C S dl_402 dl_403 dl_404 dl_405 dl_406 (by decide) h2 ?_
  refine lg_call (d := 2) (as := [.int (xs (i + 1).toNatClampNeg), .int (xs (i + 2).toNatClampNeg)]) C hce hsl dl_407 fc_180 tw_1182 tw_1183 tw_1184 so_75 rfl rfl rfl (Nat.le_of_ble_eq_true rfl) rfl (lg_ok2 rfl) (by decide) (Nat.le_of_ble_eq_true rfl) (by simpa using c_M_disturb 0 (xs (i + 1).toNatClampNeg) (xs (i + 2).toNatClampNeg) v1) e2 ?_
  exact lg_eq 623 C dl_410 rfl k
theorem lg_c9 (C : lw_C p s m #[Value.ref b] meth c) (S : lw_S s A b L xs) (hce : CE ≤ 600000) (hsl : SL ≤ 7302250) (h1 : vp_in (i + 1) L) (h2 : vp_in (i + 2) L) (h3 : vp_in (i + 3) L) {r : Int32} {v1 v2 : sv_T} (e1 : f_W_alter (xs (i + 1).toNatClampNeg) (xs (i + 2).toNatClampNeg) (xs (i + 3).toNatClampNeg) v = some (r, v1)) (e2 : f_M_alter (xs (i + 1).toNatClampNeg) (xs (i + 2).toNatClampNeg) (xs (i + 3).toNatClampNeg) v1 = some (r, v2)) (k : lg_G p l e s m below meth c b D tA ad A CE SL 623 i [] v2) : lg_G p l e s m below meth c b D tA ad A CE SL 415 i [] v := by
  refine lg_x C dl_415 ?_
  refine lg_scr (y := 1) C S dl_416 dl_417 dl_418 dl_419 dl_420 (by decide) h1 ?_
  refine lg_scr (y := 2) C S dl_421 dl_422 dl_423 dl_424 dl_425 (by decide) h2 ?_
  refine lg_scr (y := 3) C S dl_426 dl_427 dl_428 dl_429 dl_430 (by decide) h3 ?_
  refine lg_call (d := 2) (as := [.int (xs (i + 1).toNatClampNeg), .int (xs (i + 2).toNatClampNeg), .int (xs (i + 3).toNatClampNeg)]) C hce hsl dl_431 fc_114 tw_763 tw_764 tw_765 so_0 rfl rfl rfl (Nat.le_of_ble_eq_true rfl) rfl (lg_ok2 rfl) (by decide) (Nat.le_of_ble_eq_true rfl) (by simpa using c_W_alter 0 (xs (i + 1).toNatClampNeg) (xs (i + 2).toNatClampNeg) (xs (i + 3).toNatClampNeg) v) e1 ?_
  refine lg_m C dl_434 ?_
  refine lg_scr (y := 1) C S dl_435 dl_436 dl_437 dl_438 dl_439 (by decide) h1 ?_
  refine lg_scr (y := 2) C S dl_440 dl_441 dl_442 dl_443 dl_444 (by decide) h2 ?_
  refine lg_scr (y := 3) C S dl_445 dl_446 dl_447 dl_448 dl_449 (by decide) h3 ?_
  refine lg_call (d := 2) (as := [.int (xs (i + 1).toNatClampNeg), .int (xs (i + 2).toNatClampNeg), .int (xs (i + 3).toNatClampNeg)]) C hce hsl dl_450 fc_181 tw_1186 tw_1187 tw_1188 so_75 rfl rfl rfl (Nat.le_of_ble_eq_true rfl) rfl (lg_ok2 rfl) (by decide) (Nat.le_of_ble_eq_true rfl) (by simpa using c_M_alter 0 (xs (i + 1).toNatClampNeg) (xs (i + 2).toNatClampNeg) (xs (i + 3).toNatClampNeg) v1) e2 ?_
  exact lg_eq 623 C dl_453 rfl k
theorem lg_c10 (C : lw_C p s m #[Value.ref b] meth c) (S : lw_S s A b L xs) (hce : CE ≤ 600000) (hsl : SL ≤ 7302250) (h1 : vp_in (i + 1) L) {r : Int32} {v1 v2 : sv_T} (e1 : f_W_tick (xs (i + 1).toNatClampNeg) v = some (r, v1)) (e2 : f_M_tick (xs (i + 1).toNatClampNeg) v1 = some (r, v2)) (k : lg_G p l e s m below meth c b D tA ad A CE SL 623 i [] v2) : lg_G p l e s m below meth c b D tA ad A CE SL 458 i [] v := by
  refine lg_x C dl_458 ?_
  refine lg_scr (y := 1) C S dl_459 dl_460 dl_461 dl_462 dl_463 (by decide) h1 ?_
  refine lg_call (d := 7) (as := [.int (xs (i + 1).toNatClampNeg)]) C hce hsl dl_464 fc_116 tw_771 tw_772 tw_773 so_0 rfl rfl rfl (Nat.le_of_ble_eq_true rfl) rfl (lg_ok2 rfl) (by decide) (Nat.le_of_ble_eq_true rfl) (by simpa using c_W_tick 0 (xs (i + 1).toNatClampNeg) v) e1 ?_
  refine lg_m C dl_467 ?_
  refine lg_scr (y := 1) C S dl_468 dl_469 dl_470 dl_471 dl_472 (by decide) h1 ?_
  refine lg_call (d := 9) (as := [.int (xs (i + 1).toNatClampNeg)]) C hce hsl dl_473 fc_182 tw_1190 tw_1191 tw_1192 so_75 rfl rfl rfl (Nat.le_of_ble_eq_true rfl) rfl (lg_ok2 rfl) (by decide) (Nat.le_of_ble_eq_true rfl) (by simpa using c_M_tick 0 (xs (i + 1).toNatClampNeg) v1) e2 ?_
  exact lg_eq 623 C dl_476 rfl k
theorem lg_c11 (C : lw_C p s m #[Value.ref b] meth c) (S : lw_S s A b L xs) (hce : CE ≤ 600000) (hsl : SL ≤ 7302250) (h1 : vp_in (i + 1) L) {r : Int32} {v1 v2 : sv_T} (e1 : f_W_flying (xs (i + 1).toNatClampNeg) v = some (r, v1)) (e2 : f_M_flying (xs (i + 1).toNatClampNeg) v1 = some (r, v2)) (k : lg_G p l e s m below meth c b D tA ad A CE SL 623 i [] v2) : lg_G p l e s m below meth c b D tA ad A CE SL 481 i [] v := by
  refine lg_x C dl_481 ?_
  refine lg_scr (y := 1) C S dl_482 dl_483 dl_484 dl_485 dl_486 (by decide) h1 ?_
  refine lg_call (d := 1) (as := [.int (xs (i + 1).toNatClampNeg)]) C hce hsl dl_487 fc_67 tw_804 tw_563 tw_564 so_0 rfl rfl rfl (Nat.le_of_ble_eq_true rfl) rfl (lg_ok2 rfl) (by decide) (Nat.le_of_ble_eq_true rfl) (by simpa using c_W_flying 0 (xs (i + 1).toNatClampNeg) v) e1 ?_
  refine lg_m C dl_490 ?_
  refine lg_scr (y := 1) C S dl_491 dl_492 dl_493 dl_494 dl_495 (by decide) h1 ?_
  refine lg_call (d := 1) (as := [.int (xs (i + 1).toNatClampNeg)]) C hce hsl dl_496 fc_185 tw_1202 tw_1203 tw_1204 so_75 rfl rfl rfl (Nat.le_of_ble_eq_true rfl) rfl (lg_ok2 rfl) (by decide) (Nat.le_of_ble_eq_true rfl) (by simpa using c_M_flying 0 (xs (i + 1).toNatClampNeg) v1) e2 ?_
  exact lg_eq 623 C dl_499 rfl k
theorem lg_c12 (C : lw_C p s m #[Value.ref b] meth c) (S : lw_S s A b L xs) (hce : CE ≤ 600000) (hsl : SL ≤ 7302250) (h1 : vp_in (i + 1) L) (h2 : vp_in (i + 2) L) (h3 : vp_in (i + 3) L) {r : Int32} {v1 v2 : sv_T} (e1 : f_W_octet (xs (i + 1).toNatClampNeg) (xs (i + 2).toNatClampNeg) (xs (i + 3).toNatClampNeg) v = some (r, v1)) (e2 : f_M_octet (xs (i + 1).toNatClampNeg) (xs (i + 2).toNatClampNeg) (xs (i + 3).toNatClampNeg) v1 = some (r, v2)) (k : lg_G p l e s m below meth c b D tA ad A CE SL 623 i [] v2) : lg_G p l e s m below meth c b D tA ad A CE SL 504 i [] v := by
  refine lg_x C dl_504 ?_
  refine lg_scr (y := 1) C S dl_505 dl_506 dl_507 dl_508 dl_509 (by decide) h1 ?_
  refine lg_scr (y := 2) C S dl_510 dl_511 dl_512 dl_513 dl_514 (by decide) h2 ?_
  refine lg_scr (y := 3) C S dl_515 dl_516 dl_517 dl_518 dl_519 (by decide) h3 ?_
  refine lg_call (d := 2) (as := [.int (xs (i + 1).toNatClampNeg), .int (xs (i + 2).toNatClampNeg), .int (xs (i + 3).toNatClampNeg)]) C hce hsl dl_520 fc_124 tw_805 tw_806 tw_807 so_0 rfl rfl rfl (Nat.le_of_ble_eq_true rfl) rfl (lg_ok2 rfl) (by decide) (Nat.le_of_ble_eq_true rfl) (by simpa using c_W_octet 0 (xs (i + 1).toNatClampNeg) (xs (i + 2).toNatClampNeg) (xs (i + 3).toNatClampNeg) v) e1 ?_
  refine lg_m C dl_523 ?_
  refine lg_scr (y := 1) C S dl_524 dl_525 dl_526 dl_527 dl_528 (by decide) h1 ?_
  refine lg_scr (y := 2) C S dl_529 dl_530 dl_531 dl_532 dl_533 (by decide) h2 ?_
  refine lg_scr (y := 3) C S dl_534 dl_535 dl_536 dl_537 dl_538 (by decide) h3 ?_
  refine lg_call (d := 1) (as := [.int (xs (i + 1).toNatClampNeg), .int (xs (i + 2).toNatClampNeg), .int (xs (i + 3).toNatClampNeg)]) C hce hsl dl_539 fc_186 tw_1206 tw_1207 tw_1208 so_75 rfl rfl rfl (Nat.le_of_ble_eq_true rfl) rfl (lg_ok2 rfl) (by decide) (Nat.le_of_ble_eq_true rfl) (by simpa using c_M_octet 0 (xs (i + 1).toNatClampNeg) (xs (i + 2).toNatClampNeg) (xs (i + 3).toNatClampNeg) v1) e2 ?_
  exact lg_eq 623 C dl_542 rfl k
theorem lg_c13 (C : lw_C p s m #[Value.ref b] meth c) (S : lw_S s A b L xs) (hce : CE ≤ 600000) (hsl : SL ≤ 7302250) (h1 : vp_in (i + 1) L) (h2 : vp_in (i + 2) L) (h3 : vp_in (i + 3) L) {r : Int32} {v1 v2 : sv_T} (e1 : f_W_socket (xs (i + 1).toNatClampNeg) (xs (i + 2).toNatClampNeg) (xs (i + 3).toNatClampNeg) v = some (r, v1)) (e2 : f_M_socket (xs (i + 1).toNatClampNeg) (xs (i + 2).toNatClampNeg) (xs (i + 3).toNatClampNeg) v1 = some (r, v2)) (k : lg_G p l e s m below meth c b D tA ad A CE SL 623 i [] v2) : lg_G p l e s m below meth c b D tA ad A CE SL 547 i [] v := by
  refine lg_x C dl_547 ?_
  refine lg_scr (y := 1) C S dl_548 dl_549 dl_550 dl_551 dl_552 (by decide) h1 ?_
  refine lg_scr (y := 2) C S dl_553 dl_554 dl_555 dl_556 dl_557 (by decide) h2 ?_
  refine lg_scr (y := 3) C S dl_558 dl_559 dl_560 dl_561 dl_562 (by decide) h3 ?_
  refine lg_call (d := 2) (as := [.int (xs (i + 1).toNatClampNeg), .int (xs (i + 2).toNatClampNeg), .int (xs (i + 3).toNatClampNeg)]) C hce hsl dl_563 fc_125 tw_810 tw_811 tw_812 so_0 rfl rfl rfl (Nat.le_of_ble_eq_true rfl) rfl (lg_ok2 rfl) (by decide) (Nat.le_of_ble_eq_true rfl) (by simpa using c_W_socket 0 (xs (i + 1).toNatClampNeg) (xs (i + 2).toNatClampNeg) (xs (i + 3).toNatClampNeg) v) e1 ?_
  refine lg_m C dl_566 ?_
  refine lg_scr (y := 1) C S dl_567 dl_568 dl_569 dl_570 dl_571 (by decide) h1 ?_
  refine lg_scr (y := 2) C S dl_572 dl_573 dl_574 dl_575 dl_576 (by decide) h2 ?_
  refine lg_scr (y := 3) C S dl_577 dl_578 dl_579 dl_580 dl_581 (by decide) h3 ?_
  refine lg_call (d := 2) (as := [.int (xs (i + 1).toNatClampNeg), .int (xs (i + 2).toNatClampNeg), .int (xs (i + 3).toNatClampNeg)]) C hce hsl dl_582 fc_187 tw_1210 tw_1211 tw_1212 so_75 rfl rfl rfl (Nat.le_of_ble_eq_true rfl) rfl (lg_ok2 rfl) (by decide) (Nat.le_of_ble_eq_true rfl) (by simpa using c_M_socket 0 (xs (i + 1).toNatClampNeg) (xs (i + 2).toNatClampNeg) (xs (i + 3).toNatClampNeg) v1) e2 ?_
  exact lg_eq 623 C dl_585 rfl k
theorem lg_c14 (C : lw_C p s m #[Value.ref b] meth c) (S : lw_S s A b L xs) (hce : CE ≤ 600000) (hsl : SL ≤ 7302250) (h1 : vp_in (i + 1) L) (h2 : vp_in (i + 2) L) {r : Int32} {v1 v2 : sv_T} (e1 : f_W_host (xs (i + 1).toNatClampNeg) (xs (i + 2).toNatClampNeg) v = some (r, v1)) (e2 : f_M_host (xs (i + 1).toNatClampNeg) (xs (i + 2).toNatClampNeg) v1 = some (r, v2)) (k : lg_G p l e s m below meth c b D tA ad A CE SL 623 i [] v2) : lg_G p l e s m below meth c b D tA ad A CE SL 590 i [] v := by
  refine lg_x C dl_590 ?_
  refine lg_scr (y := 1) C S dl_591 dl_592 dl_593 dl_594 dl_595 (by decide) h1 ?_
  refine lg_scr (y := 2) C S dl_596 dl_597 dl_598 dl_599 dl_600 (by decide) h2 ?_
  refine lg_call (d := 2) (as := [.int (xs (i + 1).toNatClampNeg), .int (xs (i + 2).toNatClampNeg)]) C hce hsl dl_601 fc_127 tw_818 tw_819 tw_820 so_0 rfl rfl rfl (Nat.le_of_ble_eq_true rfl) rfl (lg_ok2 rfl) (by decide) (Nat.le_of_ble_eq_true rfl) (by simpa using c_W_host 0 (xs (i + 1).toNatClampNeg) (xs (i + 2).toNatClampNeg) v) e1 ?_
  refine lg_m C dl_604 ?_
  refine lg_scr (y := 1) C S dl_605 dl_606 dl_607 dl_608 dl_609 (by decide) h1 ?_
  refine lg_scr (y := 2) C S dl_610 dl_611 dl_612 dl_613 dl_614 (by decide) h2 ?_
  refine lg_call (d := 1) (as := [.int (xs (i + 1).toNatClampNeg), .int (xs (i + 2).toNatClampNeg)]) C hce hsl dl_615 fc_188 tw_1214 tw_1215 tw_1216 so_75 rfl rfl rfl (Nat.le_of_ble_eq_true rfl) rfl (lg_ok2 rfl) (by decide) (Nat.le_of_ble_eq_true rfl) (by simpa using c_M_host 0 (xs (i + 1).toNatClampNeg) (xs (i + 2).toNatClampNeg) v1) e2 ?_
  exact lg_eq 623 C dl_618 rfl k
end LC
def lw_step (Inv : sv_T → Prop) : Prop :=
  (∀ (v : sv_T) (a b : Int32), Inv v → ∃ (r : Int32) (v1 v2 : sv_T), f_W_listen a b v = some (r, v1) ∧ f_M_listen a b v1 = some (r, v2) ∧ Inv v2) ∧
  (∀ (v : sv_T) (a b : Int32), Inv v → ∃ (r : Int32) (v1 v2 : sv_T), f_W_connect a b v = some (r, v1) ∧ f_M_connect a b v1 = some (r, v2) ∧ Inv v2) ∧
  (∀ (v : sv_T) (a b c : Int32), Inv v → ∃ (r : Int32) (v1 v2 : sv_T), f_W_send a b c v = some (r, v1) ∧ f_M_send a b c v1 = some (r, v2) ∧ Inv v2) ∧
  (∀ (v : sv_T) (a b : Int32), Inv v → ∃ (r : Int32) (v1 v2 : sv_T), f_W_read a b v = some (r, v1) ∧ f_M_read a b v1 = some (r, v2) ∧ Inv v2) ∧
  (∀ (v : sv_T) (a b : Int32), Inv v → ∃ (r : Int32) (v1 v2 : sv_T), f_W_close a b v = some (r, v1) ∧ f_M_close a b v1 = some (r, v2) ∧ Inv v2) ∧
  (∀ (v : sv_T) (a b : Int32), Inv v → ∃ (r : Int32) (v1 v2 : sv_T), f_W_abort a b v = some (r, v1) ∧ f_M_abort a b v1 = some (r, v2) ∧ Inv v2) ∧
  (∀ (v : sv_T) (a b c : Int32), Inv v → ∃ (r : Int32) (v1 v2 : sv_T), f_W_ping a b c v = some (r, v1) ∧ f_M_ping a b c v1 = some (r, v2) ∧ Inv v2) ∧
  (∀ (v : sv_T) (a : Int32), Inv v → ∃ (r : Int32) (v1 v2 : sv_T), f_W_carry a v = some (r, v1) ∧ f_M_carry a v1 = some (r, v2) ∧ Inv v2) ∧
  (∀ (v : sv_T) (a b : Int32), Inv v → ∃ (r : Int32) (v1 v2 : sv_T), f_W_disturb a b v = some (r, v1) ∧ f_M_disturb a b v1 = some (r, v2) ∧ Inv v2) ∧
  (∀ (v : sv_T) (a b c : Int32), Inv v → ∃ (r : Int32) (v1 v2 : sv_T), f_W_alter a b c v = some (r, v1) ∧ f_M_alter a b c v1 = some (r, v2) ∧ Inv v2) ∧
  (∀ (v : sv_T) (a : Int32), Inv v → ∃ (r : Int32) (v1 v2 : sv_T), f_W_tick a v = some (r, v1) ∧ f_M_tick a v1 = some (r, v2) ∧ Inv v2) ∧
  (∀ (v : sv_T) (a : Int32), Inv v → ∃ (r : Int32) (v1 v2 : sv_T), f_W_flying a v = some (r, v1) ∧ f_M_flying a v1 = some (r, v2) ∧ Inv v2) ∧
  (∀ (v : sv_T) (a b c : Int32), Inv v → ∃ (r : Int32) (v1 v2 : sv_T), f_W_octet a b c v = some (r, v1) ∧ f_M_octet a b c v1 = some (r, v2) ∧ Inv v2) ∧
  (∀ (v : sv_T) (a b c : Int32), Inv v → ∃ (r : Int32) (v1 v2 : sv_T), f_W_socket a b c v = some (r, v1) ∧ f_M_socket a b c v1 = some (r, v2) ∧ Inv v2) ∧
  (∀ (v : sv_T) (a b : Int32), Inv v → ∃ (r : Int32) (v1 v2 : sv_T), f_W_host a b v = some (r, v1) ∧ f_M_host a b v1 = some (r, v2) ∧ Inv v2)
section LL
variable {p : Program} {l : Launch} {e : Env} {s : State} {m : MethodId} {below : List Frame} {meth : Method} {c : Code} {b : Nat} {D : va_G} {tA : Nat → ClassId} {ad : Nat → Nat} {CE SL : Nat} {L : Nat} {xs : Nat → Int32}
theorem lg_end {v : sv_T} {i : Int32} (C : lw_C p s m #[Value.ref b] meth c) (hr : meth.sig.returnType = ret) (hlocks : meth.locks = false) (hce : CE ≤ 600000) (hsl : SL ≤ 7302250) : lg_G p l e s m below meth c b D tA ad (fun q => s.heap.size ≤ q) CE SL 629 i [] v := fun H locs cs I h => by
  refine W.widen (k := 600000) (n := 7302250) hce hsl ?_
  refine va_forget (fun q hq => I.2.2.2.2.1.2.2 q hq) ?_
  refine lv_iconst (v := 1) C.1 C.2.1 dl_629 (by decide) ?_
  exact lw_ret C.1 C.2.1 hr hlocks dl_630
theorem lg_in {k L y : Nat} (h : k + 4 ≤ L) (hy : y < 4) (hL : L ≤ 2048) : vp_in (nI k + nI y) L := by
  rw [nI_add]
  exact nI_in (by omega) (by omega)
set_option maxHeartbeats 4000000 in
theorem lg_loop {Inv : sv_T → Prop} (hI : lw_step Inv) (hL : L ≤ 2048) (C : lw_C p s m #[Value.ref b] meth c) (S : lw_S s (fun q => s.heap.size ≤ q) b L xs) (hr : meth.sig.returnType = ret) (hlocks : meth.locks = false) (hce : CE ≤ 600000) (hsl : SL ≤ 7302250) : ∀ (z k : Nat) (v : sv_T), L - k ≤ z → k ≤ L → Inv v → lg_G p l e s m below meth c b D tA ad (fun q => s.heap.size ≤ q) CE SL 18 (nI k) [] v := by
  intro z
  induction z with
  | zero =>
    intro k v hz hk hv H locs cs I h
    refine lv_iload_n C.1 C.2.1 dl_18 rfl (h.2.2 (3, .int (nI k)) (by simp)) ?_
    refine lv_aload_n C.1 C.2.1 dl_19 rfl (h.2.2 (0, .ref b) (by simp)) ?_
    refine va_slen C.1 C.2.1 S.1 S.2.1 S.2.2 I.2.2.2.2.1 dl_20 ?_
    refine lv_iconst (v := 4) C.1 C.2.1 dl_21 (by decide) ?_
    refine lv_isub C.1 C.2.1 dl_22 ?_
    refine lv_icmp_gt C.1 C.2.1 (tgt := 629) dl_23 rfl (fun _ => lg_end C hr hlocks hce hsl H locs cs I h) (fun g => ?_)
    exfalso
    apply g
    rw [Int32.lt_iff_toInt_lt]
    have e1 : (Int32.ofNat L - 4).toInt = (L : Int) - 4 := pk_sub_toInt (a := L) (b := 4) (by omega) (by omega)
    rw [e1, nI_toInt (by omega)]
    omega
  | succ z ih =>
    intro k v hz hk hv H locs cs I h
    refine lv_iload_n C.1 C.2.1 dl_18 rfl (h.2.2 (3, .int (nI k)) (by simp)) ?_
    refine lv_aload_n C.1 C.2.1 dl_19 rfl (h.2.2 (0, .ref b) (by simp)) ?_
    refine va_slen C.1 C.2.1 S.1 S.2.1 S.2.2 I.2.2.2.2.1 dl_20 ?_
    refine lv_iconst (v := 4) C.1 C.2.1 dl_21 (by decide) ?_
    refine lv_isub C.1 C.2.1 dl_22 ?_
    have e1 : (Int32.ofNat L - 4).toInt = (L : Int) - 4 := pk_sub_toInt (a := L) (b := 4) (by omega) (by omega)
    refine lv_icmp_gt C.1 C.2.1 (tgt := 629) dl_23 rfl (fun _ => lg_end C hr hlocks hce hsl H locs cs I h) (fun g => ?_)
    have hk4 : k + 4 ≤ L := by
      by_cases q : k + 4 ≤ L
      · exact q
      · exfalso
        apply g
        rw [Int32.lt_iff_toInt_lt, e1, nI_toInt (by omega)]
        omega
    refine lv_aload_n C.1 C.2.1 dl_26 rfl (h.2.2 (0, .ref b) (by simp)) ?_
    refine lv_iload_n C.1 C.2.1 dl_27 rfl (h.2.2 (3, .int (nI k)) (by simp)) ?_
    refine va_sld C.1 C.2.1 S.1 S.2.1 S.2.2 I.2.2.2.2.1 (nI_in (by omega) (by omega)) dl_28 ?_
    refine lv_bipush (v := 15) C.1 C.2.1 dl_29 (by decide) ?_
    refine lv_iand C.1 C.2.1 dl_31 ?_
    have hnx : ∀ v2, Inv v2 → lg_G p l e s m below meth c b D tA ad (fun q => s.heap.size ≤ q) CE SL 623 (nI k) [] v2 := fun v2 h2 => by
      refine lg_next C ?_
      rw [show nI k + 4 = nI (k + 4) from nI_add k 4]
      exact ih (k + 4) v2 (by omega) hk4 h2
    have i1 : vp_in (nI k + 1) L := lg_in (y := 1) hk4 (by omega) hL
    have i2 : vp_in (nI k + 2) L := lg_in (y := 2) hk4 (by omega) hL
    have i3 : vp_in (nI k + 3) L := lg_in (y := 3) hk4 (by omega) hL
    obtain ⟨o0, o1, o2, o3, o4, o5, o6, o7, o8, o9, o10, o11, o12, o13, o14⟩ := hI
    obtain ⟨t, ht, hx⟩ := pk_andE (xs (nI k).toNatClampNeg) (m := 15) 4 (by decide)
    rw [hx]
    rcases (show t = 0 ∨ t = 1 ∨ t = 2 ∨ t = 3 ∨ t = 4 ∨ t = 5 ∨ t = 6 ∨ t = 7 ∨ t = 8 ∨ t = 9 ∨ t = 10 ∨ t = 11 ∨ t = 12 ∨ t = 13 ∨ t = 14 ∨ t = 15 by omega) with rfl | rfl | rfl | rfl | rfl | rfl | rfl | rfl | rfl | rfl | rfl | rfl | rfl | rfl | rfl | rfl
    · refine lv_tableIn C.1 C.2.1 (tgt := 108) dl_32 (by decide) (by decide) rfl rfl ?_
      obtain ⟨r, v1, v2, a1, a2, a3⟩ := o0 v (xs (nI k + 1).toNatClampNeg) (xs (nI k + 2).toNatClampNeg) hv
      exact lg_c0 C S hce hsl i1 i2 a1 a2 (hnx v2 a3) H locs cs I h
    · refine lv_tableIn C.1 C.2.1 (tgt := 141) dl_32 (by decide) (by decide) rfl rfl ?_
      obtain ⟨r, v1, v2, a1, a2, a3⟩ := o1 v (xs (nI k + 1).toNatClampNeg) (xs (nI k + 2).toNatClampNeg) hv
      exact lg_c1 C S hce hsl i1 i2 a1 a2 (hnx v2 a3) H locs cs I h
    · refine lv_tableIn C.1 C.2.1 (tgt := 174) dl_32 (by decide) (by decide) rfl rfl ?_
      obtain ⟨r, v1, v2, a1, a2, a3⟩ := o2 v (xs (nI k + 1).toNatClampNeg) (xs (nI k + 2).toNatClampNeg) (xs (nI k + 3).toNatClampNeg) hv
      exact lg_c2 C S hce hsl i1 i2 i3 a1 a2 (hnx v2 a3) H locs cs I h
    · refine lv_tableIn C.1 C.2.1 (tgt := 217) dl_32 (by decide) (by decide) rfl rfl ?_
      obtain ⟨r, v1, v2, a1, a2, a3⟩ := o3 v (xs (nI k + 1).toNatClampNeg) (xs (nI k + 2).toNatClampNeg) hv
      exact lg_c3 C S hce hsl i1 i2 a1 a2 (hnx v2 a3) H locs cs I h
    · refine lv_tableIn C.1 C.2.1 (tgt := 250) dl_32 (by decide) (by decide) rfl rfl ?_
      obtain ⟨r, v1, v2, a1, a2, a3⟩ := o4 v (xs (nI k + 1).toNatClampNeg) (xs (nI k + 2).toNatClampNeg) hv
      exact lg_c4 C S hce hsl i1 i2 a1 a2 (hnx v2 a3) H locs cs I h
    · refine lv_tableIn C.1 C.2.1 (tgt := 283) dl_32 (by decide) (by decide) rfl rfl ?_
      obtain ⟨r, v1, v2, a1, a2, a3⟩ := o5 v (xs (nI k + 1).toNatClampNeg) (xs (nI k + 2).toNatClampNeg) hv
      exact lg_c5 C S hce hsl i1 i2 a1 a2 (hnx v2 a3) H locs cs I h
    · refine lv_tableIn C.1 C.2.1 (tgt := 316) dl_32 (by decide) (by decide) rfl rfl ?_
      obtain ⟨r, v1, v2, a1, a2, a3⟩ := o6 v (xs (nI k + 1).toNatClampNeg) (xs (nI k + 2).toNatClampNeg) (xs (nI k + 3).toNatClampNeg) hv
      exact lg_c6 C S hce hsl i1 i2 i3 a1 a2 (hnx v2 a3) H locs cs I h
    · refine lv_tableIn C.1 C.2.1 (tgt := 359) dl_32 (by decide) (by decide) rfl rfl ?_
      obtain ⟨r, v1, v2, a1, a2, a3⟩ := o7 v (xs (nI k + 1).toNatClampNeg) hv
      exact lg_c7 C S hce hsl i1 a1 a2 (hnx v2 a3) H locs cs I h
    · refine lv_tableIn C.1 C.2.1 (tgt := 382) dl_32 (by decide) (by decide) rfl rfl ?_
      obtain ⟨r, v1, v2, a1, a2, a3⟩ := o8 v (xs (nI k + 1).toNatClampNeg) (xs (nI k + 2).toNatClampNeg) hv
      exact lg_c8 C S hce hsl i1 i2 a1 a2 (hnx v2 a3) H locs cs I h
    · refine lv_tableIn C.1 C.2.1 (tgt := 415) dl_32 (by decide) (by decide) rfl rfl ?_
      obtain ⟨r, v1, v2, a1, a2, a3⟩ := o9 v (xs (nI k + 1).toNatClampNeg) (xs (nI k + 2).toNatClampNeg) (xs (nI k + 3).toNatClampNeg) hv
      exact lg_c9 C S hce hsl i1 i2 i3 a1 a2 (hnx v2 a3) H locs cs I h
    · refine lv_tableIn C.1 C.2.1 (tgt := 458) dl_32 (by decide) (by decide) rfl rfl ?_
      obtain ⟨r, v1, v2, a1, a2, a3⟩ := o10 v (xs (nI k + 1).toNatClampNeg) hv
      exact lg_c10 C S hce hsl i1 a1 a2 (hnx v2 a3) H locs cs I h
    · refine lv_tableIn C.1 C.2.1 (tgt := 481) dl_32 (by decide) (by decide) rfl rfl ?_
      obtain ⟨r, v1, v2, a1, a2, a3⟩ := o11 v (xs (nI k + 1).toNatClampNeg) hv
      exact lg_c11 C S hce hsl i1 a1 a2 (hnx v2 a3) H locs cs I h
    · refine lv_tableIn C.1 C.2.1 (tgt := 504) dl_32 (by decide) (by decide) rfl rfl ?_
      obtain ⟨r, v1, v2, a1, a2, a3⟩ := o12 v (xs (nI k + 1).toNatClampNeg) (xs (nI k + 2).toNatClampNeg) (xs (nI k + 3).toNatClampNeg) hv
      exact lg_c12 C S hce hsl i1 i2 i3 a1 a2 (hnx v2 a3) H locs cs I h
    · refine lv_tableIn C.1 C.2.1 (tgt := 547) dl_32 (by decide) (by decide) rfl rfl ?_
      obtain ⟨r, v1, v2, a1, a2, a3⟩ := o13 v (xs (nI k + 1).toNatClampNeg) (xs (nI k + 2).toNatClampNeg) (xs (nI k + 3).toNatClampNeg) hv
      exact lg_c13 C S hce hsl i1 i2 i3 a1 a2 (hnx v2 a3) H locs cs I h
    · refine lv_tableIn C.1 C.2.1 (tgt := 590) dl_32 (by decide) (by decide) rfl rfl ?_
      obtain ⟨r, v1, v2, a1, a2, a3⟩ := o14 v (xs (nI k + 1).toNatClampNeg) (xs (nI k + 2).toNatClampNeg) hv
      exact lg_c14 C S hce hsl i1 i2 a1 a2 (hnx v2 a3) H locs cs I h
    · refine lv_tableOut C.1 C.2.1 (tgt := 623) dl_32 (by decide) rfl ?_
      exact hnx v hv H locs cs I h
end LL

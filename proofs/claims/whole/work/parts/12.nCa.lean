abbrev bLa_law : ByteArray := code
def yLa_law : MethodName := ⟨RLa, "law", "([I)Z"⟩
theorem dLa_law_0 : decode bLa_law 0 = .ok (.new 7, 3) := by decide +kernel
theorem dLa_law_3 : decode bLa_law 3 = .ok (.dup, 1) := by decide +kernel
theorem dLa_law_4 : decode bLa_law 4 = .ok (.invokespecial 9, 3) := by decide +kernel
theorem dLa_law_7 : decode bLa_law 7 = .ok (.astore_n 1, 1) := by decide +kernel
theorem dLa_law_8 : decode bLa_law 8 = .ok (.new 10, 3) := by decide +kernel
theorem dLa_law_11 : decode bLa_law 11 = .ok (.dup, 1) := by decide +kernel
theorem dLa_law_12 : decode bLa_law 12 = .ok (.invokespecial 12, 3) := by decide +kernel
theorem dLa_law_15 : decode bLa_law 15 = .ok (.astore_n 2, 1) := by decide +kernel
theorem dLa_law_16 : decode bLa_law 16 = .ok (.iconst 0, 1) := by decide +kernel
theorem dLa_law_17 : decode bLa_law 17 = .ok (.istore_n 3, 1) := by decide +kernel
theorem dLa_law_18 : decode bLa_law 18 = .ok (.iload_n 3, 1) := by decide +kernel
theorem dLa_law_19 : decode bLa_law 19 = .ok (.aload_n 0, 1) := by decide +kernel
theorem dLa_law_20 : decode bLa_law 20 = .ok (.arraylength, 1) := by decide +kernel
theorem dLa_law_21 : decode bLa_law 21 = .ok (.bipush 6, 2) := by decide +kernel
theorem dLa_law_23 : decode bLa_law 23 = .ok (.isub, 1) := by decide +kernel
theorem dLa_law_24 : decode bLa_law 24 = .ok (.if_icmp .gt 633, 3) := by decide +kernel
theorem dLa_law_27 : decode bLa_law 27 = .ok (.aload_n 0, 1) := by decide +kernel
theorem dLa_law_28 : decode bLa_law 28 = .ok (.iload_n 3, 1) := by decide +kernel
theorem dLa_law_29 : decode bLa_law 29 = .ok (.iaload, 1) := by decide +kernel
theorem dLa_law_30 : decode bLa_law 30 = .ok (.bipush 15, 2) := by decide +kernel
theorem dLa_law_32 : decode bLa_law 32 = .ok (.iand, 1) := by decide +kernel
theorem dLa_law_33 : decode bLa_law 33 = .ok (.tableswitch 618 0 15 #[79, 142, 205, 258, 281, 294, 307, 320, 333, 386, 439, 502, 536, 569, 592, 605], 79) := by decide +kernel
theorem dLa_law_112 : decode bLa_law 112 = .ok (.aload_n 1, 1) := by decide +kernel
theorem dLa_law_113 : decode bLa_law 113 = .ok (.aload_n 0, 1) := by decide +kernel
theorem dLa_law_114 : decode bLa_law 114 = .ok (.iload_n 3, 1) := by decide +kernel
theorem dLa_law_115 : decode bLa_law 115 = .ok (.iconst 1, 1) := by decide +kernel
theorem dLa_law_116 : decode bLa_law 116 = .ok (.iadd, 1) := by decide +kernel
theorem dLa_law_117 : decode bLa_law 117 = .ok (.iaload, 1) := by decide +kernel
theorem dLa_law_118 : decode bLa_law 118 = .ok (.aload_n 0, 1) := by decide +kernel
theorem dLa_law_119 : decode bLa_law 119 = .ok (.iload_n 3, 1) := by decide +kernel
theorem dLa_law_120 : decode bLa_law 120 = .ok (.iconst 2, 1) := by decide +kernel
theorem dLa_law_121 : decode bLa_law 121 = .ok (.iadd, 1) := by decide +kernel
theorem dLa_law_122 : decode bLa_law 122 = .ok (.iaload, 1) := by decide +kernel
theorem dLa_law_123 : decode bLa_law 123 = .ok (.aload_n 0, 1) := by decide +kernel
theorem dLa_law_124 : decode bLa_law 124 = .ok (.iload_n 3, 1) := by decide +kernel
theorem dLa_law_125 : decode bLa_law 125 = .ok (.iconst 3, 1) := by decide +kernel
theorem dLa_law_126 : decode bLa_law 126 = .ok (.iadd, 1) := by decide +kernel
theorem dLa_law_127 : decode bLa_law 127 = .ok (.iaload, 1) := by decide +kernel
theorem dLa_law_128 : decode bLa_law 128 = .ok (.aload_n 0, 1) := by decide +kernel
theorem dLa_law_129 : decode bLa_law 129 = .ok (.iload_n 3, 1) := by decide +kernel
theorem dLa_law_130 : decode bLa_law 130 = .ok (.iconst 4, 1) := by decide +kernel
theorem dLa_law_131 : decode bLa_law 131 = .ok (.iadd, 1) := by decide +kernel
theorem dLa_law_132 : decode bLa_law 132 = .ok (.iaload, 1) := by decide +kernel
theorem dLa_law_133 : decode bLa_law 133 = .ok (.aload_n 0, 1) := by decide +kernel
theorem dLa_law_134 : decode bLa_law 134 = .ok (.iload_n 3, 1) := by decide +kernel
theorem dLa_law_135 : decode bLa_law 135 = .ok (.iconst 5, 1) := by decide +kernel
theorem dLa_law_136 : decode bLa_law 136 = .ok (.iadd, 1) := by decide +kernel
theorem dLa_law_137 : decode bLa_law 137 = .ok (.iaload, 1) := by decide +kernel
theorem dLa_law_138 : decode bLa_law 138 = .ok (.invokevirtual 13, 3) := by decide +kernel
theorem dLa_law_141 : decode bLa_law 141 = .ok (.aload_n 2, 1) := by decide +kernel
theorem dLa_law_142 : decode bLa_law 142 = .ok (.aload_n 0, 1) := by decide +kernel
theorem dLa_law_143 : decode bLa_law 143 = .ok (.iload_n 3, 1) := by decide +kernel
theorem dLa_law_144 : decode bLa_law 144 = .ok (.iconst 1, 1) := by decide +kernel
theorem dLa_law_145 : decode bLa_law 145 = .ok (.iadd, 1) := by decide +kernel
theorem dLa_law_146 : decode bLa_law 146 = .ok (.iaload, 1) := by decide +kernel
theorem dLa_law_147 : decode bLa_law 147 = .ok (.aload_n 0, 1) := by decide +kernel
theorem dLa_law_148 : decode bLa_law 148 = .ok (.iload_n 3, 1) := by decide +kernel
theorem dLa_law_149 : decode bLa_law 149 = .ok (.iconst 2, 1) := by decide +kernel
theorem dLa_law_150 : decode bLa_law 150 = .ok (.iadd, 1) := by decide +kernel
theorem dLa_law_151 : decode bLa_law 151 = .ok (.iaload, 1) := by decide +kernel
theorem dLa_law_152 : decode bLa_law 152 = .ok (.aload_n 0, 1) := by decide +kernel
theorem dLa_law_153 : decode bLa_law 153 = .ok (.iload_n 3, 1) := by decide +kernel
theorem dLa_law_154 : decode bLa_law 154 = .ok (.iconst 3, 1) := by decide +kernel
theorem dLa_law_155 : decode bLa_law 155 = .ok (.iadd, 1) := by decide +kernel
theorem dLa_law_156 : decode bLa_law 156 = .ok (.iaload, 1) := by decide +kernel
theorem dLa_law_157 : decode bLa_law 157 = .ok (.aload_n 0, 1) := by decide +kernel
theorem dLa_law_158 : decode bLa_law 158 = .ok (.iload_n 3, 1) := by decide +kernel
theorem dLa_law_159 : decode bLa_law 159 = .ok (.iconst 4, 1) := by decide +kernel
theorem dLa_law_160 : decode bLa_law 160 = .ok (.iadd, 1) := by decide +kernel
theorem dLa_law_161 : decode bLa_law 161 = .ok (.iaload, 1) := by decide +kernel
theorem dLa_law_162 : decode bLa_law 162 = .ok (.aload_n 0, 1) := by decide +kernel
theorem dLa_law_163 : decode bLa_law 163 = .ok (.iload_n 3, 1) := by decide +kernel
theorem dLa_law_164 : decode bLa_law 164 = .ok (.iconst 5, 1) := by decide +kernel
theorem dLa_law_165 : decode bLa_law 165 = .ok (.iadd, 1) := by decide +kernel
theorem dLa_law_166 : decode bLa_law 166 = .ok (.iaload, 1) := by decide +kernel
theorem dLa_law_167 : decode bLa_law 167 = .ok (.invokevirtual 17, 3) := by decide +kernel
theorem dLa_law_170 : decode bLa_law 170 = .ok (.if_icmp .eq 481, 3) := by decide +kernel
theorem dLa_law_173 : decode bLa_law 173 = .ok (.iconst 0, 1) := by decide +kernel
theorem dLa_law_174 : decode bLa_law 174 = .ok (.ireturn, 1) := by decide +kernel
theorem dLa_law_175 : decode bLa_law 175 = .ok (.aload_n 1, 1) := by decide +kernel
theorem dLa_law_176 : decode bLa_law 176 = .ok (.aload_n 0, 1) := by decide +kernel
theorem dLa_law_177 : decode bLa_law 177 = .ok (.iload_n 3, 1) := by decide +kernel
theorem dLa_law_178 : decode bLa_law 178 = .ok (.iconst 1, 1) := by decide +kernel
theorem dLa_law_179 : decode bLa_law 179 = .ok (.iadd, 1) := by decide +kernel
theorem dLa_law_180 : decode bLa_law 180 = .ok (.iaload, 1) := by decide +kernel
theorem dLa_law_181 : decode bLa_law 181 = .ok (.aload_n 0, 1) := by decide +kernel
theorem dLa_law_182 : decode bLa_law 182 = .ok (.iload_n 3, 1) := by decide +kernel
theorem dLa_law_183 : decode bLa_law 183 = .ok (.iconst 2, 1) := by decide +kernel
theorem dLa_law_184 : decode bLa_law 184 = .ok (.iadd, 1) := by decide +kernel
theorem dLa_law_185 : decode bLa_law 185 = .ok (.iaload, 1) := by decide +kernel
theorem dLa_law_186 : decode bLa_law 186 = .ok (.aload_n 0, 1) := by decide +kernel
theorem dLa_law_187 : decode bLa_law 187 = .ok (.iload_n 3, 1) := by decide +kernel
theorem dLa_law_188 : decode bLa_law 188 = .ok (.iconst 3, 1) := by decide +kernel
theorem dLa_law_189 : decode bLa_law 189 = .ok (.iadd, 1) := by decide +kernel
theorem dLa_law_190 : decode bLa_law 190 = .ok (.iaload, 1) := by decide +kernel
theorem dLa_law_191 : decode bLa_law 191 = .ok (.aload_n 0, 1) := by decide +kernel
theorem dLa_law_192 : decode bLa_law 192 = .ok (.iload_n 3, 1) := by decide +kernel
theorem dLa_law_193 : decode bLa_law 193 = .ok (.iconst 4, 1) := by decide +kernel
theorem dLa_law_194 : decode bLa_law 194 = .ok (.iadd, 1) := by decide +kernel
theorem dLa_law_195 : decode bLa_law 195 = .ok (.iaload, 1) := by decide +kernel
theorem dLa_law_196 : decode bLa_law 196 = .ok (.aload_n 0, 1) := by decide +kernel
theorem dLa_law_197 : decode bLa_law 197 = .ok (.iload_n 3, 1) := by decide +kernel
theorem dLa_law_198 : decode bLa_law 198 = .ok (.iconst 5, 1) := by decide +kernel
theorem dLa_law_199 : decode bLa_law 199 = .ok (.iadd, 1) := by decide +kernel
theorem dLa_law_200 : decode bLa_law 200 = .ok (.iaload, 1) := by decide +kernel
theorem dLa_law_201 : decode bLa_law 201 = .ok (.invokevirtual 18, 3) := by decide +kernel
theorem dLa_law_204 : decode bLa_law 204 = .ok (.aload_n 2, 1) := by decide +kernel
theorem dLa_law_205 : decode bLa_law 205 = .ok (.aload_n 0, 1) := by decide +kernel
theorem dLa_law_206 : decode bLa_law 206 = .ok (.iload_n 3, 1) := by decide +kernel
theorem dLa_law_207 : decode bLa_law 207 = .ok (.iconst 1, 1) := by decide +kernel
theorem dLa_law_208 : decode bLa_law 208 = .ok (.iadd, 1) := by decide +kernel
theorem dLa_law_209 : decode bLa_law 209 = .ok (.iaload, 1) := by decide +kernel
theorem dLa_law_210 : decode bLa_law 210 = .ok (.aload_n 0, 1) := by decide +kernel
theorem dLa_law_211 : decode bLa_law 211 = .ok (.iload_n 3, 1) := by decide +kernel
theorem dLa_law_212 : decode bLa_law 212 = .ok (.iconst 2, 1) := by decide +kernel
theorem dLa_law_213 : decode bLa_law 213 = .ok (.iadd, 1) := by decide +kernel
theorem dLa_law_214 : decode bLa_law 214 = .ok (.iaload, 1) := by decide +kernel
theorem dLa_law_215 : decode bLa_law 215 = .ok (.aload_n 0, 1) := by decide +kernel
theorem dLa_law_216 : decode bLa_law 216 = .ok (.iload_n 3, 1) := by decide +kernel
theorem dLa_law_217 : decode bLa_law 217 = .ok (.iconst 3, 1) := by decide +kernel
theorem dLa_law_218 : decode bLa_law 218 = .ok (.iadd, 1) := by decide +kernel
theorem dLa_law_219 : decode bLa_law 219 = .ok (.iaload, 1) := by decide +kernel
theorem dLa_law_220 : decode bLa_law 220 = .ok (.aload_n 0, 1) := by decide +kernel
theorem dLa_law_221 : decode bLa_law 221 = .ok (.iload_n 3, 1) := by decide +kernel
theorem dLa_law_222 : decode bLa_law 222 = .ok (.iconst 4, 1) := by decide +kernel
theorem dLa_law_223 : decode bLa_law 223 = .ok (.iadd, 1) := by decide +kernel
theorem dLa_law_224 : decode bLa_law 224 = .ok (.iaload, 1) := by decide +kernel
theorem dLa_law_225 : decode bLa_law 225 = .ok (.aload_n 0, 1) := by decide +kernel
theorem dLa_law_226 : decode bLa_law 226 = .ok (.iload_n 3, 1) := by decide +kernel
theorem dLa_law_227 : decode bLa_law 227 = .ok (.iconst 5, 1) := by decide +kernel
theorem dLa_law_228 : decode bLa_law 228 = .ok (.iadd, 1) := by decide +kernel
theorem dLa_law_229 : decode bLa_law 229 = .ok (.iaload, 1) := by decide +kernel
theorem dLa_law_230 : decode bLa_law 230 = .ok (.invokevirtual 21, 3) := by decide +kernel
theorem dLa_law_233 : decode bLa_law 233 = .ok (.if_icmp .eq 418, 3) := by decide +kernel
theorem dLa_law_236 : decode bLa_law 236 = .ok (.iconst 0, 1) := by decide +kernel
theorem dLa_law_237 : decode bLa_law 237 = .ok (.ireturn, 1) := by decide +kernel
theorem dLa_law_238 : decode bLa_law 238 = .ok (.aload_n 1, 1) := by decide +kernel
theorem dLa_law_239 : decode bLa_law 239 = .ok (.aload_n 0, 1) := by decide +kernel
theorem dLa_law_240 : decode bLa_law 240 = .ok (.iload_n 3, 1) := by decide +kernel
theorem dLa_law_241 : decode bLa_law 241 = .ok (.iconst 1, 1) := by decide +kernel
theorem dLa_law_242 : decode bLa_law 242 = .ok (.iadd, 1) := by decide +kernel
theorem dLa_law_243 : decode bLa_law 243 = .ok (.iaload, 1) := by decide +kernel
theorem dLa_law_244 : decode bLa_law 244 = .ok (.aload_n 0, 1) := by decide +kernel
theorem dLa_law_245 : decode bLa_law 245 = .ok (.iload_n 3, 1) := by decide +kernel
theorem dLa_law_246 : decode bLa_law 246 = .ok (.iconst 2, 1) := by decide +kernel
theorem dLa_law_247 : decode bLa_law 247 = .ok (.iadd, 1) := by decide +kernel
theorem dLa_law_248 : decode bLa_law 248 = .ok (.iaload, 1) := by decide +kernel
theorem dLa_law_249 : decode bLa_law 249 = .ok (.aload_n 0, 1) := by decide +kernel
theorem dLa_law_250 : decode bLa_law 250 = .ok (.iload_n 3, 1) := by decide +kernel
theorem dLa_law_251 : decode bLa_law 251 = .ok (.iconst 3, 1) := by decide +kernel
theorem dLa_law_252 : decode bLa_law 252 = .ok (.iadd, 1) := by decide +kernel
theorem dLa_law_253 : decode bLa_law 253 = .ok (.iaload, 1) := by decide +kernel
theorem dLa_law_254 : decode bLa_law 254 = .ok (.aload_n 0, 1) := by decide +kernel
theorem dLa_law_255 : decode bLa_law 255 = .ok (.iload_n 3, 1) := by decide +kernel
theorem dLa_law_256 : decode bLa_law 256 = .ok (.iconst 4, 1) := by decide +kernel
theorem dLa_law_257 : decode bLa_law 257 = .ok (.iadd, 1) := by decide +kernel
theorem dLa_law_258 : decode bLa_law 258 = .ok (.iaload, 1) := by decide +kernel
theorem dLa_law_259 : decode bLa_law 259 = .ok (.invokevirtual 22, 3) := by decide +kernel
theorem dLa_law_262 : decode bLa_law 262 = .ok (.aload_n 2, 1) := by decide +kernel
theorem dLa_law_263 : decode bLa_law 263 = .ok (.aload_n 0, 1) := by decide +kernel
theorem dLa_law_264 : decode bLa_law 264 = .ok (.iload_n 3, 1) := by decide +kernel
theorem dLa_law_265 : decode bLa_law 265 = .ok (.iconst 1, 1) := by decide +kernel
theorem dLa_law_266 : decode bLa_law 266 = .ok (.iadd, 1) := by decide +kernel
theorem dLa_law_267 : decode bLa_law 267 = .ok (.iaload, 1) := by decide +kernel
theorem dLa_law_268 : decode bLa_law 268 = .ok (.aload_n 0, 1) := by decide +kernel
theorem dLa_law_269 : decode bLa_law 269 = .ok (.iload_n 3, 1) := by decide +kernel
theorem dLa_law_270 : decode bLa_law 270 = .ok (.iconst 2, 1) := by decide +kernel
theorem dLa_law_271 : decode bLa_law 271 = .ok (.iadd, 1) := by decide +kernel
theorem dLa_law_272 : decode bLa_law 272 = .ok (.iaload, 1) := by decide +kernel
theorem dLa_law_273 : decode bLa_law 273 = .ok (.aload_n 0, 1) := by decide +kernel
theorem dLa_law_274 : decode bLa_law 274 = .ok (.iload_n 3, 1) := by decide +kernel
theorem dLa_law_275 : decode bLa_law 275 = .ok (.iconst 3, 1) := by decide +kernel
theorem dLa_law_276 : decode bLa_law 276 = .ok (.iadd, 1) := by decide +kernel
theorem dLa_law_277 : decode bLa_law 277 = .ok (.iaload, 1) := by decide +kernel
theorem dLa_law_278 : decode bLa_law 278 = .ok (.aload_n 0, 1) := by decide +kernel
theorem dLa_law_279 : decode bLa_law 279 = .ok (.iload_n 3, 1) := by decide +kernel
theorem dLa_law_280 : decode bLa_law 280 = .ok (.iconst 4, 1) := by decide +kernel
theorem dLa_law_281 : decode bLa_law 281 = .ok (.iadd, 1) := by decide +kernel
theorem dLa_law_282 : decode bLa_law 282 = .ok (.iaload, 1) := by decide +kernel
theorem dLa_law_283 : decode bLa_law 283 = .ok (.invokevirtual 26, 3) := by decide +kernel
theorem dLa_law_286 : decode bLa_law 286 = .ok (.if_icmp .eq 365, 3) := by decide +kernel
theorem dLa_law_289 : decode bLa_law 289 = .ok (.iconst 0, 1) := by decide +kernel
theorem dLa_law_290 : decode bLa_law 290 = .ok (.ireturn, 1) := by decide +kernel
theorem dLa_law_291 : decode bLa_law 291 = .ok (.aload_n 1, 1) := by decide +kernel
theorem dLa_law_292 : decode bLa_law 292 = .ok (.aload_n 0, 1) := by decide +kernel
theorem dLa_law_293 : decode bLa_law 293 = .ok (.iload_n 3, 1) := by decide +kernel
theorem dLa_law_294 : decode bLa_law 294 = .ok (.iconst 1, 1) := by decide +kernel
theorem dLa_law_295 : decode bLa_law 295 = .ok (.iadd, 1) := by decide +kernel
theorem dLa_law_296 : decode bLa_law 296 = .ok (.iaload, 1) := by decide +kernel
theorem dLa_law_297 : decode bLa_law 297 = .ok (.invokevirtual 27, 3) := by decide +kernel
theorem dLa_law_300 : decode bLa_law 300 = .ok (.aload_n 2, 1) := by decide +kernel
theorem dLa_law_301 : decode bLa_law 301 = .ok (.aload_n 0, 1) := by decide +kernel
theorem dLa_law_302 : decode bLa_law 302 = .ok (.iload_n 3, 1) := by decide +kernel
theorem dLa_law_303 : decode bLa_law 303 = .ok (.iconst 1, 1) := by decide +kernel
theorem dLa_law_304 : decode bLa_law 304 = .ok (.iadd, 1) := by decide +kernel
theorem dLa_law_305 : decode bLa_law 305 = .ok (.iaload, 1) := by decide +kernel
theorem dLa_law_306 : decode bLa_law 306 = .ok (.invokevirtual 31, 3) := by decide +kernel
theorem dLa_law_309 : decode bLa_law 309 = .ok (.if_icmp .eq 342, 3) := by decide +kernel
theorem dLa_law_312 : decode bLa_law 312 = .ok (.iconst 0, 1) := by decide +kernel
theorem dLa_law_313 : decode bLa_law 313 = .ok (.ireturn, 1) := by decide +kernel
theorem dLa_law_314 : decode bLa_law 314 = .ok (.aload_n 1, 1) := by decide +kernel
theorem dLa_law_315 : decode bLa_law 315 = .ok (.invokevirtual 32, 3) := by decide +kernel
theorem dLa_law_318 : decode bLa_law 318 = .ok (.aload_n 2, 1) := by decide +kernel
theorem dLa_law_319 : decode bLa_law 319 = .ok (.invokevirtual 36, 3) := by decide +kernel
theorem dLa_law_322 : decode bLa_law 322 = .ok (.if_icmp .eq 329, 3) := by decide +kernel
theorem dLa_law_325 : decode bLa_law 325 = .ok (.iconst 0, 1) := by decide +kernel
theorem dLa_law_326 : decode bLa_law 326 = .ok (.ireturn, 1) := by decide +kernel
theorem dLa_law_327 : decode bLa_law 327 = .ok (.aload_n 1, 1) := by decide +kernel
theorem dLa_law_328 : decode bLa_law 328 = .ok (.invokevirtual 37, 3) := by decide +kernel
theorem dLa_law_331 : decode bLa_law 331 = .ok (.aload_n 2, 1) := by decide +kernel
theorem dLa_law_332 : decode bLa_law 332 = .ok (.invokevirtual 40, 3) := by decide +kernel
theorem dLa_law_335 : decode bLa_law 335 = .ok (.if_icmp .eq 316, 3) := by decide +kernel
theorem dLa_law_338 : decode bLa_law 338 = .ok (.iconst 0, 1) := by decide +kernel
theorem dLa_law_339 : decode bLa_law 339 = .ok (.ireturn, 1) := by decide +kernel
theorem dLa_law_340 : decode bLa_law 340 = .ok (.aload_n 1, 1) := by decide +kernel
theorem dLa_law_341 : decode bLa_law 341 = .ok (.invokevirtual 41, 3) := by decide +kernel
theorem dLa_law_344 : decode bLa_law 344 = .ok (.aload_n 2, 1) := by decide +kernel
theorem dLa_law_345 : decode bLa_law 345 = .ok (.invokevirtual 44, 3) := by decide +kernel
theorem dLa_law_348 : decode bLa_law 348 = .ok (.if_icmp .eq 303, 3) := by decide +kernel
theorem dLa_law_351 : decode bLa_law 351 = .ok (.iconst 0, 1) := by decide +kernel
theorem dLa_law_352 : decode bLa_law 352 = .ok (.ireturn, 1) := by decide +kernel
theorem dLa_law_353 : decode bLa_law 353 = .ok (.aload_n 1, 1) := by decide +kernel
theorem dLa_law_354 : decode bLa_law 354 = .ok (.invokevirtual 45, 3) := by decide +kernel
theorem dLa_law_357 : decode bLa_law 357 = .ok (.aload_n 2, 1) := by decide +kernel
theorem dLa_law_358 : decode bLa_law 358 = .ok (.invokevirtual 49, 3) := by decide +kernel
theorem dLa_law_361 : decode bLa_law 361 = .ok (.if_icmp .eq 290, 3) := by decide +kernel
theorem dLa_law_364 : decode bLa_law 364 = .ok (.iconst 0, 1) := by decide +kernel
theorem dLa_law_365 : decode bLa_law 365 = .ok (.ireturn, 1) := by decide +kernel
theorem dLa_law_366 : decode bLa_law 366 = .ok (.aload_n 1, 1) := by decide +kernel
theorem dLa_law_367 : decode bLa_law 367 = .ok (.aload_n 0, 1) := by decide +kernel
theorem dLa_law_368 : decode bLa_law 368 = .ok (.iload_n 3, 1) := by decide +kernel
theorem dLa_law_369 : decode bLa_law 369 = .ok (.iconst 1, 1) := by decide +kernel
theorem dLa_law_370 : decode bLa_law 370 = .ok (.iadd, 1) := by decide +kernel
theorem dLa_law_371 : decode bLa_law 371 = .ok (.iaload, 1) := by decide +kernel
theorem dLa_law_372 : decode bLa_law 372 = .ok (.aload_n 0, 1) := by decide +kernel
theorem dLa_law_373 : decode bLa_law 373 = .ok (.iload_n 3, 1) := by decide +kernel
theorem dLa_law_374 : decode bLa_law 374 = .ok (.iconst 2, 1) := by decide +kernel
theorem dLa_law_375 : decode bLa_law 375 = .ok (.iadd, 1) := by decide +kernel
theorem dLa_law_376 : decode bLa_law 376 = .ok (.iaload, 1) := by decide +kernel
theorem dLa_law_377 : decode bLa_law 377 = .ok (.aload_n 0, 1) := by decide +kernel
theorem dLa_law_378 : decode bLa_law 378 = .ok (.iload_n 3, 1) := by decide +kernel
theorem dLa_law_379 : decode bLa_law 379 = .ok (.iconst 3, 1) := by decide +kernel
theorem dLa_law_380 : decode bLa_law 380 = .ok (.iadd, 1) := by decide +kernel
theorem dLa_law_381 : decode bLa_law 381 = .ok (.iaload, 1) := by decide +kernel
theorem dLa_law_382 : decode bLa_law 382 = .ok (.aload_n 0, 1) := by decide +kernel
theorem dLa_law_383 : decode bLa_law 383 = .ok (.iload_n 3, 1) := by decide +kernel
theorem dLa_law_384 : decode bLa_law 384 = .ok (.iconst 4, 1) := by decide +kernel
theorem dLa_law_385 : decode bLa_law 385 = .ok (.iadd, 1) := by decide +kernel
theorem dLa_law_386 : decode bLa_law 386 = .ok (.iaload, 1) := by decide +kernel
theorem dLa_law_387 : decode bLa_law 387 = .ok (.invokevirtual 50, 3) := by decide +kernel
theorem dLa_law_390 : decode bLa_law 390 = .ok (.aload_n 2, 1) := by decide +kernel
theorem dLa_law_391 : decode bLa_law 391 = .ok (.aload_n 0, 1) := by decide +kernel
theorem dLa_law_392 : decode bLa_law 392 = .ok (.iload_n 3, 1) := by decide +kernel
theorem dLa_law_393 : decode bLa_law 393 = .ok (.iconst 1, 1) := by decide +kernel
theorem dLa_law_394 : decode bLa_law 394 = .ok (.iadd, 1) := by decide +kernel
theorem dLa_law_395 : decode bLa_law 395 = .ok (.iaload, 1) := by decide +kernel
theorem dLa_law_396 : decode bLa_law 396 = .ok (.aload_n 0, 1) := by decide +kernel
theorem dLa_law_397 : decode bLa_law 397 = .ok (.iload_n 3, 1) := by decide +kernel
theorem dLa_law_398 : decode bLa_law 398 = .ok (.iconst 2, 1) := by decide +kernel
theorem dLa_law_399 : decode bLa_law 399 = .ok (.iadd, 1) := by decide +kernel
theorem dLa_law_400 : decode bLa_law 400 = .ok (.iaload, 1) := by decide +kernel
theorem dLa_law_401 : decode bLa_law 401 = .ok (.aload_n 0, 1) := by decide +kernel
theorem dLa_law_402 : decode bLa_law 402 = .ok (.iload_n 3, 1) := by decide +kernel
theorem dLa_law_403 : decode bLa_law 403 = .ok (.iconst 3, 1) := by decide +kernel
theorem dLa_law_404 : decode bLa_law 404 = .ok (.iadd, 1) := by decide +kernel
theorem dLa_law_405 : decode bLa_law 405 = .ok (.iaload, 1) := by decide +kernel
theorem dLa_law_406 : decode bLa_law 406 = .ok (.aload_n 0, 1) := by decide +kernel
theorem dLa_law_407 : decode bLa_law 407 = .ok (.iload_n 3, 1) := by decide +kernel
theorem dLa_law_408 : decode bLa_law 408 = .ok (.iconst 4, 1) := by decide +kernel
theorem dLa_law_409 : decode bLa_law 409 = .ok (.iadd, 1) := by decide +kernel
theorem dLa_law_410 : decode bLa_law 410 = .ok (.iaload, 1) := by decide +kernel
theorem dLa_law_411 : decode bLa_law 411 = .ok (.invokevirtual 53, 3) := by decide +kernel
theorem dLa_law_414 : decode bLa_law 414 = .ok (.if_icmp .eq 237, 3) := by decide +kernel
theorem dLa_law_417 : decode bLa_law 417 = .ok (.iconst 0, 1) := by decide +kernel
theorem dLa_law_418 : decode bLa_law 418 = .ok (.ireturn, 1) := by decide +kernel
theorem dLa_law_419 : decode bLa_law 419 = .ok (.aload_n 1, 1) := by decide +kernel
theorem dLa_law_420 : decode bLa_law 420 = .ok (.aload_n 0, 1) := by decide +kernel
theorem dLa_law_421 : decode bLa_law 421 = .ok (.iload_n 3, 1) := by decide +kernel
theorem dLa_law_422 : decode bLa_law 422 = .ok (.iconst 1, 1) := by decide +kernel
theorem dLa_law_423 : decode bLa_law 423 = .ok (.iadd, 1) := by decide +kernel
theorem dLa_law_424 : decode bLa_law 424 = .ok (.iaload, 1) := by decide +kernel
theorem dLa_law_425 : decode bLa_law 425 = .ok (.aload_n 0, 1) := by decide +kernel
theorem dLa_law_426 : decode bLa_law 426 = .ok (.iload_n 3, 1) := by decide +kernel
theorem dLa_law_427 : decode bLa_law 427 = .ok (.iconst 2, 1) := by decide +kernel
theorem dLa_law_428 : decode bLa_law 428 = .ok (.iadd, 1) := by decide +kernel
theorem dLa_law_429 : decode bLa_law 429 = .ok (.iaload, 1) := by decide +kernel
theorem dLa_law_430 : decode bLa_law 430 = .ok (.aload_n 0, 1) := by decide +kernel
theorem dLa_law_431 : decode bLa_law 431 = .ok (.iload_n 3, 1) := by decide +kernel
theorem dLa_law_432 : decode bLa_law 432 = .ok (.iconst 3, 1) := by decide +kernel
theorem dLa_law_433 : decode bLa_law 433 = .ok (.iadd, 1) := by decide +kernel
theorem dLa_law_434 : decode bLa_law 434 = .ok (.iaload, 1) := by decide +kernel
theorem dLa_law_435 : decode bLa_law 435 = .ok (.aload_n 0, 1) := by decide +kernel
theorem dLa_law_436 : decode bLa_law 436 = .ok (.iload_n 3, 1) := by decide +kernel
theorem dLa_law_437 : decode bLa_law 437 = .ok (.iconst 4, 1) := by decide +kernel
theorem dLa_law_438 : decode bLa_law 438 = .ok (.iadd, 1) := by decide +kernel
theorem dLa_law_439 : decode bLa_law 439 = .ok (.iaload, 1) := by decide +kernel
theorem dLa_law_440 : decode bLa_law 440 = .ok (.invokevirtual 54, 3) := by decide +kernel
theorem dLa_law_443 : decode bLa_law 443 = .ok (.aload_n 2, 1) := by decide +kernel
theorem dLa_law_444 : decode bLa_law 444 = .ok (.aload_n 0, 1) := by decide +kernel
theorem dLa_law_445 : decode bLa_law 445 = .ok (.iload_n 3, 1) := by decide +kernel
theorem dLa_law_446 : decode bLa_law 446 = .ok (.iconst 1, 1) := by decide +kernel
theorem dLa_law_447 : decode bLa_law 447 = .ok (.iadd, 1) := by decide +kernel
theorem dLa_law_448 : decode bLa_law 448 = .ok (.iaload, 1) := by decide +kernel
theorem dLa_law_449 : decode bLa_law 449 = .ok (.aload_n 0, 1) := by decide +kernel
theorem dLa_law_450 : decode bLa_law 450 = .ok (.iload_n 3, 1) := by decide +kernel
theorem dLa_law_451 : decode bLa_law 451 = .ok (.iconst 2, 1) := by decide +kernel
theorem dLa_law_452 : decode bLa_law 452 = .ok (.iadd, 1) := by decide +kernel
theorem dLa_law_453 : decode bLa_law 453 = .ok (.iaload, 1) := by decide +kernel
theorem dLa_law_454 : decode bLa_law 454 = .ok (.aload_n 0, 1) := by decide +kernel
theorem dLa_law_455 : decode bLa_law 455 = .ok (.iload_n 3, 1) := by decide +kernel
theorem dLa_law_456 : decode bLa_law 456 = .ok (.iconst 3, 1) := by decide +kernel
theorem dLa_law_457 : decode bLa_law 457 = .ok (.iadd, 1) := by decide +kernel
theorem dLa_law_458 : decode bLa_law 458 = .ok (.iaload, 1) := by decide +kernel
theorem dLa_law_459 : decode bLa_law 459 = .ok (.aload_n 0, 1) := by decide +kernel
theorem dLa_law_460 : decode bLa_law 460 = .ok (.iload_n 3, 1) := by decide +kernel
theorem dLa_law_461 : decode bLa_law 461 = .ok (.iconst 4, 1) := by decide +kernel
theorem dLa_law_462 : decode bLa_law 462 = .ok (.iadd, 1) := by decide +kernel
theorem dLa_law_463 : decode bLa_law 463 = .ok (.iaload, 1) := by decide +kernel
theorem dLa_law_464 : decode bLa_law 464 = .ok (.invokevirtual 57, 3) := by decide +kernel
theorem dLa_law_467 : decode bLa_law 467 = .ok (.if_icmp .eq 184, 3) := by decide +kernel
theorem dLa_law_470 : decode bLa_law 470 = .ok (.iconst 0, 1) := by decide +kernel
theorem dLa_law_471 : decode bLa_law 471 = .ok (.ireturn, 1) := by decide +kernel
theorem dLa_law_472 : decode bLa_law 472 = .ok (.aload_n 1, 1) := by decide +kernel
theorem dLa_law_473 : decode bLa_law 473 = .ok (.aload_n 0, 1) := by decide +kernel
theorem dLa_law_474 : decode bLa_law 474 = .ok (.iload_n 3, 1) := by decide +kernel
theorem dLa_law_475 : decode bLa_law 475 = .ok (.iconst 1, 1) := by decide +kernel
theorem dLa_law_476 : decode bLa_law 476 = .ok (.iadd, 1) := by decide +kernel
theorem dLa_law_477 : decode bLa_law 477 = .ok (.iaload, 1) := by decide +kernel
theorem dLa_law_478 : decode bLa_law 478 = .ok (.aload_n 0, 1) := by decide +kernel
theorem dLa_law_479 : decode bLa_law 479 = .ok (.iload_n 3, 1) := by decide +kernel
theorem dLa_law_480 : decode bLa_law 480 = .ok (.iconst 2, 1) := by decide +kernel
theorem dLa_law_481 : decode bLa_law 481 = .ok (.iadd, 1) := by decide +kernel
theorem dLa_law_482 : decode bLa_law 482 = .ok (.iaload, 1) := by decide +kernel
theorem dLa_law_483 : decode bLa_law 483 = .ok (.aload_n 0, 1) := by decide +kernel
theorem dLa_law_484 : decode bLa_law 484 = .ok (.iload_n 3, 1) := by decide +kernel
theorem dLa_law_485 : decode bLa_law 485 = .ok (.iconst 3, 1) := by decide +kernel
theorem dLa_law_486 : decode bLa_law 486 = .ok (.iadd, 1) := by decide +kernel
theorem dLa_law_487 : decode bLa_law 487 = .ok (.iaload, 1) := by decide +kernel
theorem dLa_law_488 : decode bLa_law 488 = .ok (.aload_n 0, 1) := by decide +kernel
theorem dLa_law_489 : decode bLa_law 489 = .ok (.iload_n 3, 1) := by decide +kernel
theorem dLa_law_490 : decode bLa_law 490 = .ok (.iconst 4, 1) := by decide +kernel
theorem dLa_law_491 : decode bLa_law 491 = .ok (.iadd, 1) := by decide +kernel
theorem dLa_law_492 : decode bLa_law 492 = .ok (.iaload, 1) := by decide +kernel
theorem dLa_law_493 : decode bLa_law 493 = .ok (.aload_n 0, 1) := by decide +kernel
theorem dLa_law_494 : decode bLa_law 494 = .ok (.iload_n 3, 1) := by decide +kernel
theorem dLa_law_495 : decode bLa_law 495 = .ok (.iconst 5, 1) := by decide +kernel
theorem dLa_law_496 : decode bLa_law 496 = .ok (.iadd, 1) := by decide +kernel
theorem dLa_law_497 : decode bLa_law 497 = .ok (.iaload, 1) := by decide +kernel
theorem dLa_law_498 : decode bLa_law 498 = .ok (.invokevirtual 58, 3) := by decide +kernel
theorem dLa_law_501 : decode bLa_law 501 = .ok (.aload_n 2, 1) := by decide +kernel
theorem dLa_law_502 : decode bLa_law 502 = .ok (.aload_n 0, 1) := by decide +kernel
theorem dLa_law_503 : decode bLa_law 503 = .ok (.iload_n 3, 1) := by decide +kernel
theorem dLa_law_504 : decode bLa_law 504 = .ok (.iconst 1, 1) := by decide +kernel
theorem dLa_law_505 : decode bLa_law 505 = .ok (.iadd, 1) := by decide +kernel
theorem dLa_law_506 : decode bLa_law 506 = .ok (.iaload, 1) := by decide +kernel
theorem dLa_law_507 : decode bLa_law 507 = .ok (.aload_n 0, 1) := by decide +kernel
theorem dLa_law_508 : decode bLa_law 508 = .ok (.iload_n 3, 1) := by decide +kernel
theorem dLa_law_509 : decode bLa_law 509 = .ok (.iconst 2, 1) := by decide +kernel
theorem dLa_law_510 : decode bLa_law 510 = .ok (.iadd, 1) := by decide +kernel
theorem dLa_law_511 : decode bLa_law 511 = .ok (.iaload, 1) := by decide +kernel
theorem dLa_law_512 : decode bLa_law 512 = .ok (.aload_n 0, 1) := by decide +kernel
theorem dLa_law_513 : decode bLa_law 513 = .ok (.iload_n 3, 1) := by decide +kernel
theorem dLa_law_514 : decode bLa_law 514 = .ok (.iconst 3, 1) := by decide +kernel
theorem dLa_law_515 : decode bLa_law 515 = .ok (.iadd, 1) := by decide +kernel
theorem dLa_law_516 : decode bLa_law 516 = .ok (.iaload, 1) := by decide +kernel
theorem dLa_law_517 : decode bLa_law 517 = .ok (.aload_n 0, 1) := by decide +kernel
theorem dLa_law_518 : decode bLa_law 518 = .ok (.iload_n 3, 1) := by decide +kernel
theorem dLa_law_519 : decode bLa_law 519 = .ok (.iconst 4, 1) := by decide +kernel
theorem dLa_law_520 : decode bLa_law 520 = .ok (.iadd, 1) := by decide +kernel
theorem dLa_law_521 : decode bLa_law 521 = .ok (.iaload, 1) := by decide +kernel
theorem dLa_law_522 : decode bLa_law 522 = .ok (.aload_n 0, 1) := by decide +kernel
theorem dLa_law_523 : decode bLa_law 523 = .ok (.iload_n 3, 1) := by decide +kernel
theorem dLa_law_524 : decode bLa_law 524 = .ok (.iconst 5, 1) := by decide +kernel
theorem dLa_law_525 : decode bLa_law 525 = .ok (.iadd, 1) := by decide +kernel
theorem dLa_law_526 : decode bLa_law 526 = .ok (.iaload, 1) := by decide +kernel
theorem dLa_law_527 : decode bLa_law 527 = .ok (.invokevirtual 61, 3) := by decide +kernel
theorem dLa_law_530 : decode bLa_law 530 = .ok (.if_icmp .eq 121, 3) := by decide +kernel
theorem dLa_law_533 : decode bLa_law 533 = .ok (.iconst 0, 1) := by decide +kernel
theorem dLa_law_534 : decode bLa_law 534 = .ok (.ireturn, 1) := by decide +kernel
theorem dLa_law_535 : decode bLa_law 535 = .ok (.aload_n 1, 1) := by decide +kernel
theorem dLa_law_536 : decode bLa_law 536 = .ok (.aload_n 0, 1) := by decide +kernel
theorem dLa_law_537 : decode bLa_law 537 = .ok (.iload_n 3, 1) := by decide +kernel
theorem dLa_law_538 : decode bLa_law 538 = .ok (.iconst 1, 1) := by decide +kernel
theorem dLa_law_539 : decode bLa_law 539 = .ok (.iadd, 1) := by decide +kernel
theorem dLa_law_540 : decode bLa_law 540 = .ok (.iaload, 1) := by decide +kernel
theorem dLa_law_541 : decode bLa_law 541 = .ok (.aload_n 0, 1) := by decide +kernel
theorem dLa_law_542 : decode bLa_law 542 = .ok (.iload_n 3, 1) := by decide +kernel
theorem dLa_law_543 : decode bLa_law 543 = .ok (.iconst 2, 1) := by decide +kernel
theorem dLa_law_544 : decode bLa_law 544 = .ok (.iadd, 1) := by decide +kernel
theorem dLa_law_545 : decode bLa_law 545 = .ok (.iaload, 1) := by decide +kernel
theorem dLa_law_546 : decode bLa_law 546 = .ok (.invokevirtual 62, 3) := by decide +kernel
theorem dLa_law_549 : decode bLa_law 549 = .ok (.aload_n 2, 1) := by decide +kernel
theorem dLa_law_550 : decode bLa_law 550 = .ok (.aload_n 0, 1) := by decide +kernel
theorem dLa_law_551 : decode bLa_law 551 = .ok (.iload_n 3, 1) := by decide +kernel
theorem dLa_law_552 : decode bLa_law 552 = .ok (.iconst 1, 1) := by decide +kernel
theorem dLa_law_553 : decode bLa_law 553 = .ok (.iadd, 1) := by decide +kernel
theorem dLa_law_554 : decode bLa_law 554 = .ok (.iaload, 1) := by decide +kernel
theorem dLa_law_555 : decode bLa_law 555 = .ok (.aload_n 0, 1) := by decide +kernel
theorem dLa_law_556 : decode bLa_law 556 = .ok (.iload_n 3, 1) := by decide +kernel
theorem dLa_law_557 : decode bLa_law 557 = .ok (.iconst 2, 1) := by decide +kernel
theorem dLa_law_558 : decode bLa_law 558 = .ok (.iadd, 1) := by decide +kernel
theorem dLa_law_559 : decode bLa_law 559 = .ok (.iaload, 1) := by decide +kernel
theorem dLa_law_560 : decode bLa_law 560 = .ok (.invokevirtual 66, 3) := by decide +kernel
theorem dLa_law_563 : decode bLa_law 563 = .ok (.lcmp, 1) := by decide +kernel
theorem dLa_law_564 : decode bLa_law 564 = .ok (.ifCond .eq 87, 3) := by decide +kernel
theorem dLa_law_567 : decode bLa_law 567 = .ok (.iconst 0, 1) := by decide +kernel
theorem dLa_law_568 : decode bLa_law 568 = .ok (.ireturn, 1) := by decide +kernel
theorem dLa_law_569 : decode bLa_law 569 = .ok (.aload_n 1, 1) := by decide +kernel
theorem dLa_law_570 : decode bLa_law 570 = .ok (.aload_n 0, 1) := by decide +kernel
theorem dLa_law_571 : decode bLa_law 571 = .ok (.iload_n 3, 1) := by decide +kernel
theorem dLa_law_572 : decode bLa_law 572 = .ok (.iconst 1, 1) := by decide +kernel
theorem dLa_law_573 : decode bLa_law 573 = .ok (.iadd, 1) := by decide +kernel
theorem dLa_law_574 : decode bLa_law 574 = .ok (.iaload, 1) := by decide +kernel
theorem dLa_law_575 : decode bLa_law 575 = .ok (.aload_n 0, 1) := by decide +kernel
theorem dLa_law_576 : decode bLa_law 576 = .ok (.iload_n 3, 1) := by decide +kernel
theorem dLa_law_577 : decode bLa_law 577 = .ok (.iconst 2, 1) := by decide +kernel
theorem dLa_law_578 : decode bLa_law 578 = .ok (.iadd, 1) := by decide +kernel
theorem dLa_law_579 : decode bLa_law 579 = .ok (.iaload, 1) := by decide +kernel
theorem dLa_law_580 : decode bLa_law 580 = .ok (.invokevirtual 67, 3) := by decide +kernel
theorem dLa_law_583 : decode bLa_law 583 = .ok (.aload_n 2, 1) := by decide +kernel
theorem dLa_law_584 : decode bLa_law 584 = .ok (.aload_n 0, 1) := by decide +kernel
theorem dLa_law_585 : decode bLa_law 585 = .ok (.iload_n 3, 1) := by decide +kernel
theorem dLa_law_586 : decode bLa_law 586 = .ok (.iconst 1, 1) := by decide +kernel
theorem dLa_law_587 : decode bLa_law 587 = .ok (.iadd, 1) := by decide +kernel
theorem dLa_law_588 : decode bLa_law 588 = .ok (.iaload, 1) := by decide +kernel
theorem dLa_law_589 : decode bLa_law 589 = .ok (.aload_n 0, 1) := by decide +kernel
theorem dLa_law_590 : decode bLa_law 590 = .ok (.iload_n 3, 1) := by decide +kernel
theorem dLa_law_591 : decode bLa_law 591 = .ok (.iconst 2, 1) := by decide +kernel
theorem dLa_law_592 : decode bLa_law 592 = .ok (.iadd, 1) := by decide +kernel
theorem dLa_law_593 : decode bLa_law 593 = .ok (.iaload, 1) := by decide +kernel
theorem dLa_law_594 : decode bLa_law 594 = .ok (.invokevirtual 71, 3) := by decide +kernel
theorem dLa_law_597 : decode bLa_law 597 = .ok (.if_icmp .eq 54, 3) := by decide +kernel
theorem dLa_law_600 : decode bLa_law 600 = .ok (.iconst 0, 1) := by decide +kernel
theorem dLa_law_601 : decode bLa_law 601 = .ok (.ireturn, 1) := by decide +kernel
theorem dLa_law_602 : decode bLa_law 602 = .ok (.aload_n 1, 1) := by decide +kernel
theorem dLa_law_603 : decode bLa_law 603 = .ok (.aload_n 0, 1) := by decide +kernel
theorem dLa_law_604 : decode bLa_law 604 = .ok (.iload_n 3, 1) := by decide +kernel
theorem dLa_law_605 : decode bLa_law 605 = .ok (.iconst 1, 1) := by decide +kernel
theorem dLa_law_606 : decode bLa_law 606 = .ok (.iadd, 1) := by decide +kernel
theorem dLa_law_607 : decode bLa_law 607 = .ok (.iaload, 1) := by decide +kernel
theorem dLa_law_608 : decode bLa_law 608 = .ok (.invokevirtual 72, 3) := by decide +kernel
theorem dLa_law_611 : decode bLa_law 611 = .ok (.aload_n 2, 1) := by decide +kernel
theorem dLa_law_612 : decode bLa_law 612 = .ok (.aload_n 0, 1) := by decide +kernel
theorem dLa_law_613 : decode bLa_law 613 = .ok (.iload_n 3, 1) := by decide +kernel
theorem dLa_law_614 : decode bLa_law 614 = .ok (.iconst 1, 1) := by decide +kernel
theorem dLa_law_615 : decode bLa_law 615 = .ok (.iadd, 1) := by decide +kernel
theorem dLa_law_616 : decode bLa_law 616 = .ok (.iaload, 1) := by decide +kernel
theorem dLa_law_617 : decode bLa_law 617 = .ok (.invokevirtual 76, 3) := by decide +kernel
theorem dLa_law_620 : decode bLa_law 620 = .ok (.if_icmp .eq 31, 3) := by decide +kernel
theorem dLa_law_623 : decode bLa_law 623 = .ok (.iconst 0, 1) := by decide +kernel
theorem dLa_law_624 : decode bLa_law 624 = .ok (.ireturn, 1) := by decide +kernel
theorem dLa_law_625 : decode bLa_law 625 = .ok (.aload_n 1, 1) := by decide +kernel
theorem dLa_law_626 : decode bLa_law 626 = .ok (.invokevirtual 77, 3) := by decide +kernel
theorem dLa_law_629 : decode bLa_law 629 = .ok (.aload_n 2, 1) := by decide +kernel
theorem dLa_law_630 : decode bLa_law 630 = .ok (.invokevirtual 80, 3) := by decide +kernel
theorem dLa_law_633 : decode bLa_law 633 = .ok (.if_icmp .eq 18, 3) := by decide +kernel
theorem dLa_law_636 : decode bLa_law 636 = .ok (.iconst 0, 1) := by decide +kernel
theorem dLa_law_637 : decode bLa_law 637 = .ok (.ireturn, 1) := by decide +kernel
theorem dLa_law_638 : decode bLa_law 638 = .ok (.aload_n 1, 1) := by decide +kernel
theorem dLa_law_639 : decode bLa_law 639 = .ok (.invokevirtual 81, 3) := by decide +kernel
theorem dLa_law_642 : decode bLa_law 642 = .ok (.aload_n 2, 1) := by decide +kernel
theorem dLa_law_643 : decode bLa_law 643 = .ok (.invokevirtual 84, 3) := by decide +kernel
theorem dLa_law_646 : decode bLa_law 646 = .ok (.if_icmp .eq 5, 3) := by decide +kernel
theorem dLa_law_649 : decode bLa_law 649 = .ok (.iconst 0, 1) := by decide +kernel
theorem dLa_law_650 : decode bLa_law 650 = .ok (.ireturn, 1) := by decide +kernel
theorem dLa_law_651 : decode bLa_law 651 = .ok (.iinc 3 6, 3) := by decide +kernel
theorem dLa_law_654 : decode bLa_law 654 = .ok (.goto (-636), 3) := by decide +kernel
theorem dLa_law_657 : decode bLa_law 657 = .ok (.iconst 1, 1) := by decide +kernel
theorem dLa_law_658 : decode bLa_law 658 = .ok (.ireturn, 1) := by decide +kernel
theorem kmFa_11 : Lk tbl RFa 11 yDi_init bDi_init 1 none 0 := ⟨tb1 21 (by decide +kernel) (by decide +kernel), tb1 2 (by decide +kernel) (by decide +kernel), kcDi_init, by decide +kernel, by decide +kernel, by decide +kernel⟩
theorem kmFa_18 : Lk tbl RFa 18 yTr_init bTr_init 2 none 0 := ⟨tb1 47 (by decide +kernel) (by decide +kernel), tb1 3 (by decide +kernel) (by decide +kernel), kcTr_init, by decide +kernel, by decide +kernel, by decide +kernel⟩
theorem kmFa_25 : Lk tbl RFa 25 ySe_init bSe_init 2 none 0 := ⟨tb1 145 (by decide +kernel) (by decide +kernel), tb1 6 (by decide +kernel) (by decide +kernel), kcSe_init, by decide +kernel, by decide +kernel, by decide +kernel⟩
theorem kmFa_48 : Lk tbl RFa 48 yFa_isName bFa_isName 1 (some .boolean) 1 := ⟨tb1 215 (by decide +kernel) (by decide +kernel), tb1 1 (by decide +kernel) (by decide +kernel), kcFa_isName, by decide +kernel, by decide +kernel, by decide +kernel⟩
theorem kmFa_52 : Lk tbl RFa 52 yFa_isRectangle bFa_isRectangle 4 (some .boolean) 4 := ⟨tb1 218 (by decide +kernel) (by decide +kernel), tb1 1 (by decide +kernel) (by decide +kernel), kcFa_isRectangle, by decide +kernel, by decide +kernel, by decide +kernel⟩
theorem kmFa_59 : Lk tbl RFa 59 yBo_assign bBo_assign 6 none 5 := ⟨tb1 226 (by decide +kernel) (by decide +kernel), tb1 4 (by decide +kernel) (by decide +kernel), kcBo_assign, by decide +kernel, by decide +kernel, by decide +kernel⟩
theorem kmFa_63 : Lk tbl RFa 63 yTr_plant bTr_plant 3 none 1 := ⟨tb1 230 (by decide +kernel) (by decide +kernel), tb1 3 (by decide +kernel) (by decide +kernel), kcTr_plant, by decide +kernel, by decide +kernel, by decide +kernel⟩
theorem kmFa_67 : Lk tbl RFa 67 yFa_settle bFa_settle 3 (some .int) 1 := ⟨tb2 114 (by decide +kernel) (by decide +kernel), tb1 1 (by decide +kernel) (by decide +kernel), kcFa_settle, by decide +kernel, by decide +kernel, by decide +kernel⟩
theorem kmFa_71 : Lk tbl RFa 71 yTr_uproot bTr_uproot 3 (some .boolean) 1 := ⟨tb2 171 (by decide +kernel) (by decide +kernel), tb1 3 (by decide +kernel) (by decide +kernel), kcTr_uproot, by decide +kernel, by decide +kernel, by decide +kernel⟩
theorem kmFa_75 : Lk tbl RFa 75 yFa_searchWindow bFa_searchWindow 5 none 4 := ⟨tb2 186 (by decide +kernel) (by decide +kernel), tb1 1 (by decide +kernel) (by decide +kernel), kcFa_searchWindow, by decide +kernel, by decide +kernel, by decide +kernel⟩
theorem kmFa_89 : Lk tbl RFa 89 yFa_losePower bFa_losePower 1 none 0 := ⟨tb2 158 (by decide +kernel) (by decide +kernel), tb1 1 (by decide +kernel) (by decide +kernel), kcFa_losePower, by decide +kernel, by decide +kernel, by decide +kernel⟩
theorem kmFa_92 : Lk tbl RFa 92 yDi_recover bDi_recover 1 none 0 := ⟨tb2 232 (by decide +kernel) (by decide +kernel), tb1 2 (by decide +kernel) (by decide +kernel), kcDi_recover, by decide +kernel, by decide +kernel, by decide +kernel⟩
theorem kmFa_95 : Lk tbl RFa 95 yTr_readFrom bTr_readFrom 3 none 1 := ⟨tb2 236 (by decide +kernel) (by decide +kernel), tb1 3 (by decide +kernel) (by decide +kernel), kcTr_readFrom, by decide +kernel, by decide +kernel, by decide +kernel⟩
theorem kmFa_99 : Lk tbl RFa 99 yFa_noteThrift bFa_noteThrift 1 none 0 := ⟨tb3 19 (by decide +kernel) (by decide +kernel), tb1 1 (by decide +kernel) (by decide +kernel), kcFa_noteThrift, by decide +kernel, by decide +kernel, by decide +kernel⟩
theorem kmFa_102 : Lk tbl RFa 102 ySe_hitsInside bSe_hitsInside 4 (some .int) 1 := ⟨tb3 32 (by decide +kernel) (by decide +kernel), tb1 6 (by decide +kernel) (by decide +kernel), kcSe_hitsInside, by decide +kernel, by decide +kernel, by decide +kernel⟩
theorem kmFa_108 : Lk tbl RFa 108 yFa_isCoordinate bFa_isCoordinate 1 (some .boolean) 1 := ⟨tb1 221 (by decide +kernel) (by decide +kernel), tb1 1 (by decide +kernel) (by decide +kernel), kcFa_isCoordinate, by decide +kernel, by decide +kernel, by decide +kernel⟩
theorem kmFa_113 : Lk tbl RFa 113 yFa_searchPoint bFa_searchPoint 3 none 2 := ⟨tb3 47 (by decide +kernel) (by decide +kernel), tb1 1 (by decide +kernel) (by decide +kernel), kcFa_searchPoint, by decide +kernel, by decide +kernel, by decide +kernel⟩
theorem kmFa_128 : Lk tbl RFa 128 yTr_at bTr_at 2 (some (.object "BoxedPages$Page")) 1 := ⟨tb3 81 (by decide +kernel) (by decide +kernel), tb1 3 (by decide +kernel) (by decide +kernel), kcTr_at, by decide +kernel, by decide +kernel, by decide +kernel⟩
theorem kmFa_132 : Lk tbl RFa 132 yPa_frame bPa_frame 4 none 2 := ⟨tb3 82 (by decide +kernel) (by decide +kernel), tb1 5 (by decide +kernel) (by decide +kernel), kcPa_frame, by decide +kernel, by decide +kernel, by decide +kernel⟩
theorem kmFa_150 : Lk tbl RFa 150 yTr_isWhole bTr_isWhole 2 (some .boolean) 0 := ⟨tb3 87 (by decide +kernel) (by decide +kernel), tb1 3 (by decide +kernel) (by decide +kernel), kcTr_isWhole, by decide +kernel, by decide +kernel, by decide +kernel⟩
theorem kmFa_156 : Lk tbl RFa 156 ySe_gather bSe_gather 7 none 2 := ⟨tb2 190 (by decide +kernel) (by decide +kernel), tb1 6 (by decide +kernel) (by decide +kernel), kcSe_gather, by decide +kernel, by decide +kernel, by decide +kernel⟩
theorem kmFa_160 : Lk tbl RFa 160 ySe_lookedOnlyWhereMet bSe_lookedOnlyWhereMet 4 (some .boolean) 2 := ⟨tb3 23 (by decide +kernel) (by decide +kernel), tb1 6 (by decide +kernel) (by decide +kernel), kcSe_lookedOnlyWhereMet, by decide +kernel, by decide +kernel, by decide +kernel⟩
theorem kmFa_164 : Lk tbl RFa 164 ySe_approach bSe_approach 11 none 3 := ⟨tb3 51 (by decide +kernel) (by decide +kernel), tb1 6 (by decide +kernel) (by decide +kernel), kcSe_approach, by decide +kernel, by decide +kernel, by decide +kernel⟩
theorem kmFa_168 : Lk tbl RFa 168 ySe_lookedNoFarther bSe_lookedNoFarther 5 (some .boolean) 3 := ⟨tb3 68 (by decide +kernel) (by decide +kernel), tb1 6 (by decide +kernel) (by decide +kernel), kcSe_lookedNoFarther, by decide +kernel, by decide +kernel, by decide +kernel⟩
theorem kmFa_172 : Lk tbl RFa 172 yDi_keep bDi_keep 4 (some .boolean) 2 := ⟨tb2 118 (by decide +kernel) (by decide +kernel), tb1 2 (by decide +kernel) (by decide +kernel), kcDi_keep, by decide +kernel, by decide +kernel, by decide +kernel⟩
theorem kmFa_176 : Lk tbl RFa 176 yTr_markUnchanged bTr_markUnchanged 2 none 0 := ⟨tb2 154 (by decide +kernel) (by decide +kernel), tb1 3 (by decide +kernel) (by decide +kernel), kcTr_markUnchanged, by decide +kernel, by decide +kernel, by decide +kernel⟩
theorem kmFa_179 : Lk tbl RFa 179 yTr_forget bTr_forget 2 none 0 := ⟨tb2 162 (by decide +kernel) (by decide +kernel), tb1 3 (by decide +kernel) (by decide +kernel), kcTr_forget, by decide +kernel, by decide +kernel, by decide +kernel⟩
theorem kmBo_29 : Lk tbl RBo 29 yMa_max bMa_max 2 (some .int) 2 := ⟨tb2 25 (by decide +kernel) (by decide +kernel), tb1 8 (by decide +kernel) (by decide +kernel), kcMa_max, by decide +kernel, by decide +kernel, by decide +kernel⟩
theorem kmBo_35 : Lk tbl RBo 35 yMa_min bMa_min 2 (some .int) 2 := ⟨tb2 26 (by decide +kernel) (by decide +kernel), tb1 8 (by decide +kernel) (by decide +kernel), kcMa_min, by decide +kernel, by decide +kernel, by decide +kernel⟩
theorem kmDi_23 : Lk tbl RDi 23 yTr_changedPages bTr_changedPages 3 (some .int) 0 := ⟨tb2 122 (by decide +kernel) (by decide +kernel), tb1 3 (by decide +kernel) (by decide +kernel), kcTr_changedPages, by decide +kernel, by decide +kernel, by decide +kernel⟩
theorem kmDi_29 : Lk tbl RDi 29 yDi_writeLog bDi_writeLog 4 none 2 := ⟨tb2 130 (by decide +kernel) (by decide +kernel), tb1 2 (by decide +kernel) (by decide +kernel), kcDi_writeLog, by decide +kernel, by decide +kernel, by decide +kernel⟩
theorem kmDi_41 : Lk tbl RDi 41 yDi_writePlaces bDi_writePlaces 3 none 1 := ⟨tb2 143 (by decide +kernel) (by decide +kernel), tb1 2 (by decide +kernel) (by decide +kernel), kcDi_writePlaces, by decide +kernel, by decide +kernel, by decide +kernel⟩
theorem kmDi_45 : Lk tbl RDi 45 yDi_emptyLog bDi_emptyLog 1 none 0 := ⟨tb2 150 (by decide +kernel) (by decide +kernel), tb1 2 (by decide +kernel) (by decide +kernel), kcDi_emptyLog, by decide +kernel, by decide +kernel, by decide +kernel⟩
theorem kmDi_48 : Lk tbl RDi 48 yTr_isChanged bTr_isChanged 2 (some .boolean) 1 := ⟨tb2 134 (by decide +kernel) (by decide +kernel), tb1 3 (by decide +kernel) (by decide +kernel), kcTr_isChanged, by decide +kernel, by decide +kernel, by decide +kernel⟩
theorem kmDi_52 : Lk tbl RDi 52 yTr_writePage bTr_writePage 3 none 2 := ⟨tb2 135 (by decide +kernel) (by decide +kernel), tb1 3 (by decide +kernel) (by decide +kernel), kcTr_writePage, by decide +kernel, by decide +kernel, by decide +kernel⟩
theorem kmPa_29 : Lk tbl RPa 29 yBo_become bBo_become 2 none 1 := ⟨tb2 31 (by decide +kernel) (by decide +kernel), tb1 4 (by decide +kernel) (by decide +kernel), kcBo_become, by decide +kernel, by decide +kernel, by decide +kernel⟩
theorem kmPa_33 : Lk tbl RPa 33 yBo_shrinkToNothing bBo_shrinkToNothing 1 none 0 := ⟨tb2 55 (by decide +kernel) (by decide +kernel), tb1 4 (by decide +kernel) (by decide +kernel), kcBo_shrinkToNothing, by decide +kernel, by decide +kernel, by decide +kernel⟩
theorem kmPa_36 : Lk tbl RPa 36 yBo_widen bBo_widen 2 none 1 := ⟨tb2 61 (by decide +kernel) (by decide +kernel), tb1 4 (by decide +kernel) (by decide +kernel), kcBo_widen, by decide +kernel, by decide +kernel, by decide +kernel⟩
theorem kmPa_41 : Lk tbl RPa 41 yBo_area bBo_area 1 (some .long) 0 := ⟨tb2 17 (by decide +kernel) (by decide +kernel), tb1 4 (by decide +kernel) (by decide +kernel), kcBo_area, by decide +kernel, by decide +kernel, by decide +kernel⟩
theorem kmPa_45 : Lk tbl RPa 45 yBo_areaWith bBo_areaWith 6 (some .long) 1 := ⟨tb2 21 (by decide +kernel) (by decide +kernel), tb1 4 (by decide +kernel) (by decide +kernel), kcBo_areaWith, by decide +kernel, by decide +kernel, by decide +kernel⟩
theorem kmPa_64 : Lk tbl RPa 64 yMa_min bMa_min 2 (some .int) 2 := ⟨tb3 4 (by decide +kernel) (by decide +kernel), tb1 8 (by decide +kernel) (by decide +kernel), kcMa_min, by decide +kernel, by decide +kernel, by decide +kernel⟩
theorem kmPa_70 : Lk tbl RPa 70 yMa_max bMa_max 2 (some .int) 2 := ⟨tb3 5 (by decide +kernel) (by decide +kernel), tb1 8 (by decide +kernel) (by decide +kernel), kcMa_max, by decide +kernel, by decide +kernel, by decide +kernel⟩
theorem kmPa_73 : Lk tbl RPa 73 yBo_assign bBo_assign 6 none 5 := ⟨tb3 6 (by decide +kernel) (by decide +kernel), tb1 4 (by decide +kernel) (by decide +kernel), kcBo_assign, by decide +kernel, by decide +kernel, by decide +kernel⟩
theorem kmSe_45 : Lk tbl RSe 45 ySe_begin bSe_begin 2 none 1 := ⟨tb2 194 (by decide +kernel) (by decide +kernel), tb1 6 (by decide +kernel) (by decide +kernel), kcSe_begin, by decide +kernel, by decide +kernel, by decide +kernel⟩
theorem kmSe_52 : Lk tbl RSe 52 ySe_lookInto bSe_lookInto 4 (some (.object "BoxedPages$Page")) 2 := ⟨tb2 202 (by decide +kernel) (by decide +kernel), tb1 6 (by decide +kernel) (by decide +kernel), kcSe_lookInto, by decide +kernel, by decide +kernel, by decide +kernel⟩
theorem kmSe_64 : Lk tbl RSe 64 yBo_meets bBo_meets 2 (some .boolean) 1 := ⟨tb2 207 (by decide +kernel) (by decide +kernel), tb1 4 (by decide +kernel) (by decide +kernel), kcBo_meets, by decide +kernel, by decide +kernel, by decide +kernel⟩
theorem kmSe_71 : Lk tbl RSe 71 ySe_keepInOrder bSe_keepInOrder 3 none 1 := ⟨tb2 211 (by decide +kernel) (by decide +kernel), tb1 6 (by decide +kernel) (by decide +kernel), kcSe_keepInOrder, by decide +kernel, by decide +kernel, by decide +kernel⟩
theorem kmSe_78 : Lk tbl RSe 78 ySe_await bSe_await 4 none 2 := ⟨tb2 198 (by decide +kernel) (by decide +kernel), tb1 6 (by decide +kernel) (by decide +kernel), kcSe_await, by decide +kernel, by decide +kernel, by decide +kernel⟩
theorem kmSe_88 : Lk tbl RSe 88 ySe_nearestWaiting bSe_nearestWaiting 3 (some .int) 0 := ⟨tb3 56 (by decide +kernel) (by decide +kernel), tb1 6 (by decide +kernel) (by decide +kernel), kcSe_nearestWaiting, by decide +kernel, by decide +kernel, by decide +kernel⟩
theorem kmSe_92 : Lk tbl RSe 92 yBo_squareFrom bBo_squareFrom 7 (some .long) 2 := ⟨tb3 60 (by decide +kernel) (by decide +kernel), tb1 4 (by decide +kernel) (by decide +kernel), kcBo_squareFrom, by decide +kernel, by decide +kernel, by decide +kernel⟩
theorem kmSe_96 : Lk tbl RSe 96 ySe_keepCloser bSe_keepCloser 4 none 2 := ⟨tb3 64 (by decide +kernel) (by decide +kernel), tb1 6 (by decide +kernel) (by decide +kernel), kcSe_keepCloser, by decide +kernel, by decide +kernel, by decide +kernel⟩
theorem kmSe_100 : Lk tbl RSe 100 yBo_holds bBo_holds 2 (some .boolean) 1 := ⟨tb3 36 (by decide +kernel) (by decide +kernel), tb1 4 (by decide +kernel) (by decide +kernel), kcBo_holds, by decide +kernel, by decide +kernel, by decide +kernel⟩
theorem kmSe_106 : Lk tbl RSe 106 yTr_at bTr_at 2 (some (.object "BoxedPages$Page")) 1 := ⟨tb2 206 (by decide +kernel) (by decide +kernel), tb1 3 (by decide +kernel) (by decide +kernel), kcTr_at, by decide +kernel, by decide +kernel, by decide +kernel⟩
theorem kmSe_110 : Lk tbl RSe 110 yPa_frame bPa_frame 4 none 2 := ⟨tb3 27 (by decide +kernel) (by decide +kernel), tb1 5 (by decide +kernel) (by decide +kernel), kcPa_frame, by decide +kernel, by decide +kernel, by decide +kernel⟩
theorem kmSe_113 : Lk tbl RSe 113 yBo_precedes bBo_precedes 2 (some .boolean) 1 := ⟨tb2 215 (by decide +kernel) (by decide +kernel), tb1 4 (by decide +kernel) (by decide +kernel), kcBo_precedes, by decide +kernel, by decide +kernel, by decide +kernel⟩
theorem kmSe_116 : Lk tbl RSe 116 yBo_become bBo_become 2 none 1 := ⟨tb2 219 (by decide +kernel) (by decide +kernel), tb1 4 (by decide +kernel) (by decide +kernel), kcBo_become, by decide +kernel, by decide +kernel, by decide +kernel⟩
theorem kmTr_34 : Lk tbl RTr 34 yPa_init bPa_init 2 none 0 := ⟨tb1 88 (by decide +kernel) (by decide +kernel), tb1 5 (by decide +kernel) (by decide +kernel), kcPa_init, by decide +kernel, by decide +kernel, by decide +kernel⟩
theorem kmTr_42 : Lk tbl RTr 42 yTr_descend bTr_descend 5 (some .int) 1 := ⟨tb1 234 (by decide +kernel) (by decide +kernel), tb1 3 (by decide +kernel) (by decide +kernel), kcTr_descend, by decide +kernel, by decide +kernel, by decide +kernel⟩
theorem kmTr_46 : Lk tbl RTr 46 yTr_at bTr_at 2 (some (.object "BoxedPages$Page")) 1 := ⟨tb2 2 (by decide +kernel) (by decide +kernel), tb1 3 (by decide +kernel) (by decide +kernel), kcTr_at, by decide +kernel, by decide +kernel, by decide +kernel⟩
theorem kmTr_50 : Lk tbl RTr 50 yPa_add bPa_add 2 none 1 := ⟨tb2 27 (by decide +kernel) (by decide +kernel), tb1 5 (by decide +kernel) (by decide +kernel), kcPa_add, by decide +kernel, by decide +kernel, by decide +kernel⟩
theorem kmTr_57 : Lk tbl RTr 57 yTr_writeHeader bTr_writeHeader 3 none 2 := ⟨tb2 35 (by decide +kernel) (by decide +kernel), tb1 3 (by decide +kernel) (by decide +kernel), kcTr_writeHeader, by decide +kernel, by decide +kernel, by decide +kernel⟩
theorem kmTr_61 : Lk tbl RTr 61 yTr_climb bTr_climb 4 none 1 := ⟨tb2 39 (by decide +kernel) (by decide +kernel), tb1 3 (by decide +kernel) (by decide +kernel), kcTr_climb, by decide +kernel, by decide +kernel, by decide +kernel⟩
theorem kmTr_65 : Lk tbl RTr 65 yTr_seek bTr_seek 7 (some .boolean) 4 := ⟨tb2 175 (by decide +kernel) (by decide +kernel), tb1 3 (by decide +kernel) (by decide +kernel), kcTr_seek, by decide +kernel, by decide +kernel, by decide +kernel⟩
theorem kmTr_69 : Lk tbl RTr 69 yTr_lowestDepth bTr_lowestDepth 1 (some .int) 0 := ⟨tb1 238 (by decide +kernel) (by decide +kernel), tb1 3 (by decide +kernel) (by decide +kernel), kcTr_lowestDepth, by decide +kernel, by decide +kernel, by decide +kernel⟩
theorem kmTr_73 : Lk tbl RTr 73 yPa_drop bPa_drop 2 none 1 := ⟨tb2 82 (by decide +kernel) (by decide +kernel), tb1 5 (by decide +kernel) (by decide +kernel), kcPa_drop, by decide +kernel, by decide +kernel, by decide +kernel⟩
theorem kmTr_76 : Lk tbl RTr 76 yTr_entriesBelow bTr_entriesBelow 8 (some .int) 3 := ⟨tb3 91 (by decide +kernel) (by decide +kernel), tb1 3 (by decide +kernel) (by decide +kernel), kcTr_entriesBelow, by decide +kernel, by decide +kernel, by decide +kernel⟩
theorem kmTr_80 : Lk tbl RTr 80 yTr_isChanged bTr_isChanged 2 (some .boolean) 1 := ⟨tb2 126 (by decide +kernel) (by decide +kernel), tb1 3 (by decide +kernel) (by decide +kernel), kcTr_isChanged, by decide +kernel, by decide +kernel, by decide +kernel⟩
theorem kmTr_91 : Lk tbl RTr 91 yPa_writeTo bPa_writeTo 4 none 1 := ⟨tb2 139 (by decide +kernel) (by decide +kernel), tb1 5 (by decide +kernel) (by decide +kernel), kcPa_writeTo, by decide +kernel, by decide +kernel, by decide +kernel⟩
theorem kmTr_101 : Lk tbl RTr 101 yPa_readFrom bPa_readFrom 4 none 1 := ⟨tb3 0 (by decide +kernel) (by decide +kernel), tb1 5 (by decide +kernel) (by decide +kernel), kcPa_readFrom, by decide +kernel, by decide +kernel, by decide +kernel⟩
theorem kmTr_104 : Lk tbl RTr 104 yPa_open bPa_open 2 none 1 := ⟨tb2 78 (by decide +kernel) (by decide +kernel), tb1 5 (by decide +kernel) (by decide +kernel), kcPa_open, by decide +kernel, by decide +kernel, by decide +kernel⟩
theorem kmTr_107 : Lk tbl RTr 107 yTr_markUnchanged bTr_markUnchanged 2 none 0 := ⟨tb2 166 (by decide +kernel) (by decide +kernel), tb1 3 (by decide +kernel) (by decide +kernel), kcTr_markUnchanged, by decide +kernel, by decide +kernel, by decide +kernel⟩
theorem kmTr_110 : Lk tbl RTr 110 yMa_min bMa_min 2 (some .int) 2 := ⟨tb2 6 (by decide +kernel) (by decide +kernel), tb1 8 (by decide +kernel) (by decide +kernel), kcMa_min, by decide +kernel, by decide +kernel, by decide +kernel⟩
theorem kmTr_116 : Lk tbl RTr 116 yMa_max bMa_max 2 (some .int) 2 := ⟨tb2 9 (by decide +kernel) (by decide +kernel), tb1 8 (by decide +kernel) (by decide +kernel), kcMa_max, by decide +kernel, by decide +kernel, by decide +kernel⟩
theorem kmTr_119 : Lk tbl RTr 119 yPa_slotThatGrowsLeast bPa_slotThatGrowsLeast 12 (some .int) 1 := ⟨tb2 12 (by decide +kernel) (by decide +kernel), tb1 5 (by decide +kernel) (by decide +kernel), kcPa_slotThatGrowsLeast, by decide +kernel, by decide +kernel, by decide +kernel⟩
theorem kmTr_132 : Lk tbl RTr 132 yBo_isSame bBo_isSame 2 (some .boolean) 1 := ⟨tb2 65 (by decide +kernel) (by decide +kernel), tb1 4 (by decide +kernel) (by decide +kernel), kcBo_isSame, by decide +kernel, by decide +kernel, by decide +kernel⟩
theorem kmTr_136 : Lk tbl RTr 136 yBo_holds bBo_holds 2 (some .boolean) 1 := ⟨tb2 178 (by decide +kernel) (by decide +kernel), tb1 4 (by decide +kernel) (by decide +kernel), kcBo_holds, by decide +kernel, by decide +kernel, by decide +kernel⟩
theorem kmTr_139 : Lk tbl RTr 139 yTr_mend bTr_mend 6 none 2 := ⟨tb2 43 (by decide +kernel) (by decide +kernel), tb1 3 (by decide +kernel) (by decide +kernel), kcTr_mend, by decide +kernel, by decide +kernel, by decide +kernel⟩
theorem kmTr_143 : Lk tbl RTr 143 yTr_openPage bTr_openPage 3 (some .int) 1 := ⟨tb2 86 (by decide +kernel) (by decide +kernel), tb1 3 (by decide +kernel) (by decide +kernel), kcTr_openPage, by decide +kernel, by decide +kernel, by decide +kernel⟩
theorem kmTr_147 : Lk tbl RTr 147 yTr_hang bTr_hang 3 none 2 := ⟨tb2 110 (by decide +kernel) (by decide +kernel), tb1 3 (by decide +kernel) (by decide +kernel), kcTr_hang, by decide +kernel, by decide +kernel, by decide +kernel⟩
theorem kmTr_150 : Lk tbl RTr 150 yTr_tellFrame bTr_tellFrame 4 none 2 := ⟨tb2 47 (by decide +kernel) (by decide +kernel), tb1 3 (by decide +kernel) (by decide +kernel), kcTr_tellFrame, by decide +kernel, by decide +kernel, by decide +kernel⟩
theorem kmTr_153 : Lk tbl RTr 153 yPa_bestPartner bPa_bestPartner 8 (some .int) 1 := ⟨tb2 70 (by decide +kernel) (by decide +kernel), tb1 5 (by decide +kernel) (by decide +kernel), kcPa_bestPartner, by decide +kernel, by decide +kernel, by decide +kernel⟩
theorem kmTr_156 : Lk tbl RTr 156 yTr_merge bTr_merge 7 none 3 := ⟨tb2 74 (by decide +kernel) (by decide +kernel), tb1 3 (by decide +kernel) (by decide +kernel), kcTr_merge, by decide +kernel, by decide +kernel, by decide +kernel⟩
theorem kmTr_160 : Lk tbl RTr 160 yTr_bestDivision bTr_bestDivision 13 (some .int) 1 := ⟨tb2 90 (by decide +kernel) (by decide +kernel), tb1 3 (by decide +kernel) (by decide +kernel), kcTr_bestDivision, by decide +kernel, by decide +kernel, by decide +kernel⟩
theorem kmTr_164 : Lk tbl RTr 164 yTr_moveOut bTr_moveOut 5 none 3 := ⟨tb2 106 (by decide +kernel) (by decide +kernel), tb1 3 (by decide +kernel) (by decide +kernel), kcTr_moveOut, by decide +kernel, by decide +kernel, by decide +kernel⟩
theorem kmTr_168 : Lk tbl RTr 168 yPa_frame bPa_frame 4 none 2 := ⟨tb2 51 (by decide +kernel) (by decide +kernel), tb1 5 (by decide +kernel) (by decide +kernel), kcPa_frame, by decide +kernel, by decide +kernel, by decide +kernel⟩
theorem kmTr_171 : Lk tbl RTr 171 yBo_become bBo_become 2 none 1 := ⟨tb2 69 (by decide +kernel) (by decide +kernel), tb1 4 (by decide +kernel) (by decide +kernel), kcBo_become, by decide +kernel, by decide +kernel, by decide +kernel⟩
theorem kmTr_176 : Lk tbl RTr 176 yIn_bitCount bIn_bitCount 1 (some .int) 1 := ⟨tb2 95 (by decide +kernel) (by decide +kernel), tb1 9 (by decide +kernel) (by decide +kernel), kcIn_bitCount, by decide +kernel, by decide +kernel, by decide +kernel⟩
theorem kmTr_181 : Lk tbl RTr 181 yBo_area bBo_area 1 (some .long) 0 := ⟨tb2 101 (by decide +kernel) (by decide +kernel), tb1 4 (by decide +kernel) (by decide +kernel), kcBo_area, by decide +kernel, by decide +kernel, by decide +kernel⟩
theorem kmTr_185 : Lk tbl RTr 185 yBo_rim bBo_rim 1 (some .long) 0 := ⟨tb2 102 (by decide +kernel) (by decide +kernel), tb1 4 (by decide +kernel) (by decide +kernel), kcBo_rim, by decide +kernel, by decide +kernel, by decide +kernel⟩
theorem kmLa_9 : Lk tbl RLa 9 yFa_init bFa_init 1 none 0 := ⟨tb1 13 (by decide +kernel) (by decide +kernel), tb1 1 (by decide +kernel) (by decide +kernel), kcFa_init, by decide +kernel, by decide +kernel, by decide +kernel⟩
theorem kmLa_12 : Lk tbl RLa 12 yMo_init bMo_init 1 none 0 := ⟨tb3 100 (by decide +kernel) (by decide +kernel), tb1 7 (by decide +kernel) (by decide +kernel), kcMo_init, by decide +kernel, by decide +kernel, by decide +kernel⟩
theorem kmLa_13 : Lk tbl RLa 13 yFa_insert bFa_insert 6 (some .int) 5 := ⟨tb1 211 (by decide +kernel) (by decide +kernel), tb1 1 (by decide +kernel) (by decide +kernel), kcFa_insert, by decide +kernel, by decide +kernel, by decide +kernel⟩
theorem kmLa_17 : Lk tbl RLa 17 yMo_insert bMo_insert 9 (some .int) 5 := ⟨tb3 117 (by decide +kernel) (by decide +kernel), tb1 7 (by decide +kernel) (by decide +kernel), kcMo_insert, by decide +kernel, by decide +kernel, by decide +kernel⟩
theorem kmLa_18 : Lk tbl RLa 18 yFa_delete bFa_delete 6 (some .int) 5 := ⟨tb2 167 (by decide +kernel) (by decide +kernel), tb1 1 (by decide +kernel) (by decide +kernel), kcFa_delete, by decide +kernel, by decide +kernel, by decide +kernel⟩
theorem kmLa_21 : Lk tbl RLa 21 yMo_delete bMo_delete 8 (some .int) 5 := ⟨tb3 152 (by decide +kernel) (by decide +kernel), tb1 7 (by decide +kernel) (by decide +kernel), kcMo_delete, by decide +kernel, by decide +kernel, by decide +kernel⟩
theorem kmLa_22 : Lk tbl RLa 22 yFa_take bFa_take 6 (some .int) 4 := ⟨tb2 182 (by decide +kernel) (by decide +kernel), tb1 1 (by decide +kernel) (by decide +kernel), kcFa_take, by decide +kernel, by decide +kernel, by decide +kernel⟩
theorem kmLa_26 : Lk tbl RLa 26 yMo_take bMo_take 7 (some .int) 4 := ⟨tb3 164 (by decide +kernel) (by decide +kernel), tb1 7 (by decide +kernel) (by decide +kernel), kcMo_take, by decide +kernel, by decide +kernel, by decide +kernel⟩
theorem kmLa_27 : Lk tbl RLa 27 yFa_cut bFa_cut 2 (some .boolean) 1 := ⟨tb2 220 (by decide +kernel) (by decide +kernel), tb1 1 (by decide +kernel) (by decide +kernel), kcFa_cut, by decide +kernel, by decide +kernel, by decide +kernel⟩
theorem kmLa_31 : Lk tbl RLa 31 yMo_cut bMo_cut 2 (some .boolean) 1 := ⟨tb3 176 (by decide +kernel) (by decide +kernel), tb1 7 (by decide +kernel) (by decide +kernel), kcMo_cut, by decide +kernel, by decide +kernel, by decide +kernel⟩
theorem kmLa_32 : Lk tbl RLa 32 yFa_stop bFa_stop 1 (some .boolean) 0 := ⟨tb2 224 (by decide +kernel) (by decide +kernel), tb1 1 (by decide +kernel) (by decide +kernel), kcFa_stop, by decide +kernel, by decide +kernel, by decide +kernel⟩
theorem kmLa_36 : Lk tbl RLa 36 yMo_stop bMo_stop 1 (some .boolean) 0 := ⟨tb3 180 (by decide +kernel) (by decide +kernel), tb1 7 (by decide +kernel) (by decide +kernel), kcMo_stop, by decide +kernel, by decide +kernel, by decide +kernel⟩
theorem kmLa_37 : Lk tbl RLa 37 yFa_start bFa_start 1 (some .boolean) 0 := ⟨tb2 228 (by decide +kernel) (by decide +kernel), tb1 1 (by decide +kernel) (by decide +kernel), kcFa_start, by decide +kernel, by decide +kernel, by decide +kernel⟩
theorem kmLa_40 : Lk tbl RLa 40 yMo_start bMo_start 1 (some .boolean) 0 := ⟨tb3 184 (by decide +kernel) (by decide +kernel), tb1 7 (by decide +kernel) (by decide +kernel), kcMo_start, by decide +kernel, by decide +kernel, by decide +kernel⟩
theorem kmLa_41 : Lk tbl RLa 41 yFa_up bFa_up 1 (some .boolean) 0 := ⟨tb3 7 (by decide +kernel) (by decide +kernel), tb1 1 (by decide +kernel) (by decide +kernel), kcFa_up, by decide +kernel, by decide +kernel, by decide +kernel⟩
theorem kmLa_44 : Lk tbl RLa 44 yMo_up bMo_up 1 (some .boolean) 0 := ⟨tb3 188 (by decide +kernel) (by decide +kernel), tb1 7 (by decide +kernel) (by decide +kernel), kcMo_up, by decide +kernel, by decide +kernel, by decide +kernel⟩
theorem kmLa_45 : Lk tbl RLa 45 yFa_size bFa_size 1 (some .int) 0 := ⟨tb3 11 (by decide +kernel) (by decide +kernel), tb1 1 (by decide +kernel) (by decide +kernel), kcFa_size, by decide +kernel, by decide +kernel, by decide +kernel⟩
theorem kmLa_49 : Lk tbl RLa 49 yMo_size bMo_size 1 (some .int) 0 := ⟨tb3 192 (by decide +kernel) (by decide +kernel), tb1 7 (by decide +kernel) (by decide +kernel), kcMo_size, by decide +kernel, by decide +kernel, by decide +kernel⟩
theorem kmLa_50 : Lk tbl RLa 50 yFa_count bFa_count 5 (some .int) 4 := ⟨tb3 15 (by decide +kernel) (by decide +kernel), tb1 1 (by decide +kernel) (by decide +kernel), kcFa_count, by decide +kernel, by decide +kernel, by decide +kernel⟩
theorem kmLa_53 : Lk tbl RLa 53 yMo_count bMo_count 7 (some .int) 4 := ⟨tb3 196 (by decide +kernel) (by decide +kernel), tb1 7 (by decide +kernel) (by decide +kernel), kcMo_count, by decide +kernel, by decide +kernel, by decide +kernel⟩
theorem kmLa_54 : Lk tbl RLa 54 yFa_within bFa_within 5 (some .int) 4 := ⟨tb3 28 (by decide +kernel) (by decide +kernel), tb1 1 (by decide +kernel) (by decide +kernel), kcFa_within, by decide +kernel, by decide +kernel, by decide +kernel⟩
theorem kmLa_57 : Lk tbl RLa 57 yMo_within bMo_within 7 (some .int) 4 := ⟨tb3 200 (by decide +kernel) (by decide +kernel), tb1 7 (by decide +kernel) (by decide +kernel), kcMo_within, by decide +kernel, by decide +kernel, by decide +kernel⟩
theorem kmLa_58 : Lk tbl RLa 58 yFa_pick bFa_pick 6 (some .int) 5 := ⟨tb3 37 (by decide +kernel) (by decide +kernel), tb1 1 (by decide +kernel) (by decide +kernel), kcFa_pick, by decide +kernel, by decide +kernel, by decide +kernel⟩
theorem kmLa_61 : Lk tbl RLa 61 yMo_pick bMo_pick 7 (some .int) 5 := ⟨tb3 204 (by decide +kernel) (by decide +kernel), tb1 7 (by decide +kernel) (by decide +kernel), kcMo_pick, by decide +kernel, by decide +kernel, by decide +kernel⟩
theorem kmLa_62 : Lk tbl RLa 62 yFa_distance bFa_distance 3 (some .long) 2 := ⟨tb3 41 (by decide +kernel) (by decide +kernel), tb1 1 (by decide +kernel) (by decide +kernel), kcFa_distance, by decide +kernel, by decide +kernel, by decide +kernel⟩
theorem kmLa_66 : Lk tbl RLa 66 yMo_distance bMo_distance 4 (some .long) 2 := ⟨tb3 208 (by decide +kernel) (by decide +kernel), tb1 7 (by decide +kernel) (by decide +kernel), kcMo_distance, by decide +kernel, by decide +kernel, by decide +kernel⟩
theorem kmLa_67 : Lk tbl RLa 67 yFa_nearest bFa_nearest 3 (some .int) 2 := ⟨tb3 72 (by decide +kernel) (by decide +kernel), tb1 1 (by decide +kernel) (by decide +kernel), kcFa_nearest, by decide +kernel, by decide +kernel, by decide +kernel⟩
theorem kmLa_71 : Lk tbl RLa 71 yMo_nearest bMo_nearest 4 (some .int) 2 := ⟨tb3 225 (by decide +kernel) (by decide +kernel), tb1 7 (by decide +kernel) (by decide +kernel), kcMo_nearest, by decide +kernel, by decide +kernel, by decide +kernel⟩
theorem kmLa_72 : Lk tbl RLa 72 yFa_around bFa_around 2 (some .int) 1 := ⟨tb3 76 (by decide +kernel) (by decide +kernel), tb1 1 (by decide +kernel) (by decide +kernel), kcFa_around, by decide +kernel, by decide +kernel, by decide +kernel⟩
theorem kmLa_76 : Lk tbl RLa 76 yMo_around bMo_around 5 (some .int) 1 := ⟨tb3 229 (by decide +kernel) (by decide +kernel), tb1 7 (by decide +kernel) (by decide +kernel), kcMo_around, by decide +kernel, by decide +kernel, by decide +kernel⟩
theorem kmLa_77 : Lk tbl RLa 77 yFa_sound bFa_sound 1 (some .boolean) 0 := ⟨tb3 83 (by decide +kernel) (by decide +kernel), tb1 1 (by decide +kernel) (by decide +kernel), kcFa_sound, by decide +kernel, by decide +kernel, by decide +kernel⟩
theorem kmLa_80 : Lk tbl RLa 80 yMo_sound bMo_sound 1 (some .boolean) 0 := ⟨tb3 234 (by decide +kernel) (by decide +kernel), tb1 7 (by decide +kernel) (by decide +kernel), kcMo_sound, by decide +kernel, by decide +kernel, by decide +kernel⟩
theorem kmLa_81 : Lk tbl RLa 81 yFa_frugal bFa_frugal 1 (some .boolean) 0 := ⟨tb3 94 (by decide +kernel) (by decide +kernel), tb1 1 (by decide +kernel) (by decide +kernel), kcFa_frugal, by decide +kernel, by decide +kernel, by decide +kernel⟩
theorem kmLa_84 : Lk tbl RLa 84 yMo_frugal bMo_frugal 1 (some .boolean) 0 := ⟨tb3 238 (by decide +kernel) (by decide +kernel), tb1 7 (by decide +kernel) (by decide +kernel), kcMo_frugal, by decide +kernel, by decide +kernel, by decide +kernel⟩
theorem kmMo_23 : Lk tbl RMo 23 yMo_far bMo_far 1 (some .boolean) 1 := ⟨tb3 127 (by decide +kernel) (by decide +kernel), tb1 7 (by decide +kernel) (by decide +kernel), kcMo_far, by decide +kernel, by decide +kernel, by decide +kernel⟩
theorem kmMo_27 : Lk tbl RMo 27 yMo_part bMo_part 3 (some .int) 2 := ⟨tb3 144 (by decide +kernel) (by decide +kernel), tb1 7 (by decide +kernel) (by decide +kernel), kcMo_part, by decide +kernel, by decide +kernel, by decide +kernel⟩
theorem kmMo_31 : Lk tbl RMo 31 yMo_badName bMo_badName 1 (some .boolean) 1 := ⟨tb3 121 (by decide +kernel) (by decide +kernel), tb1 7 (by decide +kernel) (by decide +kernel), kcMo_badName, by decide +kernel, by decide +kernel, by decide +kernel⟩
theorem kmMo_34 : Lk tbl RMo 34 yMo_bad bMo_bad 4 (some .boolean) 4 := ⟨tb3 124 (by decide +kernel) (by decide +kernel), tb1 7 (by decide +kernel) (by decide +kernel), kcMo_bad, by decide +kernel, by decide +kernel, by decide +kernel⟩
theorem kmMo_41 : Lk tbl RMo 41 yMo_counts bMo_counts 1 (some .boolean) 0 := ⟨tb3 132 (by decide +kernel) (by decide +kernel), tb1 7 (by decide +kernel) (by decide +kernel), kcMo_counts, by decide +kernel, by decide +kernel, by decide +kernel⟩
theorem kmMo_45 : Lk tbl RMo 45 yMo_set bMo_set 4 none 3 := ⟨tb3 136 (by decide +kernel) (by decide +kernel), tb1 7 (by decide +kernel) (by decide +kernel), kcMo_set, by decide +kernel, by decide +kernel, by decide +kernel⟩
theorem kmMo_49 : Lk tbl RMo 49 yMo_before bMo_before 4 (some .boolean) 2 := ⟨tb3 140 (by decide +kernel) (by decide +kernel), tb1 7 (by decide +kernel) (by decide +kernel), kcMo_before, by decide +kernel, by decide +kernel, by decide +kernel⟩
theorem kmMo_53 : Lk tbl RMo 53 yMo_ended bMo_ended 2 (some .int) 1 := ⟨tb3 148 (by decide +kernel) (by decide +kernel), tb1 7 (by decide +kernel) (by decide +kernel), kcMo_ended, by decide +kernel, by decide +kernel, by decide +kernel⟩
theorem kmMo_57 : Lk tbl RMo 57 yMo_is bMo_is 6 (some .boolean) 5 := ⟨tb3 156 (by decide +kernel) (by decide +kernel), tb1 7 (by decide +kernel) (by decide +kernel), kcMo_is, by decide +kernel, by decide +kernel, by decide +kernel⟩
theorem kmMo_61 : Lk tbl RMo 61 yMo_remove bMo_remove 3 none 1 := ⟨tb3 160 (by decide +kernel) (by decide +kernel), tb1 7 (by decide +kernel) (by decide +kernel), kcMo_remove, by decide +kernel, by decide +kernel, by decide +kernel⟩
theorem kmMo_65 : Lk tbl RMo 65 yMo_meets bMo_meets 6 (some .boolean) 5 := ⟨tb3 172 (by decide +kernel) (by decide +kernel), tb1 7 (by decide +kernel) (by decide +kernel), kcMo_meets, by decide +kernel, by decide +kernel, by decide +kernel⟩
theorem kmMo_68 : Lk tbl RMo 68 yMo_meeting bMo_meeting 8 (some .int) 5 := ⟨tb3 168 (by decide +kernel) (by decide +kernel), tb1 7 (by decide +kernel) (by decide +kernel), kcMo_meeting, by decide +kernel, by decide +kernel, by decide +kernel⟩
theorem kmMo_72 : Lk tbl RMo 72 yMo_off bMo_off 3 (some .long) 3 := ⟨tb3 221 (by decide +kernel) (by decide +kernel), tb1 7 (by decide +kernel) (by decide +kernel), kcMo_off, by decide +kernel, by decide +kernel, by decide +kernel⟩
theorem kmMo_76 : Lk tbl RMo 76 yMo_farFrom bMo_farFrom 8 (some .long) 3 := ⟨tb3 217 (by decide +kernel) (by decide +kernel), tb1 7 (by decide +kernel) (by decide +kernel), kcMo_farFrom, by decide +kernel, by decide +kernel, by decide +kernel⟩
theorem kmMo_81 : Lk tbl RMo 81 yMo_nearestOne bMo_nearestOne 5 (some .int) 2 := ⟨tb3 213 (by decide +kernel) (by decide +kernel), tb1 7 (by decide +kernel) (by decide +kernel), kcMo_nearestOne, by decide +kernel, by decide +kernel, by decide +kernel⟩

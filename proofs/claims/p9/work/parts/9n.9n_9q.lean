/-! part 9n.law1 -/
section
set_option maxRecDepth 100000 in
theorem db_cL_law_dL_law_0_0 : (decode cL_law 0 = .ok (.new 8, 3)) ∧ (decode cL_law 3 = .ok (.dup, 1)) ∧ (decode cL_law 4 = .ok (.invokespecial 115, 3)) ∧ (decode cL_law 7 = .ok (.astore_n 1, 1)) ∧ (decode cL_law 8 = .ok (.new 116, 3)) ∧ (decode cL_law 11 = .ok (.dup, 1)) ∧ (decode cL_law 12 = .ok (.invokespecial 118, 3)) ∧ (decode cL_law 15 = .ok (.astore_n 2, 1)) ∧ (decode cL_law 16 = .ok (.new 14, 3)) ∧ (decode cL_law 19 = .ok (.dup, 1)) ∧ (decode cL_law 20 = .ok (.invokespecial 119, 3)) ∧ (decode cL_law 23 = .ok (.astore_n 3, 1)) := by decide +kernel
def dL_law_0 := db_cL_law_dL_law_0_0.1
def dL_law_3 := db_cL_law_dL_law_0_0.2.1
def dL_law_4 := db_cL_law_dL_law_0_0.2.2.1
def dL_law_7 := db_cL_law_dL_law_0_0.2.2.2.1
def dL_law_8 := db_cL_law_dL_law_0_0.2.2.2.2.1
def dL_law_11 := db_cL_law_dL_law_0_0.2.2.2.2.2.1
def dL_law_12 := db_cL_law_dL_law_0_0.2.2.2.2.2.2.1
def dL_law_15 := db_cL_law_dL_law_0_0.2.2.2.2.2.2.2.1
def dL_law_16 := db_cL_law_dL_law_0_0.2.2.2.2.2.2.2.2.1
def dL_law_19 := db_cL_law_dL_law_0_0.2.2.2.2.2.2.2.2.2.1
def dL_law_20 := db_cL_law_dL_law_0_0.2.2.2.2.2.2.2.2.2.2.1
def dL_law_23 := db_cL_law_dL_law_0_0.2.2.2.2.2.2.2.2.2.2.2
set_option maxRecDepth 100000 in
theorem db_cL_law_dL_law_24_1 : (decode cL_law 24 = .ok (.iconst 0, 1)) ∧ (decode cL_law 25 = .ok (.istore 4, 2)) ∧ (decode cL_law 27 = .ok (.iload 4, 2)) ∧ (decode cL_law 29 = .ok (.aload_n 0, 1)) ∧ (decode cL_law 30 = .ok (.arraylength, 1)) ∧ (decode cL_law 31 = .ok (.bipush 6, 2)) ∧ (decode cL_law 33 = .ok (.isub, 1)) ∧ (decode cL_law 34 = .ok (.if_icmp .gt 1544, 3)) ∧ (decode cL_law 37 = .ok (.aload_n 0, 1)) ∧ (decode cL_law 38 = .ok (.iload 4, 2)) ∧ (decode cL_law 40 = .ok (.iaload, 1)) ∧ (decode cL_law 41 = .ok (.bipush 31, 2)) := by decide +kernel
def dL_law_24 := db_cL_law_dL_law_24_1.1
def dL_law_25 := db_cL_law_dL_law_24_1.2.1
def dL_law_27 := db_cL_law_dL_law_24_1.2.2.1
def dL_law_29 := db_cL_law_dL_law_24_1.2.2.2.1
def dL_law_30 := db_cL_law_dL_law_24_1.2.2.2.2.1
def dL_law_31 := db_cL_law_dL_law_24_1.2.2.2.2.2.1
def dL_law_33 := db_cL_law_dL_law_24_1.2.2.2.2.2.2.1
def dL_law_34 := db_cL_law_dL_law_24_1.2.2.2.2.2.2.2.1
def dL_law_37 := db_cL_law_dL_law_24_1.2.2.2.2.2.2.2.2.1
def dL_law_38 := db_cL_law_dL_law_24_1.2.2.2.2.2.2.2.2.2.1
def dL_law_40 := db_cL_law_dL_law_24_1.2.2.2.2.2.2.2.2.2.2.1
def dL_law_41 := db_cL_law_dL_law_24_1.2.2.2.2.2.2.2.2.2.2.2
set_option maxRecDepth 100000 in
theorem db_cL_law_dL_law_43_2 : (decode cL_law 43 = .ok (.iand, 1)) ∧ (decode cL_law 44 = .ok (.tableswitch 1528 0 29 #[136, 176, 268, 332, 428, 492, 532, 572, 629, 657, 685, 725, 793, 857, 897, 949, 1001, 1065, 1105, 1145, 1173, 1225, 1265, 1317, 1357, 1397, 1461, 1489, 1502, 1515], 136)) ∧ (decode cL_law 180 = .ok (.aload_n 1, 1)) ∧ (decode cL_law 181 = .ok (.aload_n 0, 1)) ∧ (decode cL_law 182 = .ok (.iload 4, 2)) ∧ (decode cL_law 184 = .ok (.iconst 1, 1)) ∧ (decode cL_law 185 = .ok (.iadd, 1)) ∧ (decode cL_law 186 = .ok (.iaload, 1)) ∧ (decode cL_law 187 = .ok (.aload_n 0, 1)) ∧ (decode cL_law 188 = .ok (.iload 4, 2)) ∧ (decode cL_law 190 = .ok (.iconst 2, 1)) ∧ (decode cL_law 191 = .ok (.iadd, 1)) := by decide +kernel
def dL_law_43 := db_cL_law_dL_law_43_2.1
def dL_law_44 := db_cL_law_dL_law_43_2.2.1
def dL_law_180 := db_cL_law_dL_law_43_2.2.2.1
def dL_law_181 := db_cL_law_dL_law_43_2.2.2.2.1
def dL_law_182 := db_cL_law_dL_law_43_2.2.2.2.2.1
def dL_law_184 := db_cL_law_dL_law_43_2.2.2.2.2.2.1
def dL_law_185 := db_cL_law_dL_law_43_2.2.2.2.2.2.2.1
def dL_law_186 := db_cL_law_dL_law_43_2.2.2.2.2.2.2.2.1
def dL_law_187 := db_cL_law_dL_law_43_2.2.2.2.2.2.2.2.2.1
def dL_law_188 := db_cL_law_dL_law_43_2.2.2.2.2.2.2.2.2.2.1
def dL_law_190 := db_cL_law_dL_law_43_2.2.2.2.2.2.2.2.2.2.2.1
def dL_law_191 := db_cL_law_dL_law_43_2.2.2.2.2.2.2.2.2.2.2.2
set_option maxRecDepth 100000 in
theorem db_cL_law_dL_law_192_3 : (decode cL_law 192 = .ok (.iaload, 1)) ∧ (decode cL_law 193 = .ok (.aload_n 3, 1)) ∧ (decode cL_law 194 = .ok (.invokestatic 120, 3)) ∧ (decode cL_law 197 = .ok (.istore 5, 2)) ∧ (decode cL_law 199 = .ok (.aload_n 2, 1)) ∧ (decode cL_law 200 = .ok (.aload_n 0, 1)) ∧ (decode cL_law 201 = .ok (.iload 4, 2)) ∧ (decode cL_law 203 = .ok (.iconst 1, 1)) ∧ (decode cL_law 204 = .ok (.iadd, 1)) ∧ (decode cL_law 205 = .ok (.iaload, 1)) ∧ (decode cL_law 206 = .ok (.aload_n 0, 1)) ∧ (decode cL_law 207 = .ok (.iload 4, 2)) := by decide +kernel
def dL_law_192 := db_cL_law_dL_law_192_3.1
def dL_law_193 := db_cL_law_dL_law_192_3.2.1
def dL_law_194 := db_cL_law_dL_law_192_3.2.2.1
def dL_law_197 := db_cL_law_dL_law_192_3.2.2.2.1
def dL_law_199 := db_cL_law_dL_law_192_3.2.2.2.2.1
def dL_law_200 := db_cL_law_dL_law_192_3.2.2.2.2.2.1
def dL_law_201 := db_cL_law_dL_law_192_3.2.2.2.2.2.2.1
def dL_law_203 := db_cL_law_dL_law_192_3.2.2.2.2.2.2.2.1
def dL_law_204 := db_cL_law_dL_law_192_3.2.2.2.2.2.2.2.2.1
def dL_law_205 := db_cL_law_dL_law_192_3.2.2.2.2.2.2.2.2.2.1
def dL_law_206 := db_cL_law_dL_law_192_3.2.2.2.2.2.2.2.2.2.2.1
def dL_law_207 := db_cL_law_dL_law_192_3.2.2.2.2.2.2.2.2.2.2.2
set_option maxRecDepth 100000 in
theorem db_cL_law_dL_law_209_4 : (decode cL_law 209 = .ok (.iconst 2, 1)) ∧ (decode cL_law 210 = .ok (.iadd, 1)) ∧ (decode cL_law 211 = .ok (.iaload, 1)) ∧ (decode cL_law 212 = .ok (.invokevirtual 125, 3)) ∧ (decode cL_law 215 = .ok (.istore 6, 2)) ∧ (decode cL_law 217 = .ok (.goto 1355, 3)) ∧ (decode cL_law 220 = .ok (.aload_n 1, 1)) ∧ (decode cL_law 221 = .ok (.aload_n 0, 1)) ∧ (decode cL_law 222 = .ok (.iload 4, 2)) ∧ (decode cL_law 224 = .ok (.iconst 1, 1)) ∧ (decode cL_law 225 = .ok (.iadd, 1)) ∧ (decode cL_law 226 = .ok (.iaload, 1)) := by decide +kernel
def dL_law_209 := db_cL_law_dL_law_209_4.1
def dL_law_210 := db_cL_law_dL_law_209_4.2.1
def dL_law_211 := db_cL_law_dL_law_209_4.2.2.1
def dL_law_212 := db_cL_law_dL_law_209_4.2.2.2.1
def dL_law_215 := db_cL_law_dL_law_209_4.2.2.2.2.1
def dL_law_217 := db_cL_law_dL_law_209_4.2.2.2.2.2.1
def dL_law_220 := db_cL_law_dL_law_209_4.2.2.2.2.2.2.1
def dL_law_221 := db_cL_law_dL_law_209_4.2.2.2.2.2.2.2.1
def dL_law_222 := db_cL_law_dL_law_209_4.2.2.2.2.2.2.2.2.1
def dL_law_224 := db_cL_law_dL_law_209_4.2.2.2.2.2.2.2.2.2.1
def dL_law_225 := db_cL_law_dL_law_209_4.2.2.2.2.2.2.2.2.2.2.1
def dL_law_226 := db_cL_law_dL_law_209_4.2.2.2.2.2.2.2.2.2.2.2
set_option maxRecDepth 100000 in
theorem db_cL_law_dL_law_227_5 : (decode cL_law 227 = .ok (.aload_n 0, 1)) ∧ (decode cL_law 228 = .ok (.iload 4, 2)) ∧ (decode cL_law 230 = .ok (.iconst 2, 1)) ∧ (decode cL_law 231 = .ok (.iadd, 1)) ∧ (decode cL_law 232 = .ok (.iaload, 1)) ∧ (decode cL_law 233 = .ok (.aload_n 0, 1)) ∧ (decode cL_law 234 = .ok (.iload 4, 2)) ∧ (decode cL_law 236 = .ok (.iconst 3, 1)) ∧ (decode cL_law 237 = .ok (.iadd, 1)) ∧ (decode cL_law 238 = .ok (.iaload, 1)) ∧ (decode cL_law 239 = .ok (.aload_n 0, 1)) ∧ (decode cL_law 240 = .ok (.iload 4, 2)) := by decide +kernel
def dL_law_227 := db_cL_law_dL_law_227_5.1
def dL_law_228 := db_cL_law_dL_law_227_5.2.1
def dL_law_230 := db_cL_law_dL_law_227_5.2.2.1
def dL_law_231 := db_cL_law_dL_law_227_5.2.2.2.1
def dL_law_232 := db_cL_law_dL_law_227_5.2.2.2.2.1
def dL_law_233 := db_cL_law_dL_law_227_5.2.2.2.2.2.1
def dL_law_234 := db_cL_law_dL_law_227_5.2.2.2.2.2.2.1
def dL_law_236 := db_cL_law_dL_law_227_5.2.2.2.2.2.2.2.1
def dL_law_237 := db_cL_law_dL_law_227_5.2.2.2.2.2.2.2.2.1
def dL_law_238 := db_cL_law_dL_law_227_5.2.2.2.2.2.2.2.2.2.1
def dL_law_239 := db_cL_law_dL_law_227_5.2.2.2.2.2.2.2.2.2.2.1
def dL_law_240 := db_cL_law_dL_law_227_5.2.2.2.2.2.2.2.2.2.2.2
set_option maxRecDepth 100000 in
theorem db_cL_law_dL_law_242_6 : (decode cL_law 242 = .ok (.iconst 4, 1)) ∧ (decode cL_law 243 = .ok (.iadd, 1)) ∧ (decode cL_law 244 = .ok (.iaload, 1)) ∧ (decode cL_law 245 = .ok (.aload_n 0, 1)) ∧ (decode cL_law 246 = .ok (.iload 4, 2)) ∧ (decode cL_law 248 = .ok (.iconst 5, 1)) ∧ (decode cL_law 249 = .ok (.iadd, 1)) ∧ (decode cL_law 250 = .ok (.iaload, 1)) ∧ (decode cL_law 251 = .ok (.ifCond .eq 7, 3)) ∧ (decode cL_law 254 = .ok (.iconst 1, 1)) ∧ (decode cL_law 255 = .ok (.goto 4, 3)) ∧ (decode cL_law 258 = .ok (.iconst 0, 1)) := by decide +kernel
def dL_law_242 := db_cL_law_dL_law_242_6.1
def dL_law_243 := db_cL_law_dL_law_242_6.2.1
def dL_law_244 := db_cL_law_dL_law_242_6.2.2.1
def dL_law_245 := db_cL_law_dL_law_242_6.2.2.2.1
def dL_law_246 := db_cL_law_dL_law_242_6.2.2.2.2.1
def dL_law_248 := db_cL_law_dL_law_242_6.2.2.2.2.2.1
def dL_law_249 := db_cL_law_dL_law_242_6.2.2.2.2.2.2.1
def dL_law_250 := db_cL_law_dL_law_242_6.2.2.2.2.2.2.2.1
def dL_law_251 := db_cL_law_dL_law_242_6.2.2.2.2.2.2.2.2.1
def dL_law_254 := db_cL_law_dL_law_242_6.2.2.2.2.2.2.2.2.2.1
def dL_law_255 := db_cL_law_dL_law_242_6.2.2.2.2.2.2.2.2.2.2.1
def dL_law_258 := db_cL_law_dL_law_242_6.2.2.2.2.2.2.2.2.2.2.2
set_option maxRecDepth 100000 in
theorem db_cL_law_dL_law_259_7 : (decode cL_law 259 = .ok (.aload_n 3, 1)) ∧ (decode cL_law 260 = .ok (.invokestatic 126, 3)) ∧ (decode cL_law 263 = .ok (.istore 5, 2)) ∧ (decode cL_law 265 = .ok (.aload_n 2, 1)) ∧ (decode cL_law 266 = .ok (.aload_n 0, 1)) ∧ (decode cL_law 267 = .ok (.iload 4, 2)) ∧ (decode cL_law 269 = .ok (.iconst 1, 1)) ∧ (decode cL_law 270 = .ok (.iadd, 1)) ∧ (decode cL_law 271 = .ok (.iaload, 1)) ∧ (decode cL_law 272 = .ok (.aload_n 0, 1)) ∧ (decode cL_law 273 = .ok (.iload 4, 2)) ∧ (decode cL_law 275 = .ok (.iconst 2, 1)) := by decide +kernel
def dL_law_259 := db_cL_law_dL_law_259_7.1
def dL_law_260 := db_cL_law_dL_law_259_7.2.1
def dL_law_263 := db_cL_law_dL_law_259_7.2.2.1
def dL_law_265 := db_cL_law_dL_law_259_7.2.2.2.1
def dL_law_266 := db_cL_law_dL_law_259_7.2.2.2.2.1
def dL_law_267 := db_cL_law_dL_law_259_7.2.2.2.2.2.1
def dL_law_269 := db_cL_law_dL_law_259_7.2.2.2.2.2.2.1
def dL_law_270 := db_cL_law_dL_law_259_7.2.2.2.2.2.2.2.1
def dL_law_271 := db_cL_law_dL_law_259_7.2.2.2.2.2.2.2.2.1
def dL_law_272 := db_cL_law_dL_law_259_7.2.2.2.2.2.2.2.2.2.1
def dL_law_273 := db_cL_law_dL_law_259_7.2.2.2.2.2.2.2.2.2.2.1
def dL_law_275 := db_cL_law_dL_law_259_7.2.2.2.2.2.2.2.2.2.2.2
set_option maxRecDepth 100000 in
theorem db_cL_law_dL_law_276_8 : (decode cL_law 276 = .ok (.iadd, 1)) ∧ (decode cL_law 277 = .ok (.iaload, 1)) ∧ (decode cL_law 278 = .ok (.aload_n 0, 1)) ∧ (decode cL_law 279 = .ok (.iload 4, 2)) ∧ (decode cL_law 281 = .ok (.iconst 3, 1)) ∧ (decode cL_law 282 = .ok (.iadd, 1)) ∧ (decode cL_law 283 = .ok (.iaload, 1)) ∧ (decode cL_law 284 = .ok (.aload_n 0, 1)) ∧ (decode cL_law 285 = .ok (.iload 4, 2)) ∧ (decode cL_law 287 = .ok (.iconst 4, 1)) ∧ (decode cL_law 288 = .ok (.iadd, 1)) ∧ (decode cL_law 289 = .ok (.iaload, 1)) := by decide +kernel
def dL_law_276 := db_cL_law_dL_law_276_8.1
def dL_law_277 := db_cL_law_dL_law_276_8.2.1
def dL_law_278 := db_cL_law_dL_law_276_8.2.2.1
def dL_law_279 := db_cL_law_dL_law_276_8.2.2.2.1
def dL_law_281 := db_cL_law_dL_law_276_8.2.2.2.2.1
def dL_law_282 := db_cL_law_dL_law_276_8.2.2.2.2.2.1
def dL_law_283 := db_cL_law_dL_law_276_8.2.2.2.2.2.2.1
def dL_law_284 := db_cL_law_dL_law_276_8.2.2.2.2.2.2.2.1
def dL_law_285 := db_cL_law_dL_law_276_8.2.2.2.2.2.2.2.2.1
def dL_law_287 := db_cL_law_dL_law_276_8.2.2.2.2.2.2.2.2.2.1
def dL_law_288 := db_cL_law_dL_law_276_8.2.2.2.2.2.2.2.2.2.2.1
def dL_law_289 := db_cL_law_dL_law_276_8.2.2.2.2.2.2.2.2.2.2.2
set_option maxRecDepth 100000 in
theorem db_cL_law_dL_law_290_9 : (decode cL_law 290 = .ok (.aload_n 0, 1)) ∧ (decode cL_law 291 = .ok (.iload 4, 2)) ∧ (decode cL_law 293 = .ok (.iconst 5, 1)) ∧ (decode cL_law 294 = .ok (.iadd, 1)) ∧ (decode cL_law 295 = .ok (.iaload, 1)) ∧ (decode cL_law 296 = .ok (.ifCond .eq 7, 3)) ∧ (decode cL_law 299 = .ok (.iconst 1, 1)) ∧ (decode cL_law 300 = .ok (.goto 4, 3)) ∧ (decode cL_law 303 = .ok (.iconst 0, 1)) ∧ (decode cL_law 304 = .ok (.invokevirtual 129, 3)) ∧ (decode cL_law 307 = .ok (.istore 6, 2)) ∧ (decode cL_law 309 = .ok (.goto 1263, 3)) := by decide +kernel
def dL_law_290 := db_cL_law_dL_law_290_9.1
def dL_law_291 := db_cL_law_dL_law_290_9.2.1
def dL_law_293 := db_cL_law_dL_law_290_9.2.2.1
def dL_law_294 := db_cL_law_dL_law_290_9.2.2.2.1
def dL_law_295 := db_cL_law_dL_law_290_9.2.2.2.2.1
def dL_law_296 := db_cL_law_dL_law_290_9.2.2.2.2.2.1
def dL_law_299 := db_cL_law_dL_law_290_9.2.2.2.2.2.2.1
def dL_law_300 := db_cL_law_dL_law_290_9.2.2.2.2.2.2.2.1
def dL_law_303 := db_cL_law_dL_law_290_9.2.2.2.2.2.2.2.2.1
def dL_law_304 := db_cL_law_dL_law_290_9.2.2.2.2.2.2.2.2.2.1
def dL_law_307 := db_cL_law_dL_law_290_9.2.2.2.2.2.2.2.2.2.2.1
def dL_law_309 := db_cL_law_dL_law_290_9.2.2.2.2.2.2.2.2.2.2.2
set_option maxRecDepth 100000 in
theorem db_cL_law_dL_law_312_10 : (decode cL_law 312 = .ok (.aload_n 1, 1)) ∧ (decode cL_law 313 = .ok (.aload_n 0, 1)) ∧ (decode cL_law 314 = .ok (.iload 4, 2)) ∧ (decode cL_law 316 = .ok (.iconst 1, 1)) ∧ (decode cL_law 317 = .ok (.iadd, 1)) ∧ (decode cL_law 318 = .ok (.iaload, 1)) ∧ (decode cL_law 319 = .ok (.aload_n 0, 1)) ∧ (decode cL_law 320 = .ok (.iload 4, 2)) ∧ (decode cL_law 322 = .ok (.iconst 2, 1)) ∧ (decode cL_law 323 = .ok (.iadd, 1)) ∧ (decode cL_law 324 = .ok (.iaload, 1)) ∧ (decode cL_law 325 = .ok (.aload_n 0, 1)) := by decide +kernel
def dL_law_312 := db_cL_law_dL_law_312_10.1
def dL_law_313 := db_cL_law_dL_law_312_10.2.1
def dL_law_314 := db_cL_law_dL_law_312_10.2.2.1
def dL_law_316 := db_cL_law_dL_law_312_10.2.2.2.1
def dL_law_317 := db_cL_law_dL_law_312_10.2.2.2.2.1
def dL_law_318 := db_cL_law_dL_law_312_10.2.2.2.2.2.1
def dL_law_319 := db_cL_law_dL_law_312_10.2.2.2.2.2.2.1
def dL_law_320 := db_cL_law_dL_law_312_10.2.2.2.2.2.2.2.1
def dL_law_322 := db_cL_law_dL_law_312_10.2.2.2.2.2.2.2.2.1
def dL_law_323 := db_cL_law_dL_law_312_10.2.2.2.2.2.2.2.2.2.1
def dL_law_324 := db_cL_law_dL_law_312_10.2.2.2.2.2.2.2.2.2.2.1
def dL_law_325 := db_cL_law_dL_law_312_10.2.2.2.2.2.2.2.2.2.2.2
set_option maxRecDepth 100000 in
theorem db_cL_law_dL_law_326_11 : (decode cL_law 326 = .ok (.iload 4, 2)) ∧ (decode cL_law 328 = .ok (.iconst 3, 1)) ∧ (decode cL_law 329 = .ok (.iadd, 1)) ∧ (decode cL_law 330 = .ok (.iaload, 1)) ∧ (decode cL_law 331 = .ok (.aload_n 0, 1)) ∧ (decode cL_law 332 = .ok (.iload 4, 2)) ∧ (decode cL_law 334 = .ok (.iconst 4, 1)) ∧ (decode cL_law 335 = .ok (.iadd, 1)) ∧ (decode cL_law 336 = .ok (.iaload, 1)) ∧ (decode cL_law 337 = .ok (.aload_n 3, 1)) ∧ (decode cL_law 338 = .ok (.invokestatic 130, 3)) ∧ (decode cL_law 341 = .ok (.istore 5, 2)) := by decide +kernel
def dL_law_326 := db_cL_law_dL_law_326_11.1
def dL_law_328 := db_cL_law_dL_law_326_11.2.1
def dL_law_329 := db_cL_law_dL_law_326_11.2.2.1
def dL_law_330 := db_cL_law_dL_law_326_11.2.2.2.1
def dL_law_331 := db_cL_law_dL_law_326_11.2.2.2.2.1
def dL_law_332 := db_cL_law_dL_law_326_11.2.2.2.2.2.1
def dL_law_334 := db_cL_law_dL_law_326_11.2.2.2.2.2.2.1
def dL_law_335 := db_cL_law_dL_law_326_11.2.2.2.2.2.2.2.1
def dL_law_336 := db_cL_law_dL_law_326_11.2.2.2.2.2.2.2.2.1
def dL_law_337 := db_cL_law_dL_law_326_11.2.2.2.2.2.2.2.2.2.1
def dL_law_338 := db_cL_law_dL_law_326_11.2.2.2.2.2.2.2.2.2.2.1
def dL_law_341 := db_cL_law_dL_law_326_11.2.2.2.2.2.2.2.2.2.2.2
set_option maxRecDepth 100000 in
theorem db_cL_law_dL_law_343_12 : (decode cL_law 343 = .ok (.aload_n 2, 1)) ∧ (decode cL_law 344 = .ok (.aload_n 0, 1)) ∧ (decode cL_law 345 = .ok (.iload 4, 2)) ∧ (decode cL_law 347 = .ok (.iconst 1, 1)) ∧ (decode cL_law 348 = .ok (.iadd, 1)) ∧ (decode cL_law 349 = .ok (.iaload, 1)) ∧ (decode cL_law 350 = .ok (.aload_n 0, 1)) ∧ (decode cL_law 351 = .ok (.iload 4, 2)) ∧ (decode cL_law 353 = .ok (.iconst 2, 1)) ∧ (decode cL_law 354 = .ok (.iadd, 1)) ∧ (decode cL_law 355 = .ok (.iaload, 1)) ∧ (decode cL_law 356 = .ok (.aload_n 0, 1)) := by decide +kernel
def dL_law_343 := db_cL_law_dL_law_343_12.1
def dL_law_344 := db_cL_law_dL_law_343_12.2.1
def dL_law_345 := db_cL_law_dL_law_343_12.2.2.1
def dL_law_347 := db_cL_law_dL_law_343_12.2.2.2.1
def dL_law_348 := db_cL_law_dL_law_343_12.2.2.2.2.1
def dL_law_349 := db_cL_law_dL_law_343_12.2.2.2.2.2.1
def dL_law_350 := db_cL_law_dL_law_343_12.2.2.2.2.2.2.1
def dL_law_351 := db_cL_law_dL_law_343_12.2.2.2.2.2.2.2.1
def dL_law_353 := db_cL_law_dL_law_343_12.2.2.2.2.2.2.2.2.1
def dL_law_354 := db_cL_law_dL_law_343_12.2.2.2.2.2.2.2.2.2.1
def dL_law_355 := db_cL_law_dL_law_343_12.2.2.2.2.2.2.2.2.2.2.1
def dL_law_356 := db_cL_law_dL_law_343_12.2.2.2.2.2.2.2.2.2.2.2
set_option maxRecDepth 100000 in
theorem db_cL_law_dL_law_357_13 : (decode cL_law 357 = .ok (.iload 4, 2)) ∧ (decode cL_law 359 = .ok (.iconst 3, 1)) ∧ (decode cL_law 360 = .ok (.iadd, 1)) ∧ (decode cL_law 361 = .ok (.iaload, 1)) ∧ (decode cL_law 362 = .ok (.aload_n 0, 1)) ∧ (decode cL_law 363 = .ok (.iload 4, 2)) ∧ (decode cL_law 365 = .ok (.iconst 4, 1)) ∧ (decode cL_law 366 = .ok (.iadd, 1)) ∧ (decode cL_law 367 = .ok (.iaload, 1)) ∧ (decode cL_law 368 = .ok (.invokevirtual 133, 3)) ∧ (decode cL_law 371 = .ok (.istore 6, 2)) ∧ (decode cL_law 373 = .ok (.goto 1199, 3)) := by decide +kernel
def dL_law_357 := db_cL_law_dL_law_357_13.1
def dL_law_359 := db_cL_law_dL_law_357_13.2.1
def dL_law_360 := db_cL_law_dL_law_357_13.2.2.1
def dL_law_361 := db_cL_law_dL_law_357_13.2.2.2.1
def dL_law_362 := db_cL_law_dL_law_357_13.2.2.2.2.1
def dL_law_363 := db_cL_law_dL_law_357_13.2.2.2.2.2.1
def dL_law_365 := db_cL_law_dL_law_357_13.2.2.2.2.2.2.1
def dL_law_366 := db_cL_law_dL_law_357_13.2.2.2.2.2.2.2.1
def dL_law_367 := db_cL_law_dL_law_357_13.2.2.2.2.2.2.2.2.1
def dL_law_368 := db_cL_law_dL_law_357_13.2.2.2.2.2.2.2.2.2.1
def dL_law_371 := db_cL_law_dL_law_357_13.2.2.2.2.2.2.2.2.2.2.1
def dL_law_373 := db_cL_law_dL_law_357_13.2.2.2.2.2.2.2.2.2.2.2
set_option maxRecDepth 100000 in
theorem db_cL_law_dL_law_376_14 : (decode cL_law 376 = .ok (.aload_n 1, 1)) ∧ (decode cL_law 377 = .ok (.aload_n 0, 1)) ∧ (decode cL_law 378 = .ok (.iload 4, 2)) ∧ (decode cL_law 380 = .ok (.iconst 1, 1)) ∧ (decode cL_law 381 = .ok (.iadd, 1)) ∧ (decode cL_law 382 = .ok (.iaload, 1)) ∧ (decode cL_law 383 = .ok (.aload_n 0, 1)) ∧ (decode cL_law 384 = .ok (.iload 4, 2)) ∧ (decode cL_law 386 = .ok (.iconst 2, 1)) ∧ (decode cL_law 387 = .ok (.iadd, 1)) ∧ (decode cL_law 388 = .ok (.iaload, 1)) ∧ (decode cL_law 389 = .ok (.aload_n 0, 1)) := by decide +kernel
def dL_law_376 := db_cL_law_dL_law_376_14.1
def dL_law_377 := db_cL_law_dL_law_376_14.2.1
def dL_law_378 := db_cL_law_dL_law_376_14.2.2.1
def dL_law_380 := db_cL_law_dL_law_376_14.2.2.2.1
def dL_law_381 := db_cL_law_dL_law_376_14.2.2.2.2.1
def dL_law_382 := db_cL_law_dL_law_376_14.2.2.2.2.2.1
def dL_law_383 := db_cL_law_dL_law_376_14.2.2.2.2.2.2.1
def dL_law_384 := db_cL_law_dL_law_376_14.2.2.2.2.2.2.2.1
def dL_law_386 := db_cL_law_dL_law_376_14.2.2.2.2.2.2.2.2.1
def dL_law_387 := db_cL_law_dL_law_376_14.2.2.2.2.2.2.2.2.2.1
def dL_law_388 := db_cL_law_dL_law_376_14.2.2.2.2.2.2.2.2.2.2.1
def dL_law_389 := db_cL_law_dL_law_376_14.2.2.2.2.2.2.2.2.2.2.2
set_option maxRecDepth 100000 in
theorem db_cL_law_dL_law_390_15 : (decode cL_law 390 = .ok (.iload 4, 2)) ∧ (decode cL_law 392 = .ok (.iconst 3, 1)) ∧ (decode cL_law 393 = .ok (.iadd, 1)) ∧ (decode cL_law 394 = .ok (.iaload, 1)) ∧ (decode cL_law 395 = .ok (.ifCond .eq 7, 3)) ∧ (decode cL_law 398 = .ok (.iconst 1, 1)) ∧ (decode cL_law 399 = .ok (.goto 4, 3)) ∧ (decode cL_law 402 = .ok (.iconst 0, 1)) ∧ (decode cL_law 403 = .ok (.aload_n 0, 1)) ∧ (decode cL_law 404 = .ok (.iload 4, 2)) ∧ (decode cL_law 406 = .ok (.iconst 4, 1)) ∧ (decode cL_law 407 = .ok (.iadd, 1)) := by decide +kernel
def dL_law_390 := db_cL_law_dL_law_390_15.1
def dL_law_392 := db_cL_law_dL_law_390_15.2.1
def dL_law_393 := db_cL_law_dL_law_390_15.2.2.1
def dL_law_394 := db_cL_law_dL_law_390_15.2.2.2.1
def dL_law_395 := db_cL_law_dL_law_390_15.2.2.2.2.1
def dL_law_398 := db_cL_law_dL_law_390_15.2.2.2.2.2.1
def dL_law_399 := db_cL_law_dL_law_390_15.2.2.2.2.2.2.1
def dL_law_402 := db_cL_law_dL_law_390_15.2.2.2.2.2.2.2.1
def dL_law_403 := db_cL_law_dL_law_390_15.2.2.2.2.2.2.2.2.1
def dL_law_404 := db_cL_law_dL_law_390_15.2.2.2.2.2.2.2.2.2.1
def dL_law_406 := db_cL_law_dL_law_390_15.2.2.2.2.2.2.2.2.2.2.1
def dL_law_407 := db_cL_law_dL_law_390_15.2.2.2.2.2.2.2.2.2.2.2
set_option maxRecDepth 100000 in
theorem db_cL_law_dL_law_408_16 : (decode cL_law 408 = .ok (.iaload, 1)) ∧ (decode cL_law 409 = .ok (.ifCond .eq 7, 3)) ∧ (decode cL_law 412 = .ok (.iconst 1, 1)) ∧ (decode cL_law 413 = .ok (.goto 4, 3)) ∧ (decode cL_law 416 = .ok (.iconst 0, 1)) ∧ (decode cL_law 417 = .ok (.aload_n 3, 1)) ∧ (decode cL_law 418 = .ok (.invokestatic 134, 3)) ∧ (decode cL_law 421 = .ok (.istore 5, 2)) ∧ (decode cL_law 423 = .ok (.aload_n 2, 1)) ∧ (decode cL_law 424 = .ok (.aload_n 0, 1)) ∧ (decode cL_law 425 = .ok (.iload 4, 2)) ∧ (decode cL_law 427 = .ok (.iconst 1, 1)) := by decide +kernel
def dL_law_408 := db_cL_law_dL_law_408_16.1
def dL_law_409 := db_cL_law_dL_law_408_16.2.1
def dL_law_412 := db_cL_law_dL_law_408_16.2.2.1
def dL_law_413 := db_cL_law_dL_law_408_16.2.2.2.1
def dL_law_416 := db_cL_law_dL_law_408_16.2.2.2.2.1
def dL_law_417 := db_cL_law_dL_law_408_16.2.2.2.2.2.1
def dL_law_418 := db_cL_law_dL_law_408_16.2.2.2.2.2.2.1
def dL_law_421 := db_cL_law_dL_law_408_16.2.2.2.2.2.2.2.1
def dL_law_423 := db_cL_law_dL_law_408_16.2.2.2.2.2.2.2.2.1
def dL_law_424 := db_cL_law_dL_law_408_16.2.2.2.2.2.2.2.2.2.1
def dL_law_425 := db_cL_law_dL_law_408_16.2.2.2.2.2.2.2.2.2.2.1
def dL_law_427 := db_cL_law_dL_law_408_16.2.2.2.2.2.2.2.2.2.2.2
set_option maxRecDepth 100000 in
theorem db_cL_law_dL_law_428_17 : (decode cL_law 428 = .ok (.iadd, 1)) ∧ (decode cL_law 429 = .ok (.iaload, 1)) ∧ (decode cL_law 430 = .ok (.aload_n 0, 1)) ∧ (decode cL_law 431 = .ok (.iload 4, 2)) ∧ (decode cL_law 433 = .ok (.iconst 2, 1)) ∧ (decode cL_law 434 = .ok (.iadd, 1)) ∧ (decode cL_law 435 = .ok (.iaload, 1)) ∧ (decode cL_law 436 = .ok (.aload_n 0, 1)) ∧ (decode cL_law 437 = .ok (.iload 4, 2)) ∧ (decode cL_law 439 = .ok (.iconst 3, 1)) ∧ (decode cL_law 440 = .ok (.iadd, 1)) ∧ (decode cL_law 441 = .ok (.iaload, 1)) := by decide +kernel
def dL_law_428 := db_cL_law_dL_law_428_17.1
def dL_law_429 := db_cL_law_dL_law_428_17.2.1
def dL_law_430 := db_cL_law_dL_law_428_17.2.2.1
def dL_law_431 := db_cL_law_dL_law_428_17.2.2.2.1
def dL_law_433 := db_cL_law_dL_law_428_17.2.2.2.2.1
def dL_law_434 := db_cL_law_dL_law_428_17.2.2.2.2.2.1
def dL_law_435 := db_cL_law_dL_law_428_17.2.2.2.2.2.2.1
def dL_law_436 := db_cL_law_dL_law_428_17.2.2.2.2.2.2.2.1
def dL_law_437 := db_cL_law_dL_law_428_17.2.2.2.2.2.2.2.2.1
def dL_law_439 := db_cL_law_dL_law_428_17.2.2.2.2.2.2.2.2.2.1
def dL_law_440 := db_cL_law_dL_law_428_17.2.2.2.2.2.2.2.2.2.2.1
def dL_law_441 := db_cL_law_dL_law_428_17.2.2.2.2.2.2.2.2.2.2.2
set_option maxRecDepth 100000 in
theorem db_cL_law_dL_law_442_18 : (decode cL_law 442 = .ok (.ifCond .eq 7, 3)) ∧ (decode cL_law 445 = .ok (.iconst 1, 1)) ∧ (decode cL_law 446 = .ok (.goto 4, 3)) ∧ (decode cL_law 449 = .ok (.iconst 0, 1)) ∧ (decode cL_law 450 = .ok (.aload_n 0, 1)) ∧ (decode cL_law 451 = .ok (.iload 4, 2)) ∧ (decode cL_law 453 = .ok (.iconst 4, 1)) ∧ (decode cL_law 454 = .ok (.iadd, 1)) ∧ (decode cL_law 455 = .ok (.iaload, 1)) ∧ (decode cL_law 456 = .ok (.ifCond .eq 7, 3)) ∧ (decode cL_law 459 = .ok (.iconst 1, 1)) ∧ (decode cL_law 460 = .ok (.goto 4, 3)) := by decide +kernel
def dL_law_442 := db_cL_law_dL_law_442_18.1
def dL_law_445 := db_cL_law_dL_law_442_18.2.1
def dL_law_446 := db_cL_law_dL_law_442_18.2.2.1
def dL_law_449 := db_cL_law_dL_law_442_18.2.2.2.1
def dL_law_450 := db_cL_law_dL_law_442_18.2.2.2.2.1
def dL_law_451 := db_cL_law_dL_law_442_18.2.2.2.2.2.1
def dL_law_453 := db_cL_law_dL_law_442_18.2.2.2.2.2.2.1
def dL_law_454 := db_cL_law_dL_law_442_18.2.2.2.2.2.2.2.1
def dL_law_455 := db_cL_law_dL_law_442_18.2.2.2.2.2.2.2.2.1
def dL_law_456 := db_cL_law_dL_law_442_18.2.2.2.2.2.2.2.2.2.1
def dL_law_459 := db_cL_law_dL_law_442_18.2.2.2.2.2.2.2.2.2.2.1
def dL_law_460 := db_cL_law_dL_law_442_18.2.2.2.2.2.2.2.2.2.2.2
set_option maxRecDepth 100000 in
theorem db_cL_law_dL_law_463_19 : (decode cL_law 463 = .ok (.iconst 0, 1)) ∧ (decode cL_law 464 = .ok (.invokevirtual 137, 3)) ∧ (decode cL_law 467 = .ok (.istore 6, 2)) ∧ (decode cL_law 469 = .ok (.goto 1103, 3)) ∧ (decode cL_law 472 = .ok (.aload_n 1, 1)) ∧ (decode cL_law 473 = .ok (.aload_n 0, 1)) ∧ (decode cL_law 474 = .ok (.iload 4, 2)) ∧ (decode cL_law 476 = .ok (.iconst 1, 1)) ∧ (decode cL_law 477 = .ok (.iadd, 1)) ∧ (decode cL_law 478 = .ok (.iaload, 1)) ∧ (decode cL_law 479 = .ok (.aload_n 0, 1)) ∧ (decode cL_law 480 = .ok (.iload 4, 2)) := by decide +kernel
def dL_law_463 := db_cL_law_dL_law_463_19.1
def dL_law_464 := db_cL_law_dL_law_463_19.2.1
def dL_law_467 := db_cL_law_dL_law_463_19.2.2.1
def dL_law_469 := db_cL_law_dL_law_463_19.2.2.2.1
def dL_law_472 := db_cL_law_dL_law_463_19.2.2.2.2.1
def dL_law_473 := db_cL_law_dL_law_463_19.2.2.2.2.2.1
def dL_law_474 := db_cL_law_dL_law_463_19.2.2.2.2.2.2.1
def dL_law_476 := db_cL_law_dL_law_463_19.2.2.2.2.2.2.2.1
def dL_law_477 := db_cL_law_dL_law_463_19.2.2.2.2.2.2.2.2.1
def dL_law_478 := db_cL_law_dL_law_463_19.2.2.2.2.2.2.2.2.2.1
def dL_law_479 := db_cL_law_dL_law_463_19.2.2.2.2.2.2.2.2.2.2.1
def dL_law_480 := db_cL_law_dL_law_463_19.2.2.2.2.2.2.2.2.2.2.2
set_option maxRecDepth 100000 in
theorem db_cL_law_dL_law_482_20 : (decode cL_law 482 = .ok (.iconst 2, 1)) ∧ (decode cL_law 483 = .ok (.iadd, 1)) ∧ (decode cL_law 484 = .ok (.iaload, 1)) ∧ (decode cL_law 485 = .ok (.aload_n 0, 1)) ∧ (decode cL_law 486 = .ok (.iload 4, 2)) ∧ (decode cL_law 488 = .ok (.iconst 3, 1)) ∧ (decode cL_law 489 = .ok (.iadd, 1)) ∧ (decode cL_law 490 = .ok (.iaload, 1)) ∧ (decode cL_law 491 = .ok (.aload_n 0, 1)) ∧ (decode cL_law 492 = .ok (.iload 4, 2)) ∧ (decode cL_law 494 = .ok (.iconst 4, 1)) ∧ (decode cL_law 495 = .ok (.iadd, 1)) := by decide +kernel
def dL_law_482 := db_cL_law_dL_law_482_20.1
def dL_law_483 := db_cL_law_dL_law_482_20.2.1
def dL_law_484 := db_cL_law_dL_law_482_20.2.2.1
def dL_law_485 := db_cL_law_dL_law_482_20.2.2.2.1
def dL_law_486 := db_cL_law_dL_law_482_20.2.2.2.2.1
def dL_law_488 := db_cL_law_dL_law_482_20.2.2.2.2.2.1
def dL_law_489 := db_cL_law_dL_law_482_20.2.2.2.2.2.2.1
def dL_law_490 := db_cL_law_dL_law_482_20.2.2.2.2.2.2.2.1
def dL_law_491 := db_cL_law_dL_law_482_20.2.2.2.2.2.2.2.2.1
def dL_law_492 := db_cL_law_dL_law_482_20.2.2.2.2.2.2.2.2.2.1
def dL_law_494 := db_cL_law_dL_law_482_20.2.2.2.2.2.2.2.2.2.2.1
def dL_law_495 := db_cL_law_dL_law_482_20.2.2.2.2.2.2.2.2.2.2.2
set_option maxRecDepth 100000 in
theorem db_cL_law_dL_law_496_21 : (decode cL_law 496 = .ok (.iaload, 1)) ∧ (decode cL_law 497 = .ok (.aload_n 3, 1)) ∧ (decode cL_law 498 = .ok (.invokestatic 138, 3)) ∧ (decode cL_law 501 = .ok (.istore 5, 2)) ∧ (decode cL_law 503 = .ok (.aload_n 2, 1)) ∧ (decode cL_law 504 = .ok (.aload_n 0, 1)) ∧ (decode cL_law 505 = .ok (.iload 4, 2)) ∧ (decode cL_law 507 = .ok (.iconst 1, 1)) ∧ (decode cL_law 508 = .ok (.iadd, 1)) ∧ (decode cL_law 509 = .ok (.iaload, 1)) ∧ (decode cL_law 510 = .ok (.aload_n 0, 1)) ∧ (decode cL_law 511 = .ok (.iload 4, 2)) := by decide +kernel
def dL_law_496 := db_cL_law_dL_law_496_21.1
def dL_law_497 := db_cL_law_dL_law_496_21.2.1
def dL_law_498 := db_cL_law_dL_law_496_21.2.2.1
def dL_law_501 := db_cL_law_dL_law_496_21.2.2.2.1
def dL_law_503 := db_cL_law_dL_law_496_21.2.2.2.2.1
def dL_law_504 := db_cL_law_dL_law_496_21.2.2.2.2.2.1
def dL_law_505 := db_cL_law_dL_law_496_21.2.2.2.2.2.2.1
def dL_law_507 := db_cL_law_dL_law_496_21.2.2.2.2.2.2.2.1
def dL_law_508 := db_cL_law_dL_law_496_21.2.2.2.2.2.2.2.2.1
def dL_law_509 := db_cL_law_dL_law_496_21.2.2.2.2.2.2.2.2.2.1
def dL_law_510 := db_cL_law_dL_law_496_21.2.2.2.2.2.2.2.2.2.2.1
def dL_law_511 := db_cL_law_dL_law_496_21.2.2.2.2.2.2.2.2.2.2.2
set_option maxRecDepth 100000 in
theorem db_cL_law_dL_law_513_22 : (decode cL_law 513 = .ok (.iconst 2, 1)) ∧ (decode cL_law 514 = .ok (.iadd, 1)) ∧ (decode cL_law 515 = .ok (.iaload, 1)) ∧ (decode cL_law 516 = .ok (.aload_n 0, 1)) ∧ (decode cL_law 517 = .ok (.iload 4, 2)) ∧ (decode cL_law 519 = .ok (.iconst 3, 1)) ∧ (decode cL_law 520 = .ok (.iadd, 1)) ∧ (decode cL_law 521 = .ok (.iaload, 1)) ∧ (decode cL_law 522 = .ok (.aload_n 0, 1)) ∧ (decode cL_law 523 = .ok (.iload 4, 2)) ∧ (decode cL_law 525 = .ok (.iconst 4, 1)) ∧ (decode cL_law 526 = .ok (.iadd, 1)) := by decide +kernel
def dL_law_513 := db_cL_law_dL_law_513_22.1
def dL_law_514 := db_cL_law_dL_law_513_22.2.1
def dL_law_515 := db_cL_law_dL_law_513_22.2.2.1
def dL_law_516 := db_cL_law_dL_law_513_22.2.2.2.1
def dL_law_517 := db_cL_law_dL_law_513_22.2.2.2.2.1
def dL_law_519 := db_cL_law_dL_law_513_22.2.2.2.2.2.1
def dL_law_520 := db_cL_law_dL_law_513_22.2.2.2.2.2.2.1
def dL_law_521 := db_cL_law_dL_law_513_22.2.2.2.2.2.2.2.1
def dL_law_522 := db_cL_law_dL_law_513_22.2.2.2.2.2.2.2.2.1
def dL_law_523 := db_cL_law_dL_law_513_22.2.2.2.2.2.2.2.2.2.1
def dL_law_525 := db_cL_law_dL_law_513_22.2.2.2.2.2.2.2.2.2.2.1
def dL_law_526 := db_cL_law_dL_law_513_22.2.2.2.2.2.2.2.2.2.2.2
set_option maxRecDepth 100000 in
theorem db_cL_law_dL_law_527_23 : (decode cL_law 527 = .ok (.iaload, 1)) ∧ (decode cL_law 528 = .ok (.invokevirtual 140, 3)) ∧ (decode cL_law 531 = .ok (.istore 6, 2)) ∧ (decode cL_law 533 = .ok (.goto 1039, 3)) ∧ (decode cL_law 536 = .ok (.aload_n 1, 1)) ∧ (decode cL_law 537 = .ok (.aload_n 0, 1)) ∧ (decode cL_law 538 = .ok (.iload 4, 2)) ∧ (decode cL_law 540 = .ok (.iconst 1, 1)) ∧ (decode cL_law 541 = .ok (.iadd, 1)) ∧ (decode cL_law 542 = .ok (.iaload, 1)) ∧ (decode cL_law 543 = .ok (.aload_n 0, 1)) ∧ (decode cL_law 544 = .ok (.iload 4, 2)) := by decide +kernel
def dL_law_527 := db_cL_law_dL_law_527_23.1
def dL_law_528 := db_cL_law_dL_law_527_23.2.1
def dL_law_531 := db_cL_law_dL_law_527_23.2.2.1
def dL_law_533 := db_cL_law_dL_law_527_23.2.2.2.1
def dL_law_536 := db_cL_law_dL_law_527_23.2.2.2.2.1
def dL_law_537 := db_cL_law_dL_law_527_23.2.2.2.2.2.1
def dL_law_538 := db_cL_law_dL_law_527_23.2.2.2.2.2.2.1
def dL_law_540 := db_cL_law_dL_law_527_23.2.2.2.2.2.2.2.1
def dL_law_541 := db_cL_law_dL_law_527_23.2.2.2.2.2.2.2.2.1
def dL_law_542 := db_cL_law_dL_law_527_23.2.2.2.2.2.2.2.2.2.1
def dL_law_543 := db_cL_law_dL_law_527_23.2.2.2.2.2.2.2.2.2.2.1
def dL_law_544 := db_cL_law_dL_law_527_23.2.2.2.2.2.2.2.2.2.2.2
set_option maxRecDepth 100000 in
theorem db_cL_law_dL_law_546_24 : (decode cL_law 546 = .ok (.iconst 2, 1)) ∧ (decode cL_law 547 = .ok (.iadd, 1)) ∧ (decode cL_law 548 = .ok (.iaload, 1)) ∧ (decode cL_law 549 = .ok (.aload_n 3, 1)) ∧ (decode cL_law 550 = .ok (.invokestatic 141, 3)) ∧ (decode cL_law 553 = .ok (.istore 5, 2)) ∧ (decode cL_law 555 = .ok (.aload_n 2, 1)) ∧ (decode cL_law 556 = .ok (.aload_n 0, 1)) ∧ (decode cL_law 557 = .ok (.iload 4, 2)) ∧ (decode cL_law 559 = .ok (.iconst 1, 1)) ∧ (decode cL_law 560 = .ok (.iadd, 1)) ∧ (decode cL_law 561 = .ok (.iaload, 1)) := by decide +kernel
def dL_law_546 := db_cL_law_dL_law_546_24.1
def dL_law_547 := db_cL_law_dL_law_546_24.2.1
def dL_law_548 := db_cL_law_dL_law_546_24.2.2.1
def dL_law_549 := db_cL_law_dL_law_546_24.2.2.2.1
def dL_law_550 := db_cL_law_dL_law_546_24.2.2.2.2.1
def dL_law_553 := db_cL_law_dL_law_546_24.2.2.2.2.2.1
def dL_law_555 := db_cL_law_dL_law_546_24.2.2.2.2.2.2.1
def dL_law_556 := db_cL_law_dL_law_546_24.2.2.2.2.2.2.2.1
def dL_law_557 := db_cL_law_dL_law_546_24.2.2.2.2.2.2.2.2.1
def dL_law_559 := db_cL_law_dL_law_546_24.2.2.2.2.2.2.2.2.2.1
def dL_law_560 := db_cL_law_dL_law_546_24.2.2.2.2.2.2.2.2.2.2.1
def dL_law_561 := db_cL_law_dL_law_546_24.2.2.2.2.2.2.2.2.2.2.2
set_option maxRecDepth 100000 in
theorem db_cL_law_dL_law_562_25 : (decode cL_law 562 = .ok (.aload_n 0, 1)) ∧ (decode cL_law 563 = .ok (.iload 4, 2)) ∧ (decode cL_law 565 = .ok (.iconst 2, 1)) ∧ (decode cL_law 566 = .ok (.iadd, 1)) ∧ (decode cL_law 567 = .ok (.iaload, 1)) ∧ (decode cL_law 568 = .ok (.invokevirtual 143, 3)) ∧ (decode cL_law 571 = .ok (.istore 6, 2)) ∧ (decode cL_law 573 = .ok (.goto 999, 3)) ∧ (decode cL_law 576 = .ok (.aload_n 1, 1)) ∧ (decode cL_law 577 = .ok (.aload_n 0, 1)) ∧ (decode cL_law 578 = .ok (.iload 4, 2)) ∧ (decode cL_law 580 = .ok (.iconst 1, 1)) := by decide +kernel
def dL_law_562 := db_cL_law_dL_law_562_25.1
def dL_law_563 := db_cL_law_dL_law_562_25.2.1
def dL_law_565 := db_cL_law_dL_law_562_25.2.2.1
def dL_law_566 := db_cL_law_dL_law_562_25.2.2.2.1
def dL_law_567 := db_cL_law_dL_law_562_25.2.2.2.2.1
def dL_law_568 := db_cL_law_dL_law_562_25.2.2.2.2.2.1
def dL_law_571 := db_cL_law_dL_law_562_25.2.2.2.2.2.2.1
def dL_law_573 := db_cL_law_dL_law_562_25.2.2.2.2.2.2.2.1
def dL_law_576 := db_cL_law_dL_law_562_25.2.2.2.2.2.2.2.2.1
def dL_law_577 := db_cL_law_dL_law_562_25.2.2.2.2.2.2.2.2.2.1
def dL_law_578 := db_cL_law_dL_law_562_25.2.2.2.2.2.2.2.2.2.2.1
def dL_law_580 := db_cL_law_dL_law_562_25.2.2.2.2.2.2.2.2.2.2.2
set_option maxRecDepth 100000 in
theorem db_cL_law_dL_law_581_26 : (decode cL_law 581 = .ok (.iadd, 1)) ∧ (decode cL_law 582 = .ok (.iaload, 1)) ∧ (decode cL_law 583 = .ok (.aload_n 0, 1)) ∧ (decode cL_law 584 = .ok (.iload 4, 2)) ∧ (decode cL_law 586 = .ok (.iconst 2, 1)) ∧ (decode cL_law 587 = .ok (.iadd, 1)) ∧ (decode cL_law 588 = .ok (.iaload, 1)) ∧ (decode cL_law 589 = .ok (.aload_n 3, 1)) ∧ (decode cL_law 590 = .ok (.invokestatic 144, 3)) ∧ (decode cL_law 593 = .ok (.istore 5, 2)) ∧ (decode cL_law 595 = .ok (.aload_n 2, 1)) ∧ (decode cL_law 596 = .ok (.aload_n 0, 1)) := by decide +kernel
def dL_law_581 := db_cL_law_dL_law_581_26.1
def dL_law_582 := db_cL_law_dL_law_581_26.2.1
def dL_law_583 := db_cL_law_dL_law_581_26.2.2.1
def dL_law_584 := db_cL_law_dL_law_581_26.2.2.2.1
def dL_law_586 := db_cL_law_dL_law_581_26.2.2.2.2.1
def dL_law_587 := db_cL_law_dL_law_581_26.2.2.2.2.2.1
def dL_law_588 := db_cL_law_dL_law_581_26.2.2.2.2.2.2.1
def dL_law_589 := db_cL_law_dL_law_581_26.2.2.2.2.2.2.2.1
def dL_law_590 := db_cL_law_dL_law_581_26.2.2.2.2.2.2.2.2.1
def dL_law_593 := db_cL_law_dL_law_581_26.2.2.2.2.2.2.2.2.2.1
def dL_law_595 := db_cL_law_dL_law_581_26.2.2.2.2.2.2.2.2.2.2.1
def dL_law_596 := db_cL_law_dL_law_581_26.2.2.2.2.2.2.2.2.2.2.2
set_option maxRecDepth 100000 in
theorem db_cL_law_dL_law_597_27 : (decode cL_law 597 = .ok (.iload 4, 2)) ∧ (decode cL_law 599 = .ok (.iconst 1, 1)) ∧ (decode cL_law 600 = .ok (.iadd, 1)) ∧ (decode cL_law 601 = .ok (.iaload, 1)) ∧ (decode cL_law 602 = .ok (.aload_n 0, 1)) ∧ (decode cL_law 603 = .ok (.iload 4, 2)) ∧ (decode cL_law 605 = .ok (.iconst 2, 1)) ∧ (decode cL_law 606 = .ok (.iadd, 1)) ∧ (decode cL_law 607 = .ok (.iaload, 1)) ∧ (decode cL_law 608 = .ok (.invokevirtual 146, 3)) ∧ (decode cL_law 611 = .ok (.istore 6, 2)) ∧ (decode cL_law 613 = .ok (.goto 959, 3)) := by decide +kernel
def dL_law_597 := db_cL_law_dL_law_597_27.1
def dL_law_599 := db_cL_law_dL_law_597_27.2.1
def dL_law_600 := db_cL_law_dL_law_597_27.2.2.1
def dL_law_601 := db_cL_law_dL_law_597_27.2.2.2.1
def dL_law_602 := db_cL_law_dL_law_597_27.2.2.2.2.1
def dL_law_603 := db_cL_law_dL_law_597_27.2.2.2.2.2.1
def dL_law_605 := db_cL_law_dL_law_597_27.2.2.2.2.2.2.1
def dL_law_606 := db_cL_law_dL_law_597_27.2.2.2.2.2.2.2.1
def dL_law_607 := db_cL_law_dL_law_597_27.2.2.2.2.2.2.2.2.1
def dL_law_608 := db_cL_law_dL_law_597_27.2.2.2.2.2.2.2.2.2.1
def dL_law_611 := db_cL_law_dL_law_597_27.2.2.2.2.2.2.2.2.2.2.1
def dL_law_613 := db_cL_law_dL_law_597_27.2.2.2.2.2.2.2.2.2.2.2
set_option maxRecDepth 100000 in
theorem db_cL_law_dL_law_616_28 : (decode cL_law 616 = .ok (.aload_n 1, 1)) ∧ (decode cL_law 617 = .ok (.aload_n 0, 1)) ∧ (decode cL_law 618 = .ok (.iload 4, 2)) ∧ (decode cL_law 620 = .ok (.iconst 1, 1)) ∧ (decode cL_law 621 = .ok (.iadd, 1)) ∧ (decode cL_law 622 = .ok (.iaload, 1)) ∧ (decode cL_law 623 = .ok (.aload_n 3, 1)) ∧ (decode cL_law 624 = .ok (.invokestatic 147, 3)) ∧ (decode cL_law 627 = .ok (.istore 5, 2)) ∧ (decode cL_law 629 = .ok (.aload_n 2, 1)) ∧ (decode cL_law 630 = .ok (.aload_n 0, 1)) ∧ (decode cL_law 631 = .ok (.iload 4, 2)) := by decide +kernel
def dL_law_616 := db_cL_law_dL_law_616_28.1
def dL_law_617 := db_cL_law_dL_law_616_28.2.1
def dL_law_618 := db_cL_law_dL_law_616_28.2.2.1
def dL_law_620 := db_cL_law_dL_law_616_28.2.2.2.1
def dL_law_621 := db_cL_law_dL_law_616_28.2.2.2.2.1
def dL_law_622 := db_cL_law_dL_law_616_28.2.2.2.2.2.1
def dL_law_623 := db_cL_law_dL_law_616_28.2.2.2.2.2.2.1
def dL_law_624 := db_cL_law_dL_law_616_28.2.2.2.2.2.2.2.1
def dL_law_627 := db_cL_law_dL_law_616_28.2.2.2.2.2.2.2.2.1
def dL_law_629 := db_cL_law_dL_law_616_28.2.2.2.2.2.2.2.2.2.1
def dL_law_630 := db_cL_law_dL_law_616_28.2.2.2.2.2.2.2.2.2.2.1
def dL_law_631 := db_cL_law_dL_law_616_28.2.2.2.2.2.2.2.2.2.2.2
set_option maxRecDepth 100000 in
theorem db_cL_law_dL_law_633_29 : (decode cL_law 633 = .ok (.iconst 1, 1)) ∧ (decode cL_law 634 = .ok (.iadd, 1)) ∧ (decode cL_law 635 = .ok (.iaload, 1)) ∧ (decode cL_law 636 = .ok (.invokevirtual 150, 3)) ∧ (decode cL_law 639 = .ok (.istore 6, 2)) ∧ (decode cL_law 641 = .ok (.aload_n 2, 1)) ∧ (decode cL_law 642 = .ok (.invokevirtual 151, 3)) ∧ (decode cL_law 645 = .ok (.iload 5, 2)) ∧ (decode cL_law 647 = .ok (.if_icmp .eq 5, 3)) ∧ (decode cL_law 650 = .ok (.iconst 0, 1)) ∧ (decode cL_law 651 = .ok (.ireturn, 1)) ∧ (decode cL_law 652 = .ok (.iload 5, 2)) := by decide +kernel
def dL_law_633 := db_cL_law_dL_law_633_29.1
def dL_law_634 := db_cL_law_dL_law_633_29.2.1
def dL_law_635 := db_cL_law_dL_law_633_29.2.2.1
def dL_law_636 := db_cL_law_dL_law_633_29.2.2.2.1
def dL_law_639 := db_cL_law_dL_law_633_29.2.2.2.2.1
def dL_law_641 := db_cL_law_dL_law_633_29.2.2.2.2.2.1
def dL_law_642 := db_cL_law_dL_law_633_29.2.2.2.2.2.2.1
def dL_law_645 := db_cL_law_dL_law_633_29.2.2.2.2.2.2.2.1
def dL_law_647 := db_cL_law_dL_law_633_29.2.2.2.2.2.2.2.2.1
def dL_law_650 := db_cL_law_dL_law_633_29.2.2.2.2.2.2.2.2.2.1
def dL_law_651 := db_cL_law_dL_law_633_29.2.2.2.2.2.2.2.2.2.2.1
def dL_law_652 := db_cL_law_dL_law_633_29.2.2.2.2.2.2.2.2.2.2.2
set_option maxRecDepth 100000 in
theorem db_cL_law_dL_law_654_30 : (decode cL_law 654 = .ok (.ifCond .ne 16, 3)) ∧ (decode cL_law 657 = .ok (.aload_n 3, 1)) ∧ (decode cL_law 658 = .ok (.getfield 13, 3)) ∧ (decode cL_law 661 = .ok (.iload 6, 2)) ∧ (decode cL_law 663 = .ok (.i2l, 1)) ∧ (decode cL_law 664 = .ok (.lcmp, 1)) ∧ (decode cL_law 665 = .ok (.ifCond .eq 5, 3)) ∧ (decode cL_law 668 = .ok (.iconst 0, 1)) ∧ (decode cL_law 669 = .ok (.ireturn, 1)) ∧ (decode cL_law 670 = .ok (.goto 902, 3)) ∧ (decode cL_law 673 = .ok (.aload_n 1, 1)) ∧ (decode cL_law 674 = .ok (.aload_n 0, 1)) := by decide +kernel
def dL_law_654 := db_cL_law_dL_law_654_30.1
def dL_law_657 := db_cL_law_dL_law_654_30.2.1
def dL_law_658 := db_cL_law_dL_law_654_30.2.2.1
def dL_law_661 := db_cL_law_dL_law_654_30.2.2.2.1
def dL_law_663 := db_cL_law_dL_law_654_30.2.2.2.2.1
def dL_law_664 := db_cL_law_dL_law_654_30.2.2.2.2.2.1
def dL_law_665 := db_cL_law_dL_law_654_30.2.2.2.2.2.2.1
def dL_law_668 := db_cL_law_dL_law_654_30.2.2.2.2.2.2.2.1
def dL_law_669 := db_cL_law_dL_law_654_30.2.2.2.2.2.2.2.2.1
def dL_law_670 := db_cL_law_dL_law_654_30.2.2.2.2.2.2.2.2.2.1
def dL_law_673 := db_cL_law_dL_law_654_30.2.2.2.2.2.2.2.2.2.2.1
def dL_law_674 := db_cL_law_dL_law_654_30.2.2.2.2.2.2.2.2.2.2.2
set_option maxRecDepth 100000 in
theorem db_cL_law_dL_law_675_31 : (decode cL_law 675 = .ok (.iload 4, 2)) ∧ (decode cL_law 677 = .ok (.iconst 1, 1)) ∧ (decode cL_law 678 = .ok (.iadd, 1)) ∧ (decode cL_law 679 = .ok (.iaload, 1)) ∧ (decode cL_law 680 = .ok (.aload_n 3, 1)) ∧ (decode cL_law 681 = .ok (.invokestatic 155, 3)) ∧ (decode cL_law 684 = .ok (.istore 5, 2)) ∧ (decode cL_law 686 = .ok (.aload_n 2, 1)) ∧ (decode cL_law 687 = .ok (.aload_n 0, 1)) ∧ (decode cL_law 688 = .ok (.iload 4, 2)) ∧ (decode cL_law 690 = .ok (.iconst 1, 1)) ∧ (decode cL_law 691 = .ok (.iadd, 1)) := by decide +kernel
def dL_law_675 := db_cL_law_dL_law_675_31.1
def dL_law_677 := db_cL_law_dL_law_675_31.2.1
def dL_law_678 := db_cL_law_dL_law_675_31.2.2.1
def dL_law_679 := db_cL_law_dL_law_675_31.2.2.2.1
def dL_law_680 := db_cL_law_dL_law_675_31.2.2.2.2.1
def dL_law_681 := db_cL_law_dL_law_675_31.2.2.2.2.2.1
def dL_law_684 := db_cL_law_dL_law_675_31.2.2.2.2.2.2.1
def dL_law_686 := db_cL_law_dL_law_675_31.2.2.2.2.2.2.2.1
def dL_law_687 := db_cL_law_dL_law_675_31.2.2.2.2.2.2.2.2.1
def dL_law_688 := db_cL_law_dL_law_675_31.2.2.2.2.2.2.2.2.2.1
def dL_law_690 := db_cL_law_dL_law_675_31.2.2.2.2.2.2.2.2.2.2.1
def dL_law_691 := db_cL_law_dL_law_675_31.2.2.2.2.2.2.2.2.2.2.2
set_option maxRecDepth 100000 in
theorem db_cL_law_dL_law_692_32 : (decode cL_law 692 = .ok (.iaload, 1)) ∧ (decode cL_law 693 = .ok (.invokevirtual 157, 3)) ∧ (decode cL_law 696 = .ok (.istore 6, 2)) ∧ (decode cL_law 698 = .ok (.goto 874, 3)) ∧ (decode cL_law 701 = .ok (.aload_n 1, 1)) ∧ (decode cL_law 702 = .ok (.aload_n 0, 1)) ∧ (decode cL_law 703 = .ok (.iload 4, 2)) ∧ (decode cL_law 705 = .ok (.iconst 1, 1)) ∧ (decode cL_law 706 = .ok (.iadd, 1)) ∧ (decode cL_law 707 = .ok (.iaload, 1)) ∧ (decode cL_law 708 = .ok (.aload_n 3, 1)) ∧ (decode cL_law 709 = .ok (.invokestatic 158, 3)) := by decide +kernel
def dL_law_692 := db_cL_law_dL_law_692_32.1
def dL_law_693 := db_cL_law_dL_law_692_32.2.1
def dL_law_696 := db_cL_law_dL_law_692_32.2.2.1
def dL_law_698 := db_cL_law_dL_law_692_32.2.2.2.1
def dL_law_701 := db_cL_law_dL_law_692_32.2.2.2.2.1
def dL_law_702 := db_cL_law_dL_law_692_32.2.2.2.2.2.1
def dL_law_703 := db_cL_law_dL_law_692_32.2.2.2.2.2.2.1
def dL_law_705 := db_cL_law_dL_law_692_32.2.2.2.2.2.2.2.1
def dL_law_706 := db_cL_law_dL_law_692_32.2.2.2.2.2.2.2.2.1
def dL_law_707 := db_cL_law_dL_law_692_32.2.2.2.2.2.2.2.2.2.1
def dL_law_708 := db_cL_law_dL_law_692_32.2.2.2.2.2.2.2.2.2.2.1
def dL_law_709 := db_cL_law_dL_law_692_32.2.2.2.2.2.2.2.2.2.2.2
set_option maxRecDepth 100000 in
theorem db_cL_law_dL_law_712_33 : (decode cL_law 712 = .ok (.istore 5, 2)) ∧ (decode cL_law 714 = .ok (.aload_n 2, 1)) ∧ (decode cL_law 715 = .ok (.aload_n 0, 1)) ∧ (decode cL_law 716 = .ok (.iload 4, 2)) ∧ (decode cL_law 718 = .ok (.iconst 1, 1)) ∧ (decode cL_law 719 = .ok (.iadd, 1)) ∧ (decode cL_law 720 = .ok (.iaload, 1)) ∧ (decode cL_law 721 = .ok (.invokevirtual 160, 3)) ∧ (decode cL_law 724 = .ok (.istore 6, 2)) ∧ (decode cL_law 726 = .ok (.goto 846, 3)) ∧ (decode cL_law 729 = .ok (.aload_n 1, 1)) ∧ (decode cL_law 730 = .ok (.aload_n 0, 1)) := by decide +kernel
def dL_law_712 := db_cL_law_dL_law_712_33.1
def dL_law_714 := db_cL_law_dL_law_712_33.2.1
def dL_law_715 := db_cL_law_dL_law_712_33.2.2.1
def dL_law_716 := db_cL_law_dL_law_712_33.2.2.2.1
def dL_law_718 := db_cL_law_dL_law_712_33.2.2.2.2.1
def dL_law_719 := db_cL_law_dL_law_712_33.2.2.2.2.2.1
def dL_law_720 := db_cL_law_dL_law_712_33.2.2.2.2.2.2.1
def dL_law_721 := db_cL_law_dL_law_712_33.2.2.2.2.2.2.2.1
def dL_law_724 := db_cL_law_dL_law_712_33.2.2.2.2.2.2.2.2.1
def dL_law_726 := db_cL_law_dL_law_712_33.2.2.2.2.2.2.2.2.2.1
def dL_law_729 := db_cL_law_dL_law_712_33.2.2.2.2.2.2.2.2.2.2.1
def dL_law_730 := db_cL_law_dL_law_712_33.2.2.2.2.2.2.2.2.2.2.2
set_option maxRecDepth 100000 in
theorem db_cL_law_dL_law_731_34 : (decode cL_law 731 = .ok (.iload 4, 2)) ∧ (decode cL_law 733 = .ok (.iconst 1, 1)) ∧ (decode cL_law 734 = .ok (.iadd, 1)) ∧ (decode cL_law 735 = .ok (.iaload, 1)) ∧ (decode cL_law 736 = .ok (.aload_n 0, 1)) ∧ (decode cL_law 737 = .ok (.iload 4, 2)) ∧ (decode cL_law 739 = .ok (.iconst 2, 1)) ∧ (decode cL_law 740 = .ok (.iadd, 1)) ∧ (decode cL_law 741 = .ok (.iaload, 1)) ∧ (decode cL_law 742 = .ok (.aload_n 3, 1)) ∧ (decode cL_law 743 = .ok (.invokestatic 161, 3)) ∧ (decode cL_law 746 = .ok (.istore 5, 2)) := by decide +kernel
def dL_law_731 := db_cL_law_dL_law_731_34.1
def dL_law_733 := db_cL_law_dL_law_731_34.2.1
def dL_law_734 := db_cL_law_dL_law_731_34.2.2.1
def dL_law_735 := db_cL_law_dL_law_731_34.2.2.2.1
def dL_law_736 := db_cL_law_dL_law_731_34.2.2.2.2.1
def dL_law_737 := db_cL_law_dL_law_731_34.2.2.2.2.2.1
def dL_law_739 := db_cL_law_dL_law_731_34.2.2.2.2.2.2.1
def dL_law_740 := db_cL_law_dL_law_731_34.2.2.2.2.2.2.2.1
def dL_law_741 := db_cL_law_dL_law_731_34.2.2.2.2.2.2.2.2.1
def dL_law_742 := db_cL_law_dL_law_731_34.2.2.2.2.2.2.2.2.2.1
def dL_law_743 := db_cL_law_dL_law_731_34.2.2.2.2.2.2.2.2.2.2.1
def dL_law_746 := db_cL_law_dL_law_731_34.2.2.2.2.2.2.2.2.2.2.2
set_option maxRecDepth 100000 in
theorem db_cL_law_dL_law_748_35 : (decode cL_law 748 = .ok (.aload_n 2, 1)) ∧ (decode cL_law 749 = .ok (.aload_n 0, 1)) ∧ (decode cL_law 750 = .ok (.iload 4, 2)) ∧ (decode cL_law 752 = .ok (.iconst 1, 1)) ∧ (decode cL_law 753 = .ok (.iadd, 1)) ∧ (decode cL_law 754 = .ok (.iaload, 1)) ∧ (decode cL_law 755 = .ok (.aload_n 0, 1)) ∧ (decode cL_law 756 = .ok (.iload 4, 2)) ∧ (decode cL_law 758 = .ok (.iconst 2, 1)) ∧ (decode cL_law 759 = .ok (.iadd, 1)) ∧ (decode cL_law 760 = .ok (.iaload, 1)) ∧ (decode cL_law 761 = .ok (.invokevirtual 163, 3)) := by decide +kernel
def dL_law_748 := db_cL_law_dL_law_748_35.1
def dL_law_749 := db_cL_law_dL_law_748_35.2.1
def dL_law_750 := db_cL_law_dL_law_748_35.2.2.1
def dL_law_752 := db_cL_law_dL_law_748_35.2.2.2.1
def dL_law_753 := db_cL_law_dL_law_748_35.2.2.2.2.1
def dL_law_754 := db_cL_law_dL_law_748_35.2.2.2.2.2.1
def dL_law_755 := db_cL_law_dL_law_748_35.2.2.2.2.2.2.1
def dL_law_756 := db_cL_law_dL_law_748_35.2.2.2.2.2.2.2.1
def dL_law_758 := db_cL_law_dL_law_748_35.2.2.2.2.2.2.2.2.1
def dL_law_759 := db_cL_law_dL_law_748_35.2.2.2.2.2.2.2.2.2.1
def dL_law_760 := db_cL_law_dL_law_748_35.2.2.2.2.2.2.2.2.2.2.1
def dL_law_761 := db_cL_law_dL_law_748_35.2.2.2.2.2.2.2.2.2.2.2
set_option maxRecDepth 100000 in
theorem db_cL_law_dL_law_764_36 : (decode cL_law 764 = .ok (.istore 6, 2)) ∧ (decode cL_law 766 = .ok (.goto 806, 3)) ∧ (decode cL_law 769 = .ok (.aload_n 1, 1)) ∧ (decode cL_law 770 = .ok (.aload_n 0, 1)) ∧ (decode cL_law 771 = .ok (.iload 4, 2)) ∧ (decode cL_law 773 = .ok (.iconst 1, 1)) ∧ (decode cL_law 774 = .ok (.iadd, 1)) ∧ (decode cL_law 775 = .ok (.iaload, 1)) ∧ (decode cL_law 776 = .ok (.aload_n 0, 1)) ∧ (decode cL_law 777 = .ok (.iload 4, 2)) ∧ (decode cL_law 779 = .ok (.iconst 2, 1)) ∧ (decode cL_law 780 = .ok (.iadd, 1)) := by decide +kernel
def dL_law_764 := db_cL_law_dL_law_764_36.1
def dL_law_766 := db_cL_law_dL_law_764_36.2.1
def dL_law_769 := db_cL_law_dL_law_764_36.2.2.1
def dL_law_770 := db_cL_law_dL_law_764_36.2.2.2.1
def dL_law_771 := db_cL_law_dL_law_764_36.2.2.2.2.1
def dL_law_773 := db_cL_law_dL_law_764_36.2.2.2.2.2.1
def dL_law_774 := db_cL_law_dL_law_764_36.2.2.2.2.2.2.1
def dL_law_775 := db_cL_law_dL_law_764_36.2.2.2.2.2.2.2.1
def dL_law_776 := db_cL_law_dL_law_764_36.2.2.2.2.2.2.2.2.1
def dL_law_777 := db_cL_law_dL_law_764_36.2.2.2.2.2.2.2.2.2.1
def dL_law_779 := db_cL_law_dL_law_764_36.2.2.2.2.2.2.2.2.2.2.1
def dL_law_780 := db_cL_law_dL_law_764_36.2.2.2.2.2.2.2.2.2.2.2
set_option maxRecDepth 100000 in
theorem db_cL_law_dL_law_781_37 : (decode cL_law 781 = .ok (.iaload, 1)) ∧ (decode cL_law 782 = .ok (.ifCond .eq 7, 3)) ∧ (decode cL_law 785 = .ok (.iconst 1, 1)) ∧ (decode cL_law 786 = .ok (.goto 4, 3)) ∧ (decode cL_law 789 = .ok (.iconst 0, 1)) ∧ (decode cL_law 790 = .ok (.aload_n 0, 1)) ∧ (decode cL_law 791 = .ok (.iload 4, 2)) ∧ (decode cL_law 793 = .ok (.iconst 3, 1)) ∧ (decode cL_law 794 = .ok (.iadd, 1)) ∧ (decode cL_law 795 = .ok (.iaload, 1)) ∧ (decode cL_law 796 = .ok (.aload_n 3, 1)) ∧ (decode cL_law 797 = .ok (.invokestatic 164, 3)) := by decide +kernel
def dL_law_781 := db_cL_law_dL_law_781_37.1
def dL_law_782 := db_cL_law_dL_law_781_37.2.1
def dL_law_785 := db_cL_law_dL_law_781_37.2.2.1
def dL_law_786 := db_cL_law_dL_law_781_37.2.2.2.1
def dL_law_789 := db_cL_law_dL_law_781_37.2.2.2.2.1
def dL_law_790 := db_cL_law_dL_law_781_37.2.2.2.2.2.1
def dL_law_791 := db_cL_law_dL_law_781_37.2.2.2.2.2.2.1
def dL_law_793 := db_cL_law_dL_law_781_37.2.2.2.2.2.2.2.1
def dL_law_794 := db_cL_law_dL_law_781_37.2.2.2.2.2.2.2.2.1
def dL_law_795 := db_cL_law_dL_law_781_37.2.2.2.2.2.2.2.2.2.1
def dL_law_796 := db_cL_law_dL_law_781_37.2.2.2.2.2.2.2.2.2.2.1
def dL_law_797 := db_cL_law_dL_law_781_37.2.2.2.2.2.2.2.2.2.2.2
set_option maxRecDepth 100000 in
theorem db_cL_law_dL_law_800_38 : (decode cL_law 800 = .ok (.istore 5, 2)) ∧ (decode cL_law 802 = .ok (.aload_n 2, 1)) ∧ (decode cL_law 803 = .ok (.aload_n 0, 1)) ∧ (decode cL_law 804 = .ok (.iload 4, 2)) ∧ (decode cL_law 806 = .ok (.iconst 1, 1)) ∧ (decode cL_law 807 = .ok (.iadd, 1)) ∧ (decode cL_law 808 = .ok (.iaload, 1)) ∧ (decode cL_law 809 = .ok (.aload_n 0, 1)) ∧ (decode cL_law 810 = .ok (.iload 4, 2)) ∧ (decode cL_law 812 = .ok (.iconst 2, 1)) ∧ (decode cL_law 813 = .ok (.iadd, 1)) ∧ (decode cL_law 814 = .ok (.iaload, 1)) := by decide +kernel
def dL_law_800 := db_cL_law_dL_law_800_38.1
def dL_law_802 := db_cL_law_dL_law_800_38.2.1
def dL_law_803 := db_cL_law_dL_law_800_38.2.2.1
def dL_law_804 := db_cL_law_dL_law_800_38.2.2.2.1
def dL_law_806 := db_cL_law_dL_law_800_38.2.2.2.2.1
def dL_law_807 := db_cL_law_dL_law_800_38.2.2.2.2.2.1
def dL_law_808 := db_cL_law_dL_law_800_38.2.2.2.2.2.2.1
def dL_law_809 := db_cL_law_dL_law_800_38.2.2.2.2.2.2.2.1
def dL_law_810 := db_cL_law_dL_law_800_38.2.2.2.2.2.2.2.2.1
def dL_law_812 := db_cL_law_dL_law_800_38.2.2.2.2.2.2.2.2.2.1
def dL_law_813 := db_cL_law_dL_law_800_38.2.2.2.2.2.2.2.2.2.2.1
def dL_law_814 := db_cL_law_dL_law_800_38.2.2.2.2.2.2.2.2.2.2.2
set_option maxRecDepth 100000 in
theorem db_cL_law_dL_law_815_39 : (decode cL_law 815 = .ok (.ifCond .eq 7, 3)) ∧ (decode cL_law 818 = .ok (.iconst 1, 1)) ∧ (decode cL_law 819 = .ok (.goto 4, 3)) ∧ (decode cL_law 822 = .ok (.iconst 0, 1)) ∧ (decode cL_law 823 = .ok (.aload_n 0, 1)) ∧ (decode cL_law 824 = .ok (.iload 4, 2)) ∧ (decode cL_law 826 = .ok (.iconst 3, 1)) ∧ (decode cL_law 827 = .ok (.iadd, 1)) ∧ (decode cL_law 828 = .ok (.iaload, 1)) ∧ (decode cL_law 829 = .ok (.invokevirtual 167, 3)) ∧ (decode cL_law 832 = .ok (.istore 6, 2)) ∧ (decode cL_law 834 = .ok (.goto 738, 3)) := by decide +kernel
def dL_law_815 := db_cL_law_dL_law_815_39.1
def dL_law_818 := db_cL_law_dL_law_815_39.2.1
def dL_law_819 := db_cL_law_dL_law_815_39.2.2.1
def dL_law_822 := db_cL_law_dL_law_815_39.2.2.2.1
def dL_law_823 := db_cL_law_dL_law_815_39.2.2.2.2.1
def dL_law_824 := db_cL_law_dL_law_815_39.2.2.2.2.2.1
def dL_law_826 := db_cL_law_dL_law_815_39.2.2.2.2.2.2.1
def dL_law_827 := db_cL_law_dL_law_815_39.2.2.2.2.2.2.2.1
def dL_law_828 := db_cL_law_dL_law_815_39.2.2.2.2.2.2.2.2.1
def dL_law_829 := db_cL_law_dL_law_815_39.2.2.2.2.2.2.2.2.2.1
def dL_law_832 := db_cL_law_dL_law_815_39.2.2.2.2.2.2.2.2.2.2.1
def dL_law_834 := db_cL_law_dL_law_815_39.2.2.2.2.2.2.2.2.2.2.2
set_option maxRecDepth 100000 in
theorem db_cL_law_dL_law_837_40 : (decode cL_law 837 = .ok (.aload_n 1, 1)) ∧ (decode cL_law 838 = .ok (.aload_n 0, 1)) ∧ (decode cL_law 839 = .ok (.iload 4, 2)) ∧ (decode cL_law 841 = .ok (.iconst 1, 1)) ∧ (decode cL_law 842 = .ok (.iadd, 1)) ∧ (decode cL_law 843 = .ok (.iaload, 1)) ∧ (decode cL_law 844 = .ok (.aload_n 0, 1)) ∧ (decode cL_law 845 = .ok (.iload 4, 2)) ∧ (decode cL_law 847 = .ok (.iconst 2, 1)) ∧ (decode cL_law 848 = .ok (.iadd, 1)) ∧ (decode cL_law 849 = .ok (.iaload, 1)) ∧ (decode cL_law 850 = .ok (.aload_n 0, 1)) := by decide +kernel
def dL_law_837 := db_cL_law_dL_law_837_40.1
def dL_law_838 := db_cL_law_dL_law_837_40.2.1
def dL_law_839 := db_cL_law_dL_law_837_40.2.2.1
def dL_law_841 := db_cL_law_dL_law_837_40.2.2.2.1
def dL_law_842 := db_cL_law_dL_law_837_40.2.2.2.2.1
def dL_law_843 := db_cL_law_dL_law_837_40.2.2.2.2.2.1
def dL_law_844 := db_cL_law_dL_law_837_40.2.2.2.2.2.2.1
def dL_law_845 := db_cL_law_dL_law_837_40.2.2.2.2.2.2.2.1
def dL_law_847 := db_cL_law_dL_law_837_40.2.2.2.2.2.2.2.2.1
def dL_law_848 := db_cL_law_dL_law_837_40.2.2.2.2.2.2.2.2.2.1
def dL_law_849 := db_cL_law_dL_law_837_40.2.2.2.2.2.2.2.2.2.2.1
def dL_law_850 := db_cL_law_dL_law_837_40.2.2.2.2.2.2.2.2.2.2.2
set_option maxRecDepth 100000 in
theorem db_cL_law_dL_law_851_41 : (decode cL_law 851 = .ok (.iload 4, 2)) ∧ (decode cL_law 853 = .ok (.iconst 3, 1)) ∧ (decode cL_law 854 = .ok (.iadd, 1)) ∧ (decode cL_law 855 = .ok (.iaload, 1)) ∧ (decode cL_law 856 = .ok (.aload_n 0, 1)) ∧ (decode cL_law 857 = .ok (.iload 4, 2)) ∧ (decode cL_law 859 = .ok (.iconst 4, 1)) ∧ (decode cL_law 860 = .ok (.iadd, 1)) ∧ (decode cL_law 861 = .ok (.iaload, 1)) ∧ (decode cL_law 862 = .ok (.aload_n 3, 1)) ∧ (decode cL_law 863 = .ok (.invokestatic 168, 3)) ∧ (decode cL_law 866 = .ok (.istore 5, 2)) := by decide +kernel
def dL_law_851 := db_cL_law_dL_law_851_41.1
def dL_law_853 := db_cL_law_dL_law_851_41.2.1
def dL_law_854 := db_cL_law_dL_law_851_41.2.2.1
def dL_law_855 := db_cL_law_dL_law_851_41.2.2.2.1
def dL_law_856 := db_cL_law_dL_law_851_41.2.2.2.2.1
def dL_law_857 := db_cL_law_dL_law_851_41.2.2.2.2.2.1
def dL_law_859 := db_cL_law_dL_law_851_41.2.2.2.2.2.2.1
def dL_law_860 := db_cL_law_dL_law_851_41.2.2.2.2.2.2.2.1
def dL_law_861 := db_cL_law_dL_law_851_41.2.2.2.2.2.2.2.2.1
def dL_law_862 := db_cL_law_dL_law_851_41.2.2.2.2.2.2.2.2.2.1
def dL_law_863 := db_cL_law_dL_law_851_41.2.2.2.2.2.2.2.2.2.2.1
def dL_law_866 := db_cL_law_dL_law_851_41.2.2.2.2.2.2.2.2.2.2.2
set_option maxRecDepth 100000 in
theorem db_cL_law_dL_law_868_42 : (decode cL_law 868 = .ok (.aload_n 2, 1)) ∧ (decode cL_law 869 = .ok (.aload_n 0, 1)) ∧ (decode cL_law 870 = .ok (.iload 4, 2)) ∧ (decode cL_law 872 = .ok (.iconst 1, 1)) ∧ (decode cL_law 873 = .ok (.iadd, 1)) ∧ (decode cL_law 874 = .ok (.iaload, 1)) ∧ (decode cL_law 875 = .ok (.aload_n 0, 1)) ∧ (decode cL_law 876 = .ok (.iload 4, 2)) ∧ (decode cL_law 878 = .ok (.iconst 2, 1)) ∧ (decode cL_law 879 = .ok (.iadd, 1)) ∧ (decode cL_law 880 = .ok (.iaload, 1)) ∧ (decode cL_law 881 = .ok (.aload_n 0, 1)) := by decide +kernel
def dL_law_868 := db_cL_law_dL_law_868_42.1
def dL_law_869 := db_cL_law_dL_law_868_42.2.1
def dL_law_870 := db_cL_law_dL_law_868_42.2.2.1
def dL_law_872 := db_cL_law_dL_law_868_42.2.2.2.1
def dL_law_873 := db_cL_law_dL_law_868_42.2.2.2.2.1
def dL_law_874 := db_cL_law_dL_law_868_42.2.2.2.2.2.1
def dL_law_875 := db_cL_law_dL_law_868_42.2.2.2.2.2.2.1
def dL_law_876 := db_cL_law_dL_law_868_42.2.2.2.2.2.2.2.1
def dL_law_878 := db_cL_law_dL_law_868_42.2.2.2.2.2.2.2.2.1
def dL_law_879 := db_cL_law_dL_law_868_42.2.2.2.2.2.2.2.2.2.1
def dL_law_880 := db_cL_law_dL_law_868_42.2.2.2.2.2.2.2.2.2.2.1
def dL_law_881 := db_cL_law_dL_law_868_42.2.2.2.2.2.2.2.2.2.2.2
set_option maxRecDepth 100000 in
theorem db_cL_law_dL_law_882_43 : (decode cL_law 882 = .ok (.iload 4, 2)) ∧ (decode cL_law 884 = .ok (.iconst 3, 1)) ∧ (decode cL_law 885 = .ok (.iadd, 1)) ∧ (decode cL_law 886 = .ok (.iaload, 1)) ∧ (decode cL_law 887 = .ok (.aload_n 0, 1)) ∧ (decode cL_law 888 = .ok (.iload 4, 2)) ∧ (decode cL_law 890 = .ok (.iconst 4, 1)) ∧ (decode cL_law 891 = .ok (.iadd, 1)) ∧ (decode cL_law 892 = .ok (.iaload, 1)) ∧ (decode cL_law 893 = .ok (.invokevirtual 170, 3)) ∧ (decode cL_law 896 = .ok (.istore 6, 2)) ∧ (decode cL_law 898 = .ok (.goto 674, 3)) := by decide +kernel
def dL_law_882 := db_cL_law_dL_law_882_43.1
def dL_law_884 := db_cL_law_dL_law_882_43.2.1
def dL_law_885 := db_cL_law_dL_law_882_43.2.2.1
def dL_law_886 := db_cL_law_dL_law_882_43.2.2.2.1
def dL_law_887 := db_cL_law_dL_law_882_43.2.2.2.2.1
def dL_law_888 := db_cL_law_dL_law_882_43.2.2.2.2.2.1
def dL_law_890 := db_cL_law_dL_law_882_43.2.2.2.2.2.2.1
def dL_law_891 := db_cL_law_dL_law_882_43.2.2.2.2.2.2.2.1
def dL_law_892 := db_cL_law_dL_law_882_43.2.2.2.2.2.2.2.2.1
def dL_law_893 := db_cL_law_dL_law_882_43.2.2.2.2.2.2.2.2.2.1
def dL_law_896 := db_cL_law_dL_law_882_43.2.2.2.2.2.2.2.2.2.2.1
def dL_law_898 := db_cL_law_dL_law_882_43.2.2.2.2.2.2.2.2.2.2.2
set_option maxRecDepth 100000 in
theorem db_cL_law_dL_law_901_44 : (decode cL_law 901 = .ok (.aload_n 1, 1)) ∧ (decode cL_law 902 = .ok (.aload_n 0, 1)) ∧ (decode cL_law 903 = .ok (.iload 4, 2)) ∧ (decode cL_law 905 = .ok (.iconst 1, 1)) ∧ (decode cL_law 906 = .ok (.iadd, 1)) ∧ (decode cL_law 907 = .ok (.iaload, 1)) ∧ (decode cL_law 908 = .ok (.aload_n 0, 1)) ∧ (decode cL_law 909 = .ok (.iload 4, 2)) ∧ (decode cL_law 911 = .ok (.iconst 2, 1)) ∧ (decode cL_law 912 = .ok (.iadd, 1)) ∧ (decode cL_law 913 = .ok (.iaload, 1)) ∧ (decode cL_law 914 = .ok (.aload_n 3, 1)) := by decide +kernel
def dL_law_901 := db_cL_law_dL_law_901_44.1
def dL_law_902 := db_cL_law_dL_law_901_44.2.1
def dL_law_903 := db_cL_law_dL_law_901_44.2.2.1
def dL_law_905 := db_cL_law_dL_law_901_44.2.2.2.1
def dL_law_906 := db_cL_law_dL_law_901_44.2.2.2.2.1
def dL_law_907 := db_cL_law_dL_law_901_44.2.2.2.2.2.1
def dL_law_908 := db_cL_law_dL_law_901_44.2.2.2.2.2.2.1
def dL_law_909 := db_cL_law_dL_law_901_44.2.2.2.2.2.2.2.1
def dL_law_911 := db_cL_law_dL_law_901_44.2.2.2.2.2.2.2.2.1
def dL_law_912 := db_cL_law_dL_law_901_44.2.2.2.2.2.2.2.2.2.1
def dL_law_913 := db_cL_law_dL_law_901_44.2.2.2.2.2.2.2.2.2.2.1
def dL_law_914 := db_cL_law_dL_law_901_44.2.2.2.2.2.2.2.2.2.2.2
set_option maxRecDepth 100000 in
theorem db_cL_law_dL_law_915_45 : (decode cL_law 915 = .ok (.invokestatic 171, 3)) ∧ (decode cL_law 918 = .ok (.istore 5, 2)) ∧ (decode cL_law 920 = .ok (.aload_n 2, 1)) ∧ (decode cL_law 921 = .ok (.aload_n 0, 1)) ∧ (decode cL_law 922 = .ok (.iload 4, 2)) ∧ (decode cL_law 924 = .ok (.iconst 1, 1)) ∧ (decode cL_law 925 = .ok (.iadd, 1)) ∧ (decode cL_law 926 = .ok (.iaload, 1)) ∧ (decode cL_law 927 = .ok (.aload_n 0, 1)) ∧ (decode cL_law 928 = .ok (.iload 4, 2)) ∧ (decode cL_law 930 = .ok (.iconst 2, 1)) ∧ (decode cL_law 931 = .ok (.iadd, 1)) := by decide +kernel
def dL_law_915 := db_cL_law_dL_law_915_45.1
def dL_law_918 := db_cL_law_dL_law_915_45.2.1
def dL_law_920 := db_cL_law_dL_law_915_45.2.2.1
def dL_law_921 := db_cL_law_dL_law_915_45.2.2.2.1
def dL_law_922 := db_cL_law_dL_law_915_45.2.2.2.2.1
def dL_law_924 := db_cL_law_dL_law_915_45.2.2.2.2.2.1
def dL_law_925 := db_cL_law_dL_law_915_45.2.2.2.2.2.2.1
def dL_law_926 := db_cL_law_dL_law_915_45.2.2.2.2.2.2.2.1
def dL_law_927 := db_cL_law_dL_law_915_45.2.2.2.2.2.2.2.2.1
def dL_law_928 := db_cL_law_dL_law_915_45.2.2.2.2.2.2.2.2.2.1
def dL_law_930 := db_cL_law_dL_law_915_45.2.2.2.2.2.2.2.2.2.2.1
def dL_law_931 := db_cL_law_dL_law_915_45.2.2.2.2.2.2.2.2.2.2.2
set_option maxRecDepth 100000 in
theorem db_cL_law_dL_law_932_46 : (decode cL_law 932 = .ok (.iaload, 1)) ∧ (decode cL_law 933 = .ok (.invokevirtual 173, 3)) ∧ (decode cL_law 936 = .ok (.istore 6, 2)) ∧ (decode cL_law 938 = .ok (.goto 634, 3)) ∧ (decode cL_law 941 = .ok (.aload_n 1, 1)) ∧ (decode cL_law 942 = .ok (.aload_n 0, 1)) ∧ (decode cL_law 943 = .ok (.iload 4, 2)) ∧ (decode cL_law 945 = .ok (.iconst 1, 1)) ∧ (decode cL_law 946 = .ok (.iadd, 1)) ∧ (decode cL_law 947 = .ok (.iaload, 1)) ∧ (decode cL_law 948 = .ok (.aload_n 0, 1)) ∧ (decode cL_law 949 = .ok (.iload 4, 2)) := by decide +kernel
def dL_law_932 := db_cL_law_dL_law_932_46.1
def dL_law_933 := db_cL_law_dL_law_932_46.2.1
def dL_law_936 := db_cL_law_dL_law_932_46.2.2.1
def dL_law_938 := db_cL_law_dL_law_932_46.2.2.2.1
def dL_law_941 := db_cL_law_dL_law_932_46.2.2.2.2.1
def dL_law_942 := db_cL_law_dL_law_932_46.2.2.2.2.2.1
def dL_law_943 := db_cL_law_dL_law_932_46.2.2.2.2.2.2.1
def dL_law_945 := db_cL_law_dL_law_932_46.2.2.2.2.2.2.2.1
def dL_law_946 := db_cL_law_dL_law_932_46.2.2.2.2.2.2.2.2.1
def dL_law_947 := db_cL_law_dL_law_932_46.2.2.2.2.2.2.2.2.2.1
def dL_law_948 := db_cL_law_dL_law_932_46.2.2.2.2.2.2.2.2.2.2.1
def dL_law_949 := db_cL_law_dL_law_932_46.2.2.2.2.2.2.2.2.2.2.2
set_option maxRecDepth 100000 in
theorem db_cL_law_dL_law_951_47 : (decode cL_law 951 = .ok (.iconst 2, 1)) ∧ (decode cL_law 952 = .ok (.iadd, 1)) ∧ (decode cL_law 953 = .ok (.iaload, 1)) ∧ (decode cL_law 954 = .ok (.aload_n 0, 1)) ∧ (decode cL_law 955 = .ok (.iload 4, 2)) ∧ (decode cL_law 957 = .ok (.iconst 3, 1)) ∧ (decode cL_law 958 = .ok (.iadd, 1)) ∧ (decode cL_law 959 = .ok (.iaload, 1)) ∧ (decode cL_law 960 = .ok (.aload_n 3, 1)) ∧ (decode cL_law 961 = .ok (.invokestatic 174, 3)) ∧ (decode cL_law 964 = .ok (.istore 5, 2)) ∧ (decode cL_law 966 = .ok (.aload_n 2, 1)) := by decide +kernel
def dL_law_951 := db_cL_law_dL_law_951_47.1
def dL_law_952 := db_cL_law_dL_law_951_47.2.1
def dL_law_953 := db_cL_law_dL_law_951_47.2.2.1
def dL_law_954 := db_cL_law_dL_law_951_47.2.2.2.1
def dL_law_955 := db_cL_law_dL_law_951_47.2.2.2.2.1
def dL_law_957 := db_cL_law_dL_law_951_47.2.2.2.2.2.1
def dL_law_958 := db_cL_law_dL_law_951_47.2.2.2.2.2.2.1
def dL_law_959 := db_cL_law_dL_law_951_47.2.2.2.2.2.2.2.1
def dL_law_960 := db_cL_law_dL_law_951_47.2.2.2.2.2.2.2.2.1
def dL_law_961 := db_cL_law_dL_law_951_47.2.2.2.2.2.2.2.2.2.1
def dL_law_964 := db_cL_law_dL_law_951_47.2.2.2.2.2.2.2.2.2.2.1
def dL_law_966 := db_cL_law_dL_law_951_47.2.2.2.2.2.2.2.2.2.2.2
set_option maxRecDepth 100000 in
theorem db_cL_law_dL_law_967_48 : (decode cL_law 967 = .ok (.aload_n 0, 1)) ∧ (decode cL_law 968 = .ok (.iload 4, 2)) ∧ (decode cL_law 970 = .ok (.iconst 1, 1)) ∧ (decode cL_law 971 = .ok (.iadd, 1)) ∧ (decode cL_law 972 = .ok (.iaload, 1)) ∧ (decode cL_law 973 = .ok (.aload_n 0, 1)) ∧ (decode cL_law 974 = .ok (.iload 4, 2)) ∧ (decode cL_law 976 = .ok (.iconst 2, 1)) ∧ (decode cL_law 977 = .ok (.iadd, 1)) ∧ (decode cL_law 978 = .ok (.iaload, 1)) ∧ (decode cL_law 979 = .ok (.aload_n 0, 1)) ∧ (decode cL_law 980 = .ok (.iload 4, 2)) := by decide +kernel
def dL_law_967 := db_cL_law_dL_law_967_48.1
def dL_law_968 := db_cL_law_dL_law_967_48.2.1
def dL_law_970 := db_cL_law_dL_law_967_48.2.2.1
def dL_law_971 := db_cL_law_dL_law_967_48.2.2.2.1
def dL_law_972 := db_cL_law_dL_law_967_48.2.2.2.2.1
def dL_law_973 := db_cL_law_dL_law_967_48.2.2.2.2.2.1
def dL_law_974 := db_cL_law_dL_law_967_48.2.2.2.2.2.2.1
def dL_law_976 := db_cL_law_dL_law_967_48.2.2.2.2.2.2.2.1
def dL_law_977 := db_cL_law_dL_law_967_48.2.2.2.2.2.2.2.2.1
def dL_law_978 := db_cL_law_dL_law_967_48.2.2.2.2.2.2.2.2.2.1
def dL_law_979 := db_cL_law_dL_law_967_48.2.2.2.2.2.2.2.2.2.2.1
def dL_law_980 := db_cL_law_dL_law_967_48.2.2.2.2.2.2.2.2.2.2.2
set_option maxRecDepth 100000 in
theorem db_cL_law_dL_law_982_49 : (decode cL_law 982 = .ok (.iconst 3, 1)) ∧ (decode cL_law 983 = .ok (.iadd, 1)) ∧ (decode cL_law 984 = .ok (.iaload, 1)) ∧ (decode cL_law 985 = .ok (.invokevirtual 177, 3)) ∧ (decode cL_law 988 = .ok (.istore 6, 2)) ∧ (decode cL_law 990 = .ok (.goto 582, 3)) ∧ (decode cL_law 993 = .ok (.aload_n 1, 1)) ∧ (decode cL_law 994 = .ok (.aload_n 0, 1)) ∧ (decode cL_law 995 = .ok (.iload 4, 2)) ∧ (decode cL_law 997 = .ok (.iconst 1, 1)) ∧ (decode cL_law 998 = .ok (.iadd, 1)) ∧ (decode cL_law 999 = .ok (.iaload, 1)) := by decide +kernel
def dL_law_982 := db_cL_law_dL_law_982_49.1
def dL_law_983 := db_cL_law_dL_law_982_49.2.1
def dL_law_984 := db_cL_law_dL_law_982_49.2.2.1
def dL_law_985 := db_cL_law_dL_law_982_49.2.2.2.1
def dL_law_988 := db_cL_law_dL_law_982_49.2.2.2.2.1
def dL_law_990 := db_cL_law_dL_law_982_49.2.2.2.2.2.1
def dL_law_993 := db_cL_law_dL_law_982_49.2.2.2.2.2.2.1
def dL_law_994 := db_cL_law_dL_law_982_49.2.2.2.2.2.2.2.1
def dL_law_995 := db_cL_law_dL_law_982_49.2.2.2.2.2.2.2.2.1
def dL_law_997 := db_cL_law_dL_law_982_49.2.2.2.2.2.2.2.2.2.1
def dL_law_998 := db_cL_law_dL_law_982_49.2.2.2.2.2.2.2.2.2.2.1
def dL_law_999 := db_cL_law_dL_law_982_49.2.2.2.2.2.2.2.2.2.2.2
set_option maxRecDepth 100000 in
theorem db_cL_law_dL_law_1000_50 : (decode cL_law 1000 = .ok (.aload_n 0, 1)) ∧ (decode cL_law 1001 = .ok (.iload 4, 2)) ∧ (decode cL_law 1003 = .ok (.iconst 2, 1)) ∧ (decode cL_law 1004 = .ok (.iadd, 1)) ∧ (decode cL_law 1005 = .ok (.iaload, 1)) ∧ (decode cL_law 1006 = .ok (.aload_n 0, 1)) ∧ (decode cL_law 1007 = .ok (.iload 4, 2)) ∧ (decode cL_law 1009 = .ok (.iconst 3, 1)) ∧ (decode cL_law 1010 = .ok (.iadd, 1)) ∧ (decode cL_law 1011 = .ok (.iaload, 1)) ∧ (decode cL_law 1012 = .ok (.aload_n 3, 1)) ∧ (decode cL_law 1013 = .ok (.invokestatic 178, 3)) := by decide +kernel
def dL_law_1000 := db_cL_law_dL_law_1000_50.1
def dL_law_1001 := db_cL_law_dL_law_1000_50.2.1
def dL_law_1003 := db_cL_law_dL_law_1000_50.2.2.1
def dL_law_1004 := db_cL_law_dL_law_1000_50.2.2.2.1
def dL_law_1005 := db_cL_law_dL_law_1000_50.2.2.2.2.1
def dL_law_1006 := db_cL_law_dL_law_1000_50.2.2.2.2.2.1
def dL_law_1007 := db_cL_law_dL_law_1000_50.2.2.2.2.2.2.1
def dL_law_1009 := db_cL_law_dL_law_1000_50.2.2.2.2.2.2.2.1
def dL_law_1010 := db_cL_law_dL_law_1000_50.2.2.2.2.2.2.2.2.1
def dL_law_1011 := db_cL_law_dL_law_1000_50.2.2.2.2.2.2.2.2.2.1
def dL_law_1012 := db_cL_law_dL_law_1000_50.2.2.2.2.2.2.2.2.2.2.1
def dL_law_1013 := db_cL_law_dL_law_1000_50.2.2.2.2.2.2.2.2.2.2.2
set_option maxRecDepth 100000 in
theorem db_cL_law_dL_law_1016_51 : (decode cL_law 1016 = .ok (.istore 5, 2)) ∧ (decode cL_law 1018 = .ok (.aload_n 2, 1)) ∧ (decode cL_law 1019 = .ok (.aload_n 0, 1)) ∧ (decode cL_law 1020 = .ok (.iload 4, 2)) ∧ (decode cL_law 1022 = .ok (.iconst 1, 1)) ∧ (decode cL_law 1023 = .ok (.iadd, 1)) ∧ (decode cL_law 1024 = .ok (.iaload, 1)) ∧ (decode cL_law 1025 = .ok (.aload_n 0, 1)) ∧ (decode cL_law 1026 = .ok (.iload 4, 2)) ∧ (decode cL_law 1028 = .ok (.iconst 2, 1)) ∧ (decode cL_law 1029 = .ok (.iadd, 1)) ∧ (decode cL_law 1030 = .ok (.iaload, 1)) := by decide +kernel
def dL_law_1016 := db_cL_law_dL_law_1016_51.1
def dL_law_1018 := db_cL_law_dL_law_1016_51.2.1
def dL_law_1019 := db_cL_law_dL_law_1016_51.2.2.1
def dL_law_1020 := db_cL_law_dL_law_1016_51.2.2.2.1
def dL_law_1022 := db_cL_law_dL_law_1016_51.2.2.2.2.1
def dL_law_1023 := db_cL_law_dL_law_1016_51.2.2.2.2.2.1
def dL_law_1024 := db_cL_law_dL_law_1016_51.2.2.2.2.2.2.1
def dL_law_1025 := db_cL_law_dL_law_1016_51.2.2.2.2.2.2.2.1
def dL_law_1026 := db_cL_law_dL_law_1016_51.2.2.2.2.2.2.2.2.1
def dL_law_1028 := db_cL_law_dL_law_1016_51.2.2.2.2.2.2.2.2.2.1
def dL_law_1029 := db_cL_law_dL_law_1016_51.2.2.2.2.2.2.2.2.2.2.1
def dL_law_1030 := db_cL_law_dL_law_1016_51.2.2.2.2.2.2.2.2.2.2.2
set_option maxRecDepth 100000 in
theorem db_cL_law_dL_law_1031_52 : (decode cL_law 1031 = .ok (.aload_n 0, 1)) ∧ (decode cL_law 1032 = .ok (.iload 4, 2)) ∧ (decode cL_law 1034 = .ok (.iconst 3, 1)) ∧ (decode cL_law 1035 = .ok (.iadd, 1)) ∧ (decode cL_law 1036 = .ok (.iaload, 1)) ∧ (decode cL_law 1037 = .ok (.invokevirtual 180, 3)) ∧ (decode cL_law 1040 = .ok (.istore 6, 2)) ∧ (decode cL_law 1042 = .ok (.goto 530, 3)) ∧ (decode cL_law 1045 = .ok (.aload_n 1, 1)) ∧ (decode cL_law 1046 = .ok (.aload_n 0, 1)) ∧ (decode cL_law 1047 = .ok (.iload 4, 2)) ∧ (decode cL_law 1049 = .ok (.iconst 1, 1)) := by decide +kernel
def dL_law_1031 := db_cL_law_dL_law_1031_52.1
def dL_law_1032 := db_cL_law_dL_law_1031_52.2.1
def dL_law_1034 := db_cL_law_dL_law_1031_52.2.2.1
def dL_law_1035 := db_cL_law_dL_law_1031_52.2.2.2.1
def dL_law_1036 := db_cL_law_dL_law_1031_52.2.2.2.2.1
def dL_law_1037 := db_cL_law_dL_law_1031_52.2.2.2.2.2.1
def dL_law_1040 := db_cL_law_dL_law_1031_52.2.2.2.2.2.2.1
def dL_law_1042 := db_cL_law_dL_law_1031_52.2.2.2.2.2.2.2.1
def dL_law_1045 := db_cL_law_dL_law_1031_52.2.2.2.2.2.2.2.2.1
def dL_law_1046 := db_cL_law_dL_law_1031_52.2.2.2.2.2.2.2.2.2.1
def dL_law_1047 := db_cL_law_dL_law_1031_52.2.2.2.2.2.2.2.2.2.2.1
def dL_law_1049 := db_cL_law_dL_law_1031_52.2.2.2.2.2.2.2.2.2.2.2
set_option maxRecDepth 100000 in
theorem db_cL_law_dL_law_1050_53 : (decode cL_law 1050 = .ok (.iadd, 1)) ∧ (decode cL_law 1051 = .ok (.iaload, 1)) ∧ (decode cL_law 1052 = .ok (.aload_n 0, 1)) ∧ (decode cL_law 1053 = .ok (.iload 4, 2)) ∧ (decode cL_law 1055 = .ok (.iconst 2, 1)) ∧ (decode cL_law 1056 = .ok (.iadd, 1)) ∧ (decode cL_law 1057 = .ok (.iaload, 1)) ∧ (decode cL_law 1058 = .ok (.aload_n 0, 1)) ∧ (decode cL_law 1059 = .ok (.iload 4, 2)) ∧ (decode cL_law 1061 = .ok (.iconst 3, 1)) ∧ (decode cL_law 1062 = .ok (.iadd, 1)) ∧ (decode cL_law 1063 = .ok (.iaload, 1)) := by decide +kernel
def dL_law_1050 := db_cL_law_dL_law_1050_53.1
def dL_law_1051 := db_cL_law_dL_law_1050_53.2.1
def dL_law_1052 := db_cL_law_dL_law_1050_53.2.2.1
def dL_law_1053 := db_cL_law_dL_law_1050_53.2.2.2.1
def dL_law_1055 := db_cL_law_dL_law_1050_53.2.2.2.2.1
def dL_law_1056 := db_cL_law_dL_law_1050_53.2.2.2.2.2.1
def dL_law_1057 := db_cL_law_dL_law_1050_53.2.2.2.2.2.2.1
def dL_law_1058 := db_cL_law_dL_law_1050_53.2.2.2.2.2.2.2.1
def dL_law_1059 := db_cL_law_dL_law_1050_53.2.2.2.2.2.2.2.2.1
def dL_law_1061 := db_cL_law_dL_law_1050_53.2.2.2.2.2.2.2.2.2.1
def dL_law_1062 := db_cL_law_dL_law_1050_53.2.2.2.2.2.2.2.2.2.2.1
def dL_law_1063 := db_cL_law_dL_law_1050_53.2.2.2.2.2.2.2.2.2.2.2
set_option maxRecDepth 100000 in
theorem db_cL_law_dL_law_1064_54 : (decode cL_law 1064 = .ok (.aload_n 0, 1)) ∧ (decode cL_law 1065 = .ok (.iload 4, 2)) ∧ (decode cL_law 1067 = .ok (.iconst 4, 1)) ∧ (decode cL_law 1068 = .ok (.iadd, 1)) ∧ (decode cL_law 1069 = .ok (.iaload, 1)) ∧ (decode cL_law 1070 = .ok (.aload_n 3, 1)) ∧ (decode cL_law 1071 = .ok (.invokestatic 181, 3)) ∧ (decode cL_law 1074 = .ok (.istore 5, 2)) ∧ (decode cL_law 1076 = .ok (.aload_n 2, 1)) ∧ (decode cL_law 1077 = .ok (.aload_n 0, 1)) ∧ (decode cL_law 1078 = .ok (.iload 4, 2)) ∧ (decode cL_law 1080 = .ok (.iconst 1, 1)) := by decide +kernel
def dL_law_1064 := db_cL_law_dL_law_1064_54.1
def dL_law_1065 := db_cL_law_dL_law_1064_54.2.1
def dL_law_1067 := db_cL_law_dL_law_1064_54.2.2.1
def dL_law_1068 := db_cL_law_dL_law_1064_54.2.2.2.1
def dL_law_1069 := db_cL_law_dL_law_1064_54.2.2.2.2.1
def dL_law_1070 := db_cL_law_dL_law_1064_54.2.2.2.2.2.1
def dL_law_1071 := db_cL_law_dL_law_1064_54.2.2.2.2.2.2.1
def dL_law_1074 := db_cL_law_dL_law_1064_54.2.2.2.2.2.2.2.1
def dL_law_1076 := db_cL_law_dL_law_1064_54.2.2.2.2.2.2.2.2.1
def dL_law_1077 := db_cL_law_dL_law_1064_54.2.2.2.2.2.2.2.2.2.1
def dL_law_1078 := db_cL_law_dL_law_1064_54.2.2.2.2.2.2.2.2.2.2.1
def dL_law_1080 := db_cL_law_dL_law_1064_54.2.2.2.2.2.2.2.2.2.2.2
set_option maxRecDepth 100000 in
theorem db_cL_law_dL_law_1081_55 : (decode cL_law 1081 = .ok (.iadd, 1)) ∧ (decode cL_law 1082 = .ok (.iaload, 1)) ∧ (decode cL_law 1083 = .ok (.aload_n 0, 1)) ∧ (decode cL_law 1084 = .ok (.iload 4, 2)) ∧ (decode cL_law 1086 = .ok (.iconst 2, 1)) ∧ (decode cL_law 1087 = .ok (.iadd, 1)) ∧ (decode cL_law 1088 = .ok (.iaload, 1)) ∧ (decode cL_law 1089 = .ok (.aload_n 0, 1)) ∧ (decode cL_law 1090 = .ok (.iload 4, 2)) ∧ (decode cL_law 1092 = .ok (.iconst 3, 1)) ∧ (decode cL_law 1093 = .ok (.iadd, 1)) ∧ (decode cL_law 1094 = .ok (.iaload, 1)) := by decide +kernel
def dL_law_1081 := db_cL_law_dL_law_1081_55.1
def dL_law_1082 := db_cL_law_dL_law_1081_55.2.1
def dL_law_1083 := db_cL_law_dL_law_1081_55.2.2.1
def dL_law_1084 := db_cL_law_dL_law_1081_55.2.2.2.1
def dL_law_1086 := db_cL_law_dL_law_1081_55.2.2.2.2.1
def dL_law_1087 := db_cL_law_dL_law_1081_55.2.2.2.2.2.1
def dL_law_1088 := db_cL_law_dL_law_1081_55.2.2.2.2.2.2.1
def dL_law_1089 := db_cL_law_dL_law_1081_55.2.2.2.2.2.2.2.1
def dL_law_1090 := db_cL_law_dL_law_1081_55.2.2.2.2.2.2.2.2.1
def dL_law_1092 := db_cL_law_dL_law_1081_55.2.2.2.2.2.2.2.2.2.1
def dL_law_1093 := db_cL_law_dL_law_1081_55.2.2.2.2.2.2.2.2.2.2.1
def dL_law_1094 := db_cL_law_dL_law_1081_55.2.2.2.2.2.2.2.2.2.2.2
set_option maxRecDepth 100000 in
theorem db_cL_law_dL_law_1095_56 : (decode cL_law 1095 = .ok (.aload_n 0, 1)) ∧ (decode cL_law 1096 = .ok (.iload 4, 2)) ∧ (decode cL_law 1098 = .ok (.iconst 4, 1)) ∧ (decode cL_law 1099 = .ok (.iadd, 1)) ∧ (decode cL_law 1100 = .ok (.iaload, 1)) ∧ (decode cL_law 1101 = .ok (.invokevirtual 183, 3)) ∧ (decode cL_law 1104 = .ok (.istore 6, 2)) ∧ (decode cL_law 1106 = .ok (.goto 466, 3)) ∧ (decode cL_law 1109 = .ok (.aload_n 1, 1)) ∧ (decode cL_law 1110 = .ok (.aload_n 0, 1)) ∧ (decode cL_law 1111 = .ok (.iload 4, 2)) ∧ (decode cL_law 1113 = .ok (.iconst 1, 1)) := by decide +kernel
def dL_law_1095 := db_cL_law_dL_law_1095_56.1
def dL_law_1096 := db_cL_law_dL_law_1095_56.2.1
def dL_law_1098 := db_cL_law_dL_law_1095_56.2.2.1
def dL_law_1099 := db_cL_law_dL_law_1095_56.2.2.2.1
def dL_law_1100 := db_cL_law_dL_law_1095_56.2.2.2.2.1
def dL_law_1101 := db_cL_law_dL_law_1095_56.2.2.2.2.2.1
def dL_law_1104 := db_cL_law_dL_law_1095_56.2.2.2.2.2.2.1
def dL_law_1106 := db_cL_law_dL_law_1095_56.2.2.2.2.2.2.2.1
def dL_law_1109 := db_cL_law_dL_law_1095_56.2.2.2.2.2.2.2.2.1
def dL_law_1110 := db_cL_law_dL_law_1095_56.2.2.2.2.2.2.2.2.2.1
def dL_law_1111 := db_cL_law_dL_law_1095_56.2.2.2.2.2.2.2.2.2.2.1
def dL_law_1113 := db_cL_law_dL_law_1095_56.2.2.2.2.2.2.2.2.2.2.2
set_option maxRecDepth 100000 in
theorem db_cL_law_dL_law_1114_57 : (decode cL_law 1114 = .ok (.iadd, 1)) ∧ (decode cL_law 1115 = .ok (.iaload, 1)) ∧ (decode cL_law 1116 = .ok (.aload_n 0, 1)) ∧ (decode cL_law 1117 = .ok (.iload 4, 2)) ∧ (decode cL_law 1119 = .ok (.iconst 2, 1)) ∧ (decode cL_law 1120 = .ok (.iadd, 1)) ∧ (decode cL_law 1121 = .ok (.iaload, 1)) ∧ (decode cL_law 1122 = .ok (.aload_n 3, 1)) ∧ (decode cL_law 1123 = .ok (.invokestatic 184, 3)) ∧ (decode cL_law 1126 = .ok (.istore 5, 2)) ∧ (decode cL_law 1128 = .ok (.aload_n 2, 1)) ∧ (decode cL_law 1129 = .ok (.aload_n 0, 1)) := by decide +kernel
def dL_law_1114 := db_cL_law_dL_law_1114_57.1
def dL_law_1115 := db_cL_law_dL_law_1114_57.2.1
def dL_law_1116 := db_cL_law_dL_law_1114_57.2.2.1
def dL_law_1117 := db_cL_law_dL_law_1114_57.2.2.2.1
def dL_law_1119 := db_cL_law_dL_law_1114_57.2.2.2.2.1
def dL_law_1120 := db_cL_law_dL_law_1114_57.2.2.2.2.2.1
def dL_law_1121 := db_cL_law_dL_law_1114_57.2.2.2.2.2.2.1
def dL_law_1122 := db_cL_law_dL_law_1114_57.2.2.2.2.2.2.2.1
def dL_law_1123 := db_cL_law_dL_law_1114_57.2.2.2.2.2.2.2.2.1
def dL_law_1126 := db_cL_law_dL_law_1114_57.2.2.2.2.2.2.2.2.2.1
def dL_law_1128 := db_cL_law_dL_law_1114_57.2.2.2.2.2.2.2.2.2.2.1
def dL_law_1129 := db_cL_law_dL_law_1114_57.2.2.2.2.2.2.2.2.2.2.2
set_option maxRecDepth 100000 in
theorem db_cL_law_dL_law_1130_58 : (decode cL_law 1130 = .ok (.iload 4, 2)) ∧ (decode cL_law 1132 = .ok (.iconst 1, 1)) ∧ (decode cL_law 1133 = .ok (.iadd, 1)) ∧ (decode cL_law 1134 = .ok (.iaload, 1)) ∧ (decode cL_law 1135 = .ok (.aload_n 0, 1)) ∧ (decode cL_law 1136 = .ok (.iload 4, 2)) ∧ (decode cL_law 1138 = .ok (.iconst 2, 1)) ∧ (decode cL_law 1139 = .ok (.iadd, 1)) ∧ (decode cL_law 1140 = .ok (.iaload, 1)) ∧ (decode cL_law 1141 = .ok (.invokevirtual 186, 3)) ∧ (decode cL_law 1144 = .ok (.istore 6, 2)) ∧ (decode cL_law 1146 = .ok (.goto 426, 3)) := by decide +kernel
def dL_law_1130 := db_cL_law_dL_law_1130_58.1
def dL_law_1132 := db_cL_law_dL_law_1130_58.2.1
def dL_law_1133 := db_cL_law_dL_law_1130_58.2.2.1
def dL_law_1134 := db_cL_law_dL_law_1130_58.2.2.2.1
def dL_law_1135 := db_cL_law_dL_law_1130_58.2.2.2.2.1
def dL_law_1136 := db_cL_law_dL_law_1130_58.2.2.2.2.2.1
def dL_law_1138 := db_cL_law_dL_law_1130_58.2.2.2.2.2.2.1
def dL_law_1139 := db_cL_law_dL_law_1130_58.2.2.2.2.2.2.2.1
def dL_law_1140 := db_cL_law_dL_law_1130_58.2.2.2.2.2.2.2.2.1
def dL_law_1141 := db_cL_law_dL_law_1130_58.2.2.2.2.2.2.2.2.2.1
def dL_law_1144 := db_cL_law_dL_law_1130_58.2.2.2.2.2.2.2.2.2.2.1
def dL_law_1146 := db_cL_law_dL_law_1130_58.2.2.2.2.2.2.2.2.2.2.2
set_option maxRecDepth 100000 in
theorem db_cL_law_dL_law_1149_59 : (decode cL_law 1149 = .ok (.aload_n 1, 1)) ∧ (decode cL_law 1150 = .ok (.aload_n 0, 1)) ∧ (decode cL_law 1151 = .ok (.iload 4, 2)) ∧ (decode cL_law 1153 = .ok (.iconst 1, 1)) ∧ (decode cL_law 1154 = .ok (.iadd, 1)) ∧ (decode cL_law 1155 = .ok (.iaload, 1)) ∧ (decode cL_law 1156 = .ok (.aload_n 0, 1)) ∧ (decode cL_law 1157 = .ok (.iload 4, 2)) ∧ (decode cL_law 1159 = .ok (.iconst 2, 1)) ∧ (decode cL_law 1160 = .ok (.iadd, 1)) ∧ (decode cL_law 1161 = .ok (.iaload, 1)) ∧ (decode cL_law 1162 = .ok (.aload_n 3, 1)) := by decide +kernel
def dL_law_1149 := db_cL_law_dL_law_1149_59.1
def dL_law_1150 := db_cL_law_dL_law_1149_59.2.1
def dL_law_1151 := db_cL_law_dL_law_1149_59.2.2.1
def dL_law_1153 := db_cL_law_dL_law_1149_59.2.2.2.1
def dL_law_1154 := db_cL_law_dL_law_1149_59.2.2.2.2.1
def dL_law_1155 := db_cL_law_dL_law_1149_59.2.2.2.2.2.1
def dL_law_1156 := db_cL_law_dL_law_1149_59.2.2.2.2.2.2.1
def dL_law_1157 := db_cL_law_dL_law_1149_59.2.2.2.2.2.2.2.1
def dL_law_1159 := db_cL_law_dL_law_1149_59.2.2.2.2.2.2.2.2.1
def dL_law_1160 := db_cL_law_dL_law_1149_59.2.2.2.2.2.2.2.2.2.1
def dL_law_1161 := db_cL_law_dL_law_1149_59.2.2.2.2.2.2.2.2.2.2.1
def dL_law_1162 := db_cL_law_dL_law_1149_59.2.2.2.2.2.2.2.2.2.2.2
set_option maxRecDepth 100000 in
theorem db_cL_law_dL_law_1163_60 : (decode cL_law 1163 = .ok (.invokestatic 187, 3)) ∧ (decode cL_law 1166 = .ok (.istore 5, 2)) ∧ (decode cL_law 1168 = .ok (.aload_n 2, 1)) ∧ (decode cL_law 1169 = .ok (.aload_n 0, 1)) ∧ (decode cL_law 1170 = .ok (.iload 4, 2)) ∧ (decode cL_law 1172 = .ok (.iconst 1, 1)) ∧ (decode cL_law 1173 = .ok (.iadd, 1)) ∧ (decode cL_law 1174 = .ok (.iaload, 1)) ∧ (decode cL_law 1175 = .ok (.aload_n 0, 1)) ∧ (decode cL_law 1176 = .ok (.iload 4, 2)) ∧ (decode cL_law 1178 = .ok (.iconst 2, 1)) ∧ (decode cL_law 1179 = .ok (.iadd, 1)) := by decide +kernel
def dL_law_1163 := db_cL_law_dL_law_1163_60.1
def dL_law_1166 := db_cL_law_dL_law_1163_60.2.1
def dL_law_1168 := db_cL_law_dL_law_1163_60.2.2.1
def dL_law_1169 := db_cL_law_dL_law_1163_60.2.2.2.1
def dL_law_1170 := db_cL_law_dL_law_1163_60.2.2.2.2.1
def dL_law_1172 := db_cL_law_dL_law_1163_60.2.2.2.2.2.1
def dL_law_1173 := db_cL_law_dL_law_1163_60.2.2.2.2.2.2.1
def dL_law_1174 := db_cL_law_dL_law_1163_60.2.2.2.2.2.2.2.1
def dL_law_1175 := db_cL_law_dL_law_1163_60.2.2.2.2.2.2.2.2.1
def dL_law_1176 := db_cL_law_dL_law_1163_60.2.2.2.2.2.2.2.2.2.1
def dL_law_1178 := db_cL_law_dL_law_1163_60.2.2.2.2.2.2.2.2.2.2.1
def dL_law_1179 := db_cL_law_dL_law_1163_60.2.2.2.2.2.2.2.2.2.2.2
set_option maxRecDepth 100000 in
theorem db_cL_law_dL_law_1180_61 : (decode cL_law 1180 = .ok (.iaload, 1)) ∧ (decode cL_law 1181 = .ok (.invokevirtual 189, 3)) ∧ (decode cL_law 1184 = .ok (.astore 6, 2)) ∧ (decode cL_law 1186 = .ok (.goto 386, 3)) ∧ (decode cL_law 1189 = .ok (.aload_n 1, 1)) ∧ (decode cL_law 1190 = .ok (.aload_n 0, 1)) ∧ (decode cL_law 1191 = .ok (.iload 4, 2)) ∧ (decode cL_law 1193 = .ok (.iconst 1, 1)) ∧ (decode cL_law 1194 = .ok (.iadd, 1)) ∧ (decode cL_law 1195 = .ok (.iaload, 1)) ∧ (decode cL_law 1196 = .ok (.aload_n 3, 1)) ∧ (decode cL_law 1197 = .ok (.invokestatic 190, 3)) := by decide +kernel
def dL_law_1180 := db_cL_law_dL_law_1180_61.1
def dL_law_1181 := db_cL_law_dL_law_1180_61.2.1
def dL_law_1184 := db_cL_law_dL_law_1180_61.2.2.1
def dL_law_1186 := db_cL_law_dL_law_1180_61.2.2.2.1
def dL_law_1189 := db_cL_law_dL_law_1180_61.2.2.2.2.1
def dL_law_1190 := db_cL_law_dL_law_1180_61.2.2.2.2.2.1
def dL_law_1191 := db_cL_law_dL_law_1180_61.2.2.2.2.2.2.1
def dL_law_1193 := db_cL_law_dL_law_1180_61.2.2.2.2.2.2.2.1
def dL_law_1194 := db_cL_law_dL_law_1180_61.2.2.2.2.2.2.2.2.1
def dL_law_1195 := db_cL_law_dL_law_1180_61.2.2.2.2.2.2.2.2.2.1
def dL_law_1196 := db_cL_law_dL_law_1180_61.2.2.2.2.2.2.2.2.2.2.1
def dL_law_1197 := db_cL_law_dL_law_1180_61.2.2.2.2.2.2.2.2.2.2.2
set_option maxRecDepth 100000 in
theorem db_cL_law_dL_law_1200_62 : (decode cL_law 1200 = .ok (.istore 5, 2)) ∧ (decode cL_law 1202 = .ok (.aload_n 2, 1)) ∧ (decode cL_law 1203 = .ok (.aload_n 0, 1)) ∧ (decode cL_law 1204 = .ok (.iload 4, 2)) ∧ (decode cL_law 1206 = .ok (.iconst 1, 1)) ∧ (decode cL_law 1207 = .ok (.iadd, 1)) ∧ (decode cL_law 1208 = .ok (.iaload, 1)) ∧ (decode cL_law 1209 = .ok (.invokevirtual 192, 3)) ∧ (decode cL_law 1212 = .ok (.istore 6, 2)) ∧ (decode cL_law 1214 = .ok (.goto 358, 3)) ∧ (decode cL_law 1217 = .ok (.aload_n 1, 1)) ∧ (decode cL_law 1218 = .ok (.aload_n 0, 1)) := by decide +kernel
def dL_law_1200 := db_cL_law_dL_law_1200_62.1
def dL_law_1202 := db_cL_law_dL_law_1200_62.2.1
def dL_law_1203 := db_cL_law_dL_law_1200_62.2.2.1
def dL_law_1204 := db_cL_law_dL_law_1200_62.2.2.2.1
def dL_law_1206 := db_cL_law_dL_law_1200_62.2.2.2.2.1
def dL_law_1207 := db_cL_law_dL_law_1200_62.2.2.2.2.2.1
def dL_law_1208 := db_cL_law_dL_law_1200_62.2.2.2.2.2.2.1
def dL_law_1209 := db_cL_law_dL_law_1200_62.2.2.2.2.2.2.2.1
def dL_law_1212 := db_cL_law_dL_law_1200_62.2.2.2.2.2.2.2.2.1
def dL_law_1214 := db_cL_law_dL_law_1200_62.2.2.2.2.2.2.2.2.2.1
def dL_law_1217 := db_cL_law_dL_law_1200_62.2.2.2.2.2.2.2.2.2.2.1
def dL_law_1218 := db_cL_law_dL_law_1200_62.2.2.2.2.2.2.2.2.2.2.2
set_option maxRecDepth 100000 in
theorem db_cL_law_dL_law_1219_63 : (decode cL_law 1219 = .ok (.iload 4, 2)) ∧ (decode cL_law 1221 = .ok (.iconst 1, 1)) ∧ (decode cL_law 1222 = .ok (.iadd, 1)) ∧ (decode cL_law 1223 = .ok (.iaload, 1)) ∧ (decode cL_law 1224 = .ok (.aload_n 0, 1)) ∧ (decode cL_law 1225 = .ok (.iload 4, 2)) ∧ (decode cL_law 1227 = .ok (.iconst 2, 1)) ∧ (decode cL_law 1228 = .ok (.iadd, 1)) ∧ (decode cL_law 1229 = .ok (.iaload, 1)) ∧ (decode cL_law 1230 = .ok (.aload_n 0, 1)) ∧ (decode cL_law 1231 = .ok (.iload 4, 2)) ∧ (decode cL_law 1233 = .ok (.iconst 3, 1)) := by decide +kernel
def dL_law_1219 := db_cL_law_dL_law_1219_63.1
def dL_law_1221 := db_cL_law_dL_law_1219_63.2.1
def dL_law_1222 := db_cL_law_dL_law_1219_63.2.2.1
def dL_law_1223 := db_cL_law_dL_law_1219_63.2.2.2.1
def dL_law_1224 := db_cL_law_dL_law_1219_63.2.2.2.2.1
def dL_law_1225 := db_cL_law_dL_law_1219_63.2.2.2.2.2.1
def dL_law_1227 := db_cL_law_dL_law_1219_63.2.2.2.2.2.2.1
def dL_law_1228 := db_cL_law_dL_law_1219_63.2.2.2.2.2.2.2.1
def dL_law_1229 := db_cL_law_dL_law_1219_63.2.2.2.2.2.2.2.2.1
def dL_law_1230 := db_cL_law_dL_law_1219_63.2.2.2.2.2.2.2.2.2.1
def dL_law_1231 := db_cL_law_dL_law_1219_63.2.2.2.2.2.2.2.2.2.2.1
def dL_law_1233 := db_cL_law_dL_law_1219_63.2.2.2.2.2.2.2.2.2.2.2
set_option maxRecDepth 100000 in
theorem db_cL_law_dL_law_1234_64 : (decode cL_law 1234 = .ok (.iadd, 1)) ∧ (decode cL_law 1235 = .ok (.iaload, 1)) ∧ (decode cL_law 1236 = .ok (.aload_n 3, 1)) ∧ (decode cL_law 1237 = .ok (.invokestatic 193, 3)) ∧ (decode cL_law 1240 = .ok (.istore 5, 2)) ∧ (decode cL_law 1242 = .ok (.aload_n 2, 1)) ∧ (decode cL_law 1243 = .ok (.aload_n 0, 1)) ∧ (decode cL_law 1244 = .ok (.iload 4, 2)) ∧ (decode cL_law 1246 = .ok (.iconst 1, 1)) ∧ (decode cL_law 1247 = .ok (.iadd, 1)) ∧ (decode cL_law 1248 = .ok (.iaload, 1)) ∧ (decode cL_law 1249 = .ok (.aload_n 0, 1)) := by decide +kernel
def dL_law_1234 := db_cL_law_dL_law_1234_64.1
def dL_law_1235 := db_cL_law_dL_law_1234_64.2.1
def dL_law_1236 := db_cL_law_dL_law_1234_64.2.2.1
def dL_law_1237 := db_cL_law_dL_law_1234_64.2.2.2.1
def dL_law_1240 := db_cL_law_dL_law_1234_64.2.2.2.2.1
def dL_law_1242 := db_cL_law_dL_law_1234_64.2.2.2.2.2.1
def dL_law_1243 := db_cL_law_dL_law_1234_64.2.2.2.2.2.2.1
def dL_law_1244 := db_cL_law_dL_law_1234_64.2.2.2.2.2.2.2.1
def dL_law_1246 := db_cL_law_dL_law_1234_64.2.2.2.2.2.2.2.2.1
def dL_law_1247 := db_cL_law_dL_law_1234_64.2.2.2.2.2.2.2.2.2.1
def dL_law_1248 := db_cL_law_dL_law_1234_64.2.2.2.2.2.2.2.2.2.2.1
def dL_law_1249 := db_cL_law_dL_law_1234_64.2.2.2.2.2.2.2.2.2.2.2
set_option maxRecDepth 100000 in
theorem db_cL_law_dL_law_1250_65 : (decode cL_law 1250 = .ok (.iload 4, 2)) ∧ (decode cL_law 1252 = .ok (.iconst 2, 1)) ∧ (decode cL_law 1253 = .ok (.iadd, 1)) ∧ (decode cL_law 1254 = .ok (.iaload, 1)) ∧ (decode cL_law 1255 = .ok (.aload_n 0, 1)) ∧ (decode cL_law 1256 = .ok (.iload 4, 2)) ∧ (decode cL_law 1258 = .ok (.iconst 3, 1)) ∧ (decode cL_law 1259 = .ok (.iadd, 1)) ∧ (decode cL_law 1260 = .ok (.iaload, 1)) ∧ (decode cL_law 1261 = .ok (.invokevirtual 195, 3)) ∧ (decode cL_law 1264 = .ok (.istore 6, 2)) ∧ (decode cL_law 1266 = .ok (.goto 306, 3)) := by decide +kernel
def dL_law_1250 := db_cL_law_dL_law_1250_65.1
def dL_law_1252 := db_cL_law_dL_law_1250_65.2.1
def dL_law_1253 := db_cL_law_dL_law_1250_65.2.2.1
def dL_law_1254 := db_cL_law_dL_law_1250_65.2.2.2.1
def dL_law_1255 := db_cL_law_dL_law_1250_65.2.2.2.2.1
def dL_law_1256 := db_cL_law_dL_law_1250_65.2.2.2.2.2.1
def dL_law_1258 := db_cL_law_dL_law_1250_65.2.2.2.2.2.2.1
def dL_law_1259 := db_cL_law_dL_law_1250_65.2.2.2.2.2.2.2.1
def dL_law_1260 := db_cL_law_dL_law_1250_65.2.2.2.2.2.2.2.2.1
def dL_law_1261 := db_cL_law_dL_law_1250_65.2.2.2.2.2.2.2.2.2.1
def dL_law_1264 := db_cL_law_dL_law_1250_65.2.2.2.2.2.2.2.2.2.2.1
def dL_law_1266 := db_cL_law_dL_law_1250_65.2.2.2.2.2.2.2.2.2.2.2
set_option maxRecDepth 100000 in
theorem db_cL_law_dL_law_1269_66 : (decode cL_law 1269 = .ok (.aload_n 1, 1)) ∧ (decode cL_law 1270 = .ok (.aload_n 0, 1)) ∧ (decode cL_law 1271 = .ok (.iload 4, 2)) ∧ (decode cL_law 1273 = .ok (.iconst 1, 1)) ∧ (decode cL_law 1274 = .ok (.iadd, 1)) ∧ (decode cL_law 1275 = .ok (.iaload, 1)) ∧ (decode cL_law 1276 = .ok (.aload_n 0, 1)) ∧ (decode cL_law 1277 = .ok (.iload 4, 2)) ∧ (decode cL_law 1279 = .ok (.iconst 2, 1)) ∧ (decode cL_law 1280 = .ok (.iadd, 1)) ∧ (decode cL_law 1281 = .ok (.iaload, 1)) ∧ (decode cL_law 1282 = .ok (.aload_n 3, 1)) := by decide +kernel
def dL_law_1269 := db_cL_law_dL_law_1269_66.1
def dL_law_1270 := db_cL_law_dL_law_1269_66.2.1
def dL_law_1271 := db_cL_law_dL_law_1269_66.2.2.1
def dL_law_1273 := db_cL_law_dL_law_1269_66.2.2.2.1
def dL_law_1274 := db_cL_law_dL_law_1269_66.2.2.2.2.1
def dL_law_1275 := db_cL_law_dL_law_1269_66.2.2.2.2.2.1
def dL_law_1276 := db_cL_law_dL_law_1269_66.2.2.2.2.2.2.1
def dL_law_1277 := db_cL_law_dL_law_1269_66.2.2.2.2.2.2.2.1
def dL_law_1279 := db_cL_law_dL_law_1269_66.2.2.2.2.2.2.2.2.1
def dL_law_1280 := db_cL_law_dL_law_1269_66.2.2.2.2.2.2.2.2.2.1
def dL_law_1281 := db_cL_law_dL_law_1269_66.2.2.2.2.2.2.2.2.2.2.1
def dL_law_1282 := db_cL_law_dL_law_1269_66.2.2.2.2.2.2.2.2.2.2.2
set_option maxRecDepth 100000 in
theorem db_cL_law_dL_law_1283_67 : (decode cL_law 1283 = .ok (.invokestatic 196, 3)) ∧ (decode cL_law 1286 = .ok (.istore 5, 2)) ∧ (decode cL_law 1288 = .ok (.aload_n 2, 1)) ∧ (decode cL_law 1289 = .ok (.aload_n 0, 1)) ∧ (decode cL_law 1290 = .ok (.iload 4, 2)) ∧ (decode cL_law 1292 = .ok (.iconst 1, 1)) ∧ (decode cL_law 1293 = .ok (.iadd, 1)) ∧ (decode cL_law 1294 = .ok (.iaload, 1)) ∧ (decode cL_law 1295 = .ok (.aload_n 0, 1)) ∧ (decode cL_law 1296 = .ok (.iload 4, 2)) ∧ (decode cL_law 1298 = .ok (.iconst 2, 1)) ∧ (decode cL_law 1299 = .ok (.iadd, 1)) := by decide +kernel
def dL_law_1283 := db_cL_law_dL_law_1283_67.1
def dL_law_1286 := db_cL_law_dL_law_1283_67.2.1
def dL_law_1288 := db_cL_law_dL_law_1283_67.2.2.1
def dL_law_1289 := db_cL_law_dL_law_1283_67.2.2.2.1
def dL_law_1290 := db_cL_law_dL_law_1283_67.2.2.2.2.1
def dL_law_1292 := db_cL_law_dL_law_1283_67.2.2.2.2.2.1
def dL_law_1293 := db_cL_law_dL_law_1283_67.2.2.2.2.2.2.1
def dL_law_1294 := db_cL_law_dL_law_1283_67.2.2.2.2.2.2.2.1
def dL_law_1295 := db_cL_law_dL_law_1283_67.2.2.2.2.2.2.2.2.1
def dL_law_1296 := db_cL_law_dL_law_1283_67.2.2.2.2.2.2.2.2.2.1
def dL_law_1298 := db_cL_law_dL_law_1283_67.2.2.2.2.2.2.2.2.2.2.1
def dL_law_1299 := db_cL_law_dL_law_1283_67.2.2.2.2.2.2.2.2.2.2.2
set_option maxRecDepth 100000 in
theorem db_cL_law_dL_law_1300_68 : (decode cL_law 1300 = .ok (.iaload, 1)) ∧ (decode cL_law 1301 = .ok (.invokevirtual 198, 3)) ∧ (decode cL_law 1304 = .ok (.astore 6, 2)) ∧ (decode cL_law 1306 = .ok (.goto 266, 3)) ∧ (decode cL_law 1309 = .ok (.aload_n 1, 1)) ∧ (decode cL_law 1310 = .ok (.aload_n 0, 1)) ∧ (decode cL_law 1311 = .ok (.iload 4, 2)) ∧ (decode cL_law 1313 = .ok (.iconst 1, 1)) ∧ (decode cL_law 1314 = .ok (.iadd, 1)) ∧ (decode cL_law 1315 = .ok (.iaload, 1)) ∧ (decode cL_law 1316 = .ok (.aload_n 0, 1)) ∧ (decode cL_law 1317 = .ok (.iload 4, 2)) := by decide +kernel
def dL_law_1300 := db_cL_law_dL_law_1300_68.1
def dL_law_1301 := db_cL_law_dL_law_1300_68.2.1
def dL_law_1304 := db_cL_law_dL_law_1300_68.2.2.1
def dL_law_1306 := db_cL_law_dL_law_1300_68.2.2.2.1
def dL_law_1309 := db_cL_law_dL_law_1300_68.2.2.2.2.1
def dL_law_1310 := db_cL_law_dL_law_1300_68.2.2.2.2.2.1
def dL_law_1311 := db_cL_law_dL_law_1300_68.2.2.2.2.2.2.1
def dL_law_1313 := db_cL_law_dL_law_1300_68.2.2.2.2.2.2.2.1
def dL_law_1314 := db_cL_law_dL_law_1300_68.2.2.2.2.2.2.2.2.1
def dL_law_1315 := db_cL_law_dL_law_1300_68.2.2.2.2.2.2.2.2.2.1
def dL_law_1316 := db_cL_law_dL_law_1300_68.2.2.2.2.2.2.2.2.2.2.1
def dL_law_1317 := db_cL_law_dL_law_1300_68.2.2.2.2.2.2.2.2.2.2.2
set_option maxRecDepth 100000 in
theorem db_cL_law_dL_law_1319_69 : (decode cL_law 1319 = .ok (.iconst 2, 1)) ∧ (decode cL_law 1320 = .ok (.iadd, 1)) ∧ (decode cL_law 1321 = .ok (.iaload, 1)) ∧ (decode cL_law 1322 = .ok (.aload_n 0, 1)) ∧ (decode cL_law 1323 = .ok (.iload 4, 2)) ∧ (decode cL_law 1325 = .ok (.iconst 3, 1)) ∧ (decode cL_law 1326 = .ok (.iadd, 1)) ∧ (decode cL_law 1327 = .ok (.iaload, 1)) ∧ (decode cL_law 1328 = .ok (.aload_n 3, 1)) ∧ (decode cL_law 1329 = .ok (.invokestatic 199, 3)) ∧ (decode cL_law 1332 = .ok (.istore 5, 2)) ∧ (decode cL_law 1334 = .ok (.aload_n 2, 1)) := by decide +kernel
def dL_law_1319 := db_cL_law_dL_law_1319_69.1
def dL_law_1320 := db_cL_law_dL_law_1319_69.2.1
def dL_law_1321 := db_cL_law_dL_law_1319_69.2.2.1
def dL_law_1322 := db_cL_law_dL_law_1319_69.2.2.2.1
def dL_law_1323 := db_cL_law_dL_law_1319_69.2.2.2.2.1
def dL_law_1325 := db_cL_law_dL_law_1319_69.2.2.2.2.2.1
def dL_law_1326 := db_cL_law_dL_law_1319_69.2.2.2.2.2.2.1
def dL_law_1327 := db_cL_law_dL_law_1319_69.2.2.2.2.2.2.2.1
def dL_law_1328 := db_cL_law_dL_law_1319_69.2.2.2.2.2.2.2.2.1
def dL_law_1329 := db_cL_law_dL_law_1319_69.2.2.2.2.2.2.2.2.2.1
def dL_law_1332 := db_cL_law_dL_law_1319_69.2.2.2.2.2.2.2.2.2.2.1
def dL_law_1334 := db_cL_law_dL_law_1319_69.2.2.2.2.2.2.2.2.2.2.2
set_option maxRecDepth 100000 in
theorem db_cL_law_dL_law_1335_70 : (decode cL_law 1335 = .ok (.aload_n 0, 1)) ∧ (decode cL_law 1336 = .ok (.iload 4, 2)) ∧ (decode cL_law 1338 = .ok (.iconst 1, 1)) ∧ (decode cL_law 1339 = .ok (.iadd, 1)) ∧ (decode cL_law 1340 = .ok (.iaload, 1)) ∧ (decode cL_law 1341 = .ok (.aload_n 0, 1)) ∧ (decode cL_law 1342 = .ok (.iload 4, 2)) ∧ (decode cL_law 1344 = .ok (.iconst 2, 1)) ∧ (decode cL_law 1345 = .ok (.iadd, 1)) ∧ (decode cL_law 1346 = .ok (.iaload, 1)) ∧ (decode cL_law 1347 = .ok (.aload_n 0, 1)) ∧ (decode cL_law 1348 = .ok (.iload 4, 2)) := by decide +kernel
def dL_law_1335 := db_cL_law_dL_law_1335_70.1
def dL_law_1336 := db_cL_law_dL_law_1335_70.2.1
def dL_law_1338 := db_cL_law_dL_law_1335_70.2.2.1
def dL_law_1339 := db_cL_law_dL_law_1335_70.2.2.2.1
def dL_law_1340 := db_cL_law_dL_law_1335_70.2.2.2.2.1
def dL_law_1341 := db_cL_law_dL_law_1335_70.2.2.2.2.2.1
def dL_law_1342 := db_cL_law_dL_law_1335_70.2.2.2.2.2.2.1
def dL_law_1344 := db_cL_law_dL_law_1335_70.2.2.2.2.2.2.2.1
def dL_law_1345 := db_cL_law_dL_law_1335_70.2.2.2.2.2.2.2.2.1
def dL_law_1346 := db_cL_law_dL_law_1335_70.2.2.2.2.2.2.2.2.2.1
def dL_law_1347 := db_cL_law_dL_law_1335_70.2.2.2.2.2.2.2.2.2.2.1
def dL_law_1348 := db_cL_law_dL_law_1335_70.2.2.2.2.2.2.2.2.2.2.2
set_option maxRecDepth 100000 in
theorem db_cL_law_dL_law_1350_71 : (decode cL_law 1350 = .ok (.iconst 3, 1)) ∧ (decode cL_law 1351 = .ok (.iadd, 1)) ∧ (decode cL_law 1352 = .ok (.iaload, 1)) ∧ (decode cL_law 1353 = .ok (.invokevirtual 201, 3)) ∧ (decode cL_law 1356 = .ok (.istore 6, 2)) ∧ (decode cL_law 1358 = .ok (.goto 214, 3)) ∧ (decode cL_law 1361 = .ok (.aload_n 1, 1)) ∧ (decode cL_law 1362 = .ok (.aload_n 0, 1)) ∧ (decode cL_law 1363 = .ok (.iload 4, 2)) ∧ (decode cL_law 1365 = .ok (.iconst 1, 1)) ∧ (decode cL_law 1366 = .ok (.iadd, 1)) ∧ (decode cL_law 1367 = .ok (.iaload, 1)) := by decide +kernel
def dL_law_1350 := db_cL_law_dL_law_1350_71.1
def dL_law_1351 := db_cL_law_dL_law_1350_71.2.1
def dL_law_1352 := db_cL_law_dL_law_1350_71.2.2.1
def dL_law_1353 := db_cL_law_dL_law_1350_71.2.2.2.1
def dL_law_1356 := db_cL_law_dL_law_1350_71.2.2.2.2.1
def dL_law_1358 := db_cL_law_dL_law_1350_71.2.2.2.2.2.1
def dL_law_1361 := db_cL_law_dL_law_1350_71.2.2.2.2.2.2.1
def dL_law_1362 := db_cL_law_dL_law_1350_71.2.2.2.2.2.2.2.1
def dL_law_1363 := db_cL_law_dL_law_1350_71.2.2.2.2.2.2.2.2.1
def dL_law_1365 := db_cL_law_dL_law_1350_71.2.2.2.2.2.2.2.2.2.1
def dL_law_1366 := db_cL_law_dL_law_1350_71.2.2.2.2.2.2.2.2.2.2.1
def dL_law_1367 := db_cL_law_dL_law_1350_71.2.2.2.2.2.2.2.2.2.2.2
set_option maxRecDepth 100000 in
theorem db_cL_law_dL_law_1368_72 : (decode cL_law 1368 = .ok (.aload_n 0, 1)) ∧ (decode cL_law 1369 = .ok (.iload 4, 2)) ∧ (decode cL_law 1371 = .ok (.iconst 2, 1)) ∧ (decode cL_law 1372 = .ok (.iadd, 1)) ∧ (decode cL_law 1373 = .ok (.iaload, 1)) ∧ (decode cL_law 1374 = .ok (.aload_n 3, 1)) ∧ (decode cL_law 1375 = .ok (.invokestatic 202, 3)) ∧ (decode cL_law 1378 = .ok (.istore 5, 2)) ∧ (decode cL_law 1380 = .ok (.aload_n 2, 1)) ∧ (decode cL_law 1381 = .ok (.aload_n 0, 1)) ∧ (decode cL_law 1382 = .ok (.iload 4, 2)) ∧ (decode cL_law 1384 = .ok (.iconst 1, 1)) := by decide +kernel
def dL_law_1368 := db_cL_law_dL_law_1368_72.1
def dL_law_1369 := db_cL_law_dL_law_1368_72.2.1
def dL_law_1371 := db_cL_law_dL_law_1368_72.2.2.1
def dL_law_1372 := db_cL_law_dL_law_1368_72.2.2.2.1
def dL_law_1373 := db_cL_law_dL_law_1368_72.2.2.2.2.1
def dL_law_1374 := db_cL_law_dL_law_1368_72.2.2.2.2.2.1
def dL_law_1375 := db_cL_law_dL_law_1368_72.2.2.2.2.2.2.1
def dL_law_1378 := db_cL_law_dL_law_1368_72.2.2.2.2.2.2.2.1
def dL_law_1380 := db_cL_law_dL_law_1368_72.2.2.2.2.2.2.2.2.1
def dL_law_1381 := db_cL_law_dL_law_1368_72.2.2.2.2.2.2.2.2.2.1
def dL_law_1382 := db_cL_law_dL_law_1368_72.2.2.2.2.2.2.2.2.2.2.1
def dL_law_1384 := db_cL_law_dL_law_1368_72.2.2.2.2.2.2.2.2.2.2.2
set_option maxRecDepth 100000 in
theorem db_cL_law_dL_law_1385_73 : (decode cL_law 1385 = .ok (.iadd, 1)) ∧ (decode cL_law 1386 = .ok (.iaload, 1)) ∧ (decode cL_law 1387 = .ok (.aload_n 0, 1)) ∧ (decode cL_law 1388 = .ok (.iload 4, 2)) ∧ (decode cL_law 1390 = .ok (.iconst 2, 1)) ∧ (decode cL_law 1391 = .ok (.iadd, 1)) ∧ (decode cL_law 1392 = .ok (.iaload, 1)) ∧ (decode cL_law 1393 = .ok (.invokevirtual 204, 3)) ∧ (decode cL_law 1396 = .ok (.astore 6, 2)) ∧ (decode cL_law 1398 = .ok (.goto 174, 3)) ∧ (decode cL_law 1401 = .ok (.aload_n 1, 1)) ∧ (decode cL_law 1402 = .ok (.aload_n 0, 1)) := by decide +kernel
def dL_law_1385 := db_cL_law_dL_law_1385_73.1
def dL_law_1386 := db_cL_law_dL_law_1385_73.2.1
def dL_law_1387 := db_cL_law_dL_law_1385_73.2.2.1
def dL_law_1388 := db_cL_law_dL_law_1385_73.2.2.2.1
def dL_law_1390 := db_cL_law_dL_law_1385_73.2.2.2.2.1
def dL_law_1391 := db_cL_law_dL_law_1385_73.2.2.2.2.2.1
def dL_law_1392 := db_cL_law_dL_law_1385_73.2.2.2.2.2.2.1
def dL_law_1393 := db_cL_law_dL_law_1385_73.2.2.2.2.2.2.2.1
def dL_law_1396 := db_cL_law_dL_law_1385_73.2.2.2.2.2.2.2.2.1
def dL_law_1398 := db_cL_law_dL_law_1385_73.2.2.2.2.2.2.2.2.2.1
def dL_law_1401 := db_cL_law_dL_law_1385_73.2.2.2.2.2.2.2.2.2.2.1
def dL_law_1402 := db_cL_law_dL_law_1385_73.2.2.2.2.2.2.2.2.2.2.2
set_option maxRecDepth 100000 in
theorem db_cL_law_dL_law_1403_74 : (decode cL_law 1403 = .ok (.iload 4, 2)) ∧ (decode cL_law 1405 = .ok (.iconst 1, 1)) ∧ (decode cL_law 1406 = .ok (.iadd, 1)) ∧ (decode cL_law 1407 = .ok (.iaload, 1)) ∧ (decode cL_law 1408 = .ok (.aload_n 0, 1)) ∧ (decode cL_law 1409 = .ok (.iload 4, 2)) ∧ (decode cL_law 1411 = .ok (.iconst 2, 1)) ∧ (decode cL_law 1412 = .ok (.iadd, 1)) ∧ (decode cL_law 1413 = .ok (.iaload, 1)) ∧ (decode cL_law 1414 = .ok (.aload_n 3, 1)) ∧ (decode cL_law 1415 = .ok (.invokestatic 205, 3)) ∧ (decode cL_law 1418 = .ok (.istore 5, 2)) := by decide +kernel
def dL_law_1403 := db_cL_law_dL_law_1403_74.1
def dL_law_1405 := db_cL_law_dL_law_1403_74.2.1
def dL_law_1406 := db_cL_law_dL_law_1403_74.2.2.1
def dL_law_1407 := db_cL_law_dL_law_1403_74.2.2.2.1
def dL_law_1408 := db_cL_law_dL_law_1403_74.2.2.2.2.1
def dL_law_1409 := db_cL_law_dL_law_1403_74.2.2.2.2.2.1
def dL_law_1411 := db_cL_law_dL_law_1403_74.2.2.2.2.2.2.1
def dL_law_1412 := db_cL_law_dL_law_1403_74.2.2.2.2.2.2.2.1
def dL_law_1413 := db_cL_law_dL_law_1403_74.2.2.2.2.2.2.2.2.1
def dL_law_1414 := db_cL_law_dL_law_1403_74.2.2.2.2.2.2.2.2.2.1
def dL_law_1415 := db_cL_law_dL_law_1403_74.2.2.2.2.2.2.2.2.2.2.1
def dL_law_1418 := db_cL_law_dL_law_1403_74.2.2.2.2.2.2.2.2.2.2.2
set_option maxRecDepth 100000 in
theorem db_cL_law_dL_law_1420_75 : (decode cL_law 1420 = .ok (.aload_n 2, 1)) ∧ (decode cL_law 1421 = .ok (.aload_n 0, 1)) ∧ (decode cL_law 1422 = .ok (.iload 4, 2)) ∧ (decode cL_law 1424 = .ok (.iconst 1, 1)) ∧ (decode cL_law 1425 = .ok (.iadd, 1)) ∧ (decode cL_law 1426 = .ok (.iaload, 1)) ∧ (decode cL_law 1427 = .ok (.aload_n 0, 1)) ∧ (decode cL_law 1428 = .ok (.iload 4, 2)) ∧ (decode cL_law 1430 = .ok (.iconst 2, 1)) ∧ (decode cL_law 1431 = .ok (.iadd, 1)) ∧ (decode cL_law 1432 = .ok (.iaload, 1)) ∧ (decode cL_law 1433 = .ok (.invokevirtual 207, 3)) := by decide +kernel
def dL_law_1420 := db_cL_law_dL_law_1420_75.1
def dL_law_1421 := db_cL_law_dL_law_1420_75.2.1
def dL_law_1422 := db_cL_law_dL_law_1420_75.2.2.1
def dL_law_1424 := db_cL_law_dL_law_1420_75.2.2.2.1
def dL_law_1425 := db_cL_law_dL_law_1420_75.2.2.2.2.1
def dL_law_1426 := db_cL_law_dL_law_1420_75.2.2.2.2.2.1
def dL_law_1427 := db_cL_law_dL_law_1420_75.2.2.2.2.2.2.1
def dL_law_1428 := db_cL_law_dL_law_1420_75.2.2.2.2.2.2.2.1
def dL_law_1430 := db_cL_law_dL_law_1420_75.2.2.2.2.2.2.2.2.1
def dL_law_1431 := db_cL_law_dL_law_1420_75.2.2.2.2.2.2.2.2.2.1
def dL_law_1432 := db_cL_law_dL_law_1420_75.2.2.2.2.2.2.2.2.2.2.1
def dL_law_1433 := db_cL_law_dL_law_1420_75.2.2.2.2.2.2.2.2.2.2.2
set_option maxRecDepth 100000 in
theorem db_cL_law_dL_law_1436_76 : (decode cL_law 1436 = .ok (.istore 6, 2)) ∧ (decode cL_law 1438 = .ok (.goto 134, 3)) ∧ (decode cL_law 1441 = .ok (.aload_n 1, 1)) ∧ (decode cL_law 1442 = .ok (.aload_n 0, 1)) ∧ (decode cL_law 1443 = .ok (.iload 4, 2)) ∧ (decode cL_law 1445 = .ok (.iconst 1, 1)) ∧ (decode cL_law 1446 = .ok (.iadd, 1)) ∧ (decode cL_law 1447 = .ok (.iaload, 1)) ∧ (decode cL_law 1448 = .ok (.aload_n 0, 1)) ∧ (decode cL_law 1449 = .ok (.iload 4, 2)) ∧ (decode cL_law 1451 = .ok (.iconst 2, 1)) ∧ (decode cL_law 1452 = .ok (.iadd, 1)) := by decide +kernel
def dL_law_1436 := db_cL_law_dL_law_1436_76.1
def dL_law_1438 := db_cL_law_dL_law_1436_76.2.1
def dL_law_1441 := db_cL_law_dL_law_1436_76.2.2.1
def dL_law_1442 := db_cL_law_dL_law_1436_76.2.2.2.1
def dL_law_1443 := db_cL_law_dL_law_1436_76.2.2.2.2.1
def dL_law_1445 := db_cL_law_dL_law_1436_76.2.2.2.2.2.1
def dL_law_1446 := db_cL_law_dL_law_1436_76.2.2.2.2.2.2.1
def dL_law_1447 := db_cL_law_dL_law_1436_76.2.2.2.2.2.2.2.1
def dL_law_1448 := db_cL_law_dL_law_1436_76.2.2.2.2.2.2.2.2.1
def dL_law_1449 := db_cL_law_dL_law_1436_76.2.2.2.2.2.2.2.2.2.1
def dL_law_1451 := db_cL_law_dL_law_1436_76.2.2.2.2.2.2.2.2.2.2.1
def dL_law_1452 := db_cL_law_dL_law_1436_76.2.2.2.2.2.2.2.2.2.2.2
set_option maxRecDepth 100000 in
theorem db_cL_law_dL_law_1453_77 : (decode cL_law 1453 = .ok (.iaload, 1)) ∧ (decode cL_law 1454 = .ok (.aload_n 0, 1)) ∧ (decode cL_law 1455 = .ok (.iload 4, 2)) ∧ (decode cL_law 1457 = .ok (.iconst 3, 1)) ∧ (decode cL_law 1458 = .ok (.iadd, 1)) ∧ (decode cL_law 1459 = .ok (.iaload, 1)) ∧ (decode cL_law 1460 = .ok (.aload_n 0, 1)) ∧ (decode cL_law 1461 = .ok (.iload 4, 2)) ∧ (decode cL_law 1463 = .ok (.iconst 4, 1)) ∧ (decode cL_law 1464 = .ok (.iadd, 1)) ∧ (decode cL_law 1465 = .ok (.iaload, 1)) ∧ (decode cL_law 1466 = .ok (.aload_n 3, 1)) := by decide +kernel
def dL_law_1453 := db_cL_law_dL_law_1453_77.1
def dL_law_1454 := db_cL_law_dL_law_1453_77.2.1
def dL_law_1455 := db_cL_law_dL_law_1453_77.2.2.1
def dL_law_1457 := db_cL_law_dL_law_1453_77.2.2.2.1
def dL_law_1458 := db_cL_law_dL_law_1453_77.2.2.2.2.1
def dL_law_1459 := db_cL_law_dL_law_1453_77.2.2.2.2.2.1
def dL_law_1460 := db_cL_law_dL_law_1453_77.2.2.2.2.2.2.1
def dL_law_1461 := db_cL_law_dL_law_1453_77.2.2.2.2.2.2.2.1
def dL_law_1463 := db_cL_law_dL_law_1453_77.2.2.2.2.2.2.2.2.1
def dL_law_1464 := db_cL_law_dL_law_1453_77.2.2.2.2.2.2.2.2.2.1
def dL_law_1465 := db_cL_law_dL_law_1453_77.2.2.2.2.2.2.2.2.2.2.1
def dL_law_1466 := db_cL_law_dL_law_1453_77.2.2.2.2.2.2.2.2.2.2.2
set_option maxRecDepth 100000 in
theorem db_cL_law_dL_law_1467_78 : (decode cL_law 1467 = .ok (.invokestatic 208, 3)) ∧ (decode cL_law 1470 = .ok (.istore 5, 2)) ∧ (decode cL_law 1472 = .ok (.aload_n 2, 1)) ∧ (decode cL_law 1473 = .ok (.aload_n 0, 1)) ∧ (decode cL_law 1474 = .ok (.iload 4, 2)) ∧ (decode cL_law 1476 = .ok (.iconst 1, 1)) ∧ (decode cL_law 1477 = .ok (.iadd, 1)) ∧ (decode cL_law 1478 = .ok (.iaload, 1)) ∧ (decode cL_law 1479 = .ok (.aload_n 0, 1)) ∧ (decode cL_law 1480 = .ok (.iload 4, 2)) ∧ (decode cL_law 1482 = .ok (.iconst 2, 1)) ∧ (decode cL_law 1483 = .ok (.iadd, 1)) := by decide +kernel
def dL_law_1467 := db_cL_law_dL_law_1467_78.1
def dL_law_1470 := db_cL_law_dL_law_1467_78.2.1
def dL_law_1472 := db_cL_law_dL_law_1467_78.2.2.1
def dL_law_1473 := db_cL_law_dL_law_1467_78.2.2.2.1
def dL_law_1474 := db_cL_law_dL_law_1467_78.2.2.2.2.1
def dL_law_1476 := db_cL_law_dL_law_1467_78.2.2.2.2.2.1
def dL_law_1477 := db_cL_law_dL_law_1467_78.2.2.2.2.2.2.1
def dL_law_1478 := db_cL_law_dL_law_1467_78.2.2.2.2.2.2.2.1
def dL_law_1479 := db_cL_law_dL_law_1467_78.2.2.2.2.2.2.2.2.1
def dL_law_1480 := db_cL_law_dL_law_1467_78.2.2.2.2.2.2.2.2.2.1
def dL_law_1482 := db_cL_law_dL_law_1467_78.2.2.2.2.2.2.2.2.2.2.1
def dL_law_1483 := db_cL_law_dL_law_1467_78.2.2.2.2.2.2.2.2.2.2.2
set_option maxRecDepth 100000 in
theorem db_cL_law_dL_law_1484_79 : (decode cL_law 1484 = .ok (.iaload, 1)) ∧ (decode cL_law 1485 = .ok (.aload_n 0, 1)) ∧ (decode cL_law 1486 = .ok (.iload 4, 2)) ∧ (decode cL_law 1488 = .ok (.iconst 3, 1)) ∧ (decode cL_law 1489 = .ok (.iadd, 1)) ∧ (decode cL_law 1490 = .ok (.iaload, 1)) ∧ (decode cL_law 1491 = .ok (.aload_n 0, 1)) ∧ (decode cL_law 1492 = .ok (.iload 4, 2)) ∧ (decode cL_law 1494 = .ok (.iconst 4, 1)) ∧ (decode cL_law 1495 = .ok (.iadd, 1)) ∧ (decode cL_law 1496 = .ok (.iaload, 1)) ∧ (decode cL_law 1497 = .ok (.invokevirtual 210, 3)) := by decide +kernel
def dL_law_1484 := db_cL_law_dL_law_1484_79.1
def dL_law_1485 := db_cL_law_dL_law_1484_79.2.1
def dL_law_1486 := db_cL_law_dL_law_1484_79.2.2.1
def dL_law_1488 := db_cL_law_dL_law_1484_79.2.2.2.1
def dL_law_1489 := db_cL_law_dL_law_1484_79.2.2.2.2.1
def dL_law_1490 := db_cL_law_dL_law_1484_79.2.2.2.2.2.1
def dL_law_1491 := db_cL_law_dL_law_1484_79.2.2.2.2.2.2.1
def dL_law_1492 := db_cL_law_dL_law_1484_79.2.2.2.2.2.2.2.1
def dL_law_1494 := db_cL_law_dL_law_1484_79.2.2.2.2.2.2.2.2.1
def dL_law_1495 := db_cL_law_dL_law_1484_79.2.2.2.2.2.2.2.2.2.1
def dL_law_1496 := db_cL_law_dL_law_1484_79.2.2.2.2.2.2.2.2.2.2.1
def dL_law_1497 := db_cL_law_dL_law_1484_79.2.2.2.2.2.2.2.2.2.2.2
set_option maxRecDepth 100000 in
theorem db_cL_law_dL_law_1500_80 : (decode cL_law 1500 = .ok (.istore 6, 2)) ∧ (decode cL_law 1502 = .ok (.goto 70, 3)) ∧ (decode cL_law 1505 = .ok (.aload_n 1, 1)) ∧ (decode cL_law 1506 = .ok (.aload_n 0, 1)) ∧ (decode cL_law 1507 = .ok (.iload 4, 2)) ∧ (decode cL_law 1509 = .ok (.iconst 1, 1)) ∧ (decode cL_law 1510 = .ok (.iadd, 1)) ∧ (decode cL_law 1511 = .ok (.iaload, 1)) ∧ (decode cL_law 1512 = .ok (.aload_n 3, 1)) ∧ (decode cL_law 1513 = .ok (.invokestatic 211, 3)) ∧ (decode cL_law 1516 = .ok (.istore 5, 2)) ∧ (decode cL_law 1518 = .ok (.aload_n 2, 1)) := by decide +kernel
def dL_law_1500 := db_cL_law_dL_law_1500_80.1
def dL_law_1502 := db_cL_law_dL_law_1500_80.2.1
def dL_law_1505 := db_cL_law_dL_law_1500_80.2.2.1
def dL_law_1506 := db_cL_law_dL_law_1500_80.2.2.2.1
def dL_law_1507 := db_cL_law_dL_law_1500_80.2.2.2.2.1
def dL_law_1509 := db_cL_law_dL_law_1500_80.2.2.2.2.2.1
def dL_law_1510 := db_cL_law_dL_law_1500_80.2.2.2.2.2.2.1
def dL_law_1511 := db_cL_law_dL_law_1500_80.2.2.2.2.2.2.2.1
def dL_law_1512 := db_cL_law_dL_law_1500_80.2.2.2.2.2.2.2.2.1
def dL_law_1513 := db_cL_law_dL_law_1500_80.2.2.2.2.2.2.2.2.2.1
def dL_law_1516 := db_cL_law_dL_law_1500_80.2.2.2.2.2.2.2.2.2.2.1
def dL_law_1518 := db_cL_law_dL_law_1500_80.2.2.2.2.2.2.2.2.2.2.2
set_option maxRecDepth 100000 in
theorem db_cL_law_dL_law_1519_81 : (decode cL_law 1519 = .ok (.aload_n 0, 1)) ∧ (decode cL_law 1520 = .ok (.iload 4, 2)) ∧ (decode cL_law 1522 = .ok (.iconst 1, 1)) ∧ (decode cL_law 1523 = .ok (.iadd, 1)) ∧ (decode cL_law 1524 = .ok (.iaload, 1)) ∧ (decode cL_law 1525 = .ok (.invokevirtual 213, 3)) ∧ (decode cL_law 1528 = .ok (.istore 6, 2)) ∧ (decode cL_law 1530 = .ok (.goto 42, 3)) ∧ (decode cL_law 1533 = .ok (.aload_n 1, 1)) ∧ (decode cL_law 1534 = .ok (.invokevirtual 214, 3)) ∧ (decode cL_law 1537 = .ok (.pop, 1)) ∧ (decode cL_law 1538 = .ok (.aload_n 2, 1)) := by decide +kernel
def dL_law_1519 := db_cL_law_dL_law_1519_81.1
def dL_law_1520 := db_cL_law_dL_law_1519_81.2.1
def dL_law_1522 := db_cL_law_dL_law_1519_81.2.2.1
def dL_law_1523 := db_cL_law_dL_law_1519_81.2.2.2.1
def dL_law_1524 := db_cL_law_dL_law_1519_81.2.2.2.2.1
def dL_law_1525 := db_cL_law_dL_law_1519_81.2.2.2.2.2.1
def dL_law_1528 := db_cL_law_dL_law_1519_81.2.2.2.2.2.2.1
def dL_law_1530 := db_cL_law_dL_law_1519_81.2.2.2.2.2.2.2.1
def dL_law_1533 := db_cL_law_dL_law_1519_81.2.2.2.2.2.2.2.2.1
def dL_law_1534 := db_cL_law_dL_law_1519_81.2.2.2.2.2.2.2.2.2.1
def dL_law_1537 := db_cL_law_dL_law_1519_81.2.2.2.2.2.2.2.2.2.2.1
def dL_law_1538 := db_cL_law_dL_law_1519_81.2.2.2.2.2.2.2.2.2.2.2
set_option maxRecDepth 100000 in
theorem db_cL_law_dL_law_1539_82 : (decode cL_law 1539 = .ok (.invokevirtual 217, 3)) ∧ (decode cL_law 1542 = .ok (.pop, 1)) ∧ (decode cL_law 1543 = .ok (.goto 29, 3)) ∧ (decode cL_law 1546 = .ok (.aload_n 1, 1)) ∧ (decode cL_law 1547 = .ok (.invokevirtual 218, 3)) ∧ (decode cL_law 1550 = .ok (.pop, 1)) ∧ (decode cL_law 1551 = .ok (.aload_n 2, 1)) ∧ (decode cL_law 1552 = .ok (.invokevirtual 222, 3)) ∧ (decode cL_law 1555 = .ok (.pop, 1)) ∧ (decode cL_law 1556 = .ok (.goto 16, 3)) ∧ (decode cL_law 1559 = .ok (.aload_n 1, 1)) ∧ (decode cL_law 1560 = .ok (.invokevirtual 223, 3)) := by decide +kernel
def dL_law_1539 := db_cL_law_dL_law_1539_82.1
def dL_law_1542 := db_cL_law_dL_law_1539_82.2.1
def dL_law_1543 := db_cL_law_dL_law_1539_82.2.2.1
def dL_law_1546 := db_cL_law_dL_law_1539_82.2.2.2.1
def dL_law_1547 := db_cL_law_dL_law_1539_82.2.2.2.2.1
def dL_law_1550 := db_cL_law_dL_law_1539_82.2.2.2.2.2.1
def dL_law_1551 := db_cL_law_dL_law_1539_82.2.2.2.2.2.2.1
def dL_law_1552 := db_cL_law_dL_law_1539_82.2.2.2.2.2.2.2.1
def dL_law_1555 := db_cL_law_dL_law_1539_82.2.2.2.2.2.2.2.2.1
def dL_law_1556 := db_cL_law_dL_law_1539_82.2.2.2.2.2.2.2.2.2.1
def dL_law_1559 := db_cL_law_dL_law_1539_82.2.2.2.2.2.2.2.2.2.2.1
def dL_law_1560 := db_cL_law_dL_law_1539_82.2.2.2.2.2.2.2.2.2.2.2
set_option maxRecDepth 100000 in
theorem db_cL_law_dL_law_1563_83 : (decode cL_law 1563 = .ok (.pop2, 1)) ∧ (decode cL_law 1564 = .ok (.aload_n 2, 1)) ∧ (decode cL_law 1565 = .ok (.invokevirtual 227, 3)) ∧ (decode cL_law 1568 = .ok (.pop2, 1)) ∧ (decode cL_law 1569 = .ok (.goto 3, 3)) ∧ (decode cL_law 1572 = .ok (.iinc 4 6, 3)) ∧ (decode cL_law 1575 = .ok (.goto (-1548), 3)) ∧ (decode cL_law 1578 = .ok (.iconst 1, 1)) ∧ (decode cL_law 1579 = .ok (.ireturn, 1)) := by decide +kernel
def dL_law_1563 := db_cL_law_dL_law_1563_83.1
def dL_law_1564 := db_cL_law_dL_law_1563_83.2.1
def dL_law_1565 := db_cL_law_dL_law_1563_83.2.2.1
def dL_law_1568 := db_cL_law_dL_law_1563_83.2.2.2.1
def dL_law_1569 := db_cL_law_dL_law_1563_83.2.2.2.2.1
def dL_law_1572 := db_cL_law_dL_law_1563_83.2.2.2.2.2.1
def dL_law_1575 := db_cL_law_dL_law_1563_83.2.2.2.2.2.2.1
def dL_law_1578 := db_cL_law_dL_law_1563_83.2.2.2.2.2.2.2.1
def dL_law_1579 := db_cL_law_dL_law_1563_83.2.2.2.2.2.2.2.2
theorem vd_27 : (yL_begin : MethodName).cls ≠ "java/lang/invoke/MethodHandle" ∧ (yL_begin : MethodName).cls ≠ "java/lang/invoke/VarHandle" ∧ (parseMethodDescriptor (yL_begin : MethodName).desc).map (fun d => d.parameters.length) = some 4 := by decide +kernel
theorem vd_28 : (yX11_begin : MethodName).cls ≠ "java/lang/invoke/MethodHandle" ∧ (yX11_begin : MethodName).cls ≠ "java/lang/invoke/VarHandle" ∧ (parseMethodDescriptor (yX11_begin : MethodName).desc).map (fun d => d.parameters.length) = some 2 := by decide +kernel
theorem vd_29 : (yL_arrow : MethodName).cls ≠ "java/lang/invoke/MethodHandle" ∧ (yL_arrow : MethodName).cls ≠ "java/lang/invoke/VarHandle" ∧ (parseMethodDescriptor (yL_arrow : MethodName).desc).map (fun d => d.parameters.length) = some 7 := by decide +kernel
theorem vd_30 : (yX11_arrow : MethodName).cls ≠ "java/lang/invoke/MethodHandle" ∧ (yX11_arrow : MethodName).cls ≠ "java/lang/invoke/VarHandle" ∧ (parseMethodDescriptor (yX11_arrow : MethodName).desc).map (fun d => d.parameters.length) = some 5 := by decide +kernel
theorem vd_31 : (yL_lead : MethodName).cls ≠ "java/lang/invoke/MethodHandle" ∧ (yL_lead : MethodName).cls ≠ "java/lang/invoke/VarHandle" ∧ (parseMethodDescriptor (yL_lead : MethodName).desc).map (fun d => d.parameters.length) = some 6 := by decide +kernel
theorem vd_32 : (yX11_lead : MethodName).cls ≠ "java/lang/invoke/MethodHandle" ∧ (yX11_lead : MethodName).cls ≠ "java/lang/invoke/VarHandle" ∧ (parseMethodDescriptor (yX11_lead : MethodName).desc).map (fun d => d.parameters.length) = some 4 := by decide +kernel
theorem vd_33 : (yL_mark : MethodName).cls ≠ "java/lang/invoke/MethodHandle" ∧ (yL_mark : MethodName).cls ≠ "java/lang/invoke/VarHandle" ∧ (parseMethodDescriptor (yL_mark : MethodName).desc).map (fun d => d.parameters.length) = some 6 := by decide +kernel
theorem vd_34 : (yX11_mark : MethodName).cls ≠ "java/lang/invoke/MethodHandle" ∧ (yX11_mark : MethodName).cls ≠ "java/lang/invoke/VarHandle" ∧ (parseMethodDescriptor (yX11_mark : MethodName).desc).map (fun d => d.parameters.length) = some 4 := by decide +kernel
theorem vd_35 : (yL_sow : MethodName).cls ≠ "java/lang/invoke/MethodHandle" ∧ (yL_sow : MethodName).cls ≠ "java/lang/invoke/VarHandle" ∧ (parseMethodDescriptor (yL_sow : MethodName).desc).map (fun d => d.parameters.length) = some 6 := by decide +kernel
theorem vd_36 : (yX11_sow : MethodName).cls ≠ "java/lang/invoke/MethodHandle" ∧ (yX11_sow : MethodName).cls ≠ "java/lang/invoke/VarHandle" ∧ (parseMethodDescriptor (yX11_sow : MethodName).desc).map (fun d => d.parameters.length) = some 4 := by decide +kernel
theorem vd_37 : (yL_copy : MethodName).cls ≠ "java/lang/invoke/MethodHandle" ∧ (yL_copy : MethodName).cls ≠ "java/lang/invoke/VarHandle" ∧ (parseMethodDescriptor (yL_copy : MethodName).desc).map (fun d => d.parameters.length) = some 4 := by decide +kernel
theorem vd_38 : (yX11_copy : MethodName).cls ≠ "java/lang/invoke/MethodHandle" ∧ (yX11_copy : MethodName).cls ≠ "java/lang/invoke/VarHandle" ∧ (parseMethodDescriptor (yX11_copy : MethodName).desc).map (fun d => d.parameters.length) = some 2 := by decide +kernel
theorem vd_39 : (yL_swap : MethodName).cls ≠ "java/lang/invoke/MethodHandle" ∧ (yL_swap : MethodName).cls ≠ "java/lang/invoke/VarHandle" ∧ (parseMethodDescriptor (yL_swap : MethodName).desc).map (fun d => d.parameters.length) = some 4 := by decide +kernel
theorem vd_40 : (yX11_swap : MethodName).cls ≠ "java/lang/invoke/MethodHandle" ∧ (yX11_swap : MethodName).cls ≠ "java/lang/invoke/VarHandle" ∧ (parseMethodDescriptor (yX11_swap : MethodName).desc).map (fun d => d.parameters.length) = some 2 := by decide +kernel
theorem vd_41 : (yL_turn : MethodName).cls ≠ "java/lang/invoke/MethodHandle" ∧ (yL_turn : MethodName).cls ≠ "java/lang/invoke/VarHandle" ∧ (parseMethodDescriptor (yL_turn : MethodName).desc).map (fun d => d.parameters.length) = some 3 := by decide +kernel
theorem vd_42 : (yX11_turn : MethodName).cls ≠ "java/lang/invoke/MethodHandle" ∧ (yX11_turn : MethodName).cls ≠ "java/lang/invoke/VarHandle" ∧ (parseMethodDescriptor (yX11_turn : MethodName).desc).map (fun d => d.parameters.length) = some 1 := by decide +kernel
theorem vd_43 : (yX11_thrown : MethodName).cls ≠ "java/lang/invoke/MethodHandle" ∧ (yX11_thrown : MethodName).cls ≠ "java/lang/invoke/VarHandle" ∧ (parseMethodDescriptor (yX11_thrown : MethodName).desc).map (fun d => d.parameters.length) = some 0 := by decide +kernel
theorem vd_44 : (yL_other : MethodName).cls ≠ "java/lang/invoke/MethodHandle" ∧ (yL_other : MethodName).cls ≠ "java/lang/invoke/VarHandle" ∧ (parseMethodDescriptor (yL_other : MethodName).desc).map (fun d => d.parameters.length) = some 3 := by decide +kernel
theorem vd_45 : (yX11_other : MethodName).cls ≠ "java/lang/invoke/MethodHandle" ∧ (yX11_other : MethodName).cls ≠ "java/lang/invoke/VarHandle" ∧ (parseMethodDescriptor (yX11_other : MethodName).desc).map (fun d => d.parameters.length) = some 1 := by decide +kernel
theorem vd_46 : (yL_grow : MethodName).cls ≠ "java/lang/invoke/MethodHandle" ∧ (yL_grow : MethodName).cls ≠ "java/lang/invoke/VarHandle" ∧ (parseMethodDescriptor (yL_grow : MethodName).desc).map (fun d => d.parameters.length) = some 3 := by decide +kernel
theorem vd_47 : (yX11_grow : MethodName).cls ≠ "java/lang/invoke/MethodHandle" ∧ (yX11_grow : MethodName).cls ≠ "java/lang/invoke/VarHandle" ∧ (parseMethodDescriptor (yX11_grow : MethodName).desc).map (fun d => d.parameters.length) = some 1 := by decide +kernel
theorem vd_48 : (yL_drop : MethodName).cls ≠ "java/lang/invoke/MethodHandle" ∧ (yL_drop : MethodName).cls ≠ "java/lang/invoke/VarHandle" ∧ (parseMethodDescriptor (yL_drop : MethodName).desc).map (fun d => d.parameters.length) = some 4 := by decide +kernel
theorem vd_49 : (yX11_drop : MethodName).cls ≠ "java/lang/invoke/MethodHandle" ∧ (yX11_drop : MethodName).cls ≠ "java/lang/invoke/VarHandle" ∧ (parseMethodDescriptor (yX11_drop : MethodName).desc).map (fun d => d.parameters.length) = some 2 := by decide +kernel
theorem vd_50 : (yL_make : MethodName).cls ≠ "java/lang/invoke/MethodHandle" ∧ (yL_make : MethodName).cls ≠ "java/lang/invoke/VarHandle" ∧ (parseMethodDescriptor (yL_make : MethodName).desc).map (fun d => d.parameters.length) = some 5 := by decide +kernel
theorem vd_51 : (yX11_make : MethodName).cls ≠ "java/lang/invoke/MethodHandle" ∧ (yX11_make : MethodName).cls ≠ "java/lang/invoke/VarHandle" ∧ (parseMethodDescriptor (yX11_make : MethodName).desc).map (fun d => d.parameters.length) = some 3 := by decide +kernel
theorem vd_52 : (yL_combine : MethodName).cls ≠ "java/lang/invoke/MethodHandle" ∧ (yL_combine : MethodName).cls ≠ "java/lang/invoke/VarHandle" ∧ (parseMethodDescriptor (yL_combine : MethodName).desc).map (fun d => d.parameters.length) = some 6 := by decide +kernel
theorem vd_53 : (yX11_combine : MethodName).cls ≠ "java/lang/invoke/MethodHandle" ∧ (yX11_combine : MethodName).cls ≠ "java/lang/invoke/VarHandle" ∧ (parseMethodDescriptor (yX11_combine : MethodName).desc).map (fun d => d.parameters.length) = some 4 := by decide +kernel
theorem vd_54 : (yL_tell : MethodName).cls ≠ "java/lang/invoke/MethodHandle" ∧ (yL_tell : MethodName).cls ≠ "java/lang/invoke/VarHandle" ∧ (parseMethodDescriptor (yL_tell : MethodName).desc).map (fun d => d.parameters.length) = some 4 := by decide +kernel
theorem vd_55 : (yX11_tell : MethodName).cls ≠ "java/lang/invoke/MethodHandle" ∧ (yX11_tell : MethodName).cls ≠ "java/lang/invoke/VarHandle" ∧ (parseMethodDescriptor (yX11_tell : MethodName).desc).map (fun d => d.parameters.length) = some 2 := by decide +kernel
theorem vd_56 : (yL_arrows : MethodName).cls ≠ "java/lang/invoke/MethodHandle" ∧ (yL_arrows : MethodName).cls ≠ "java/lang/invoke/VarHandle" ∧ (parseMethodDescriptor (yL_arrows : MethodName).desc).map (fun d => d.parameters.length) = some 5 := by decide +kernel
theorem vd_57 : (yX11_arrows : MethodName).cls ≠ "java/lang/invoke/MethodHandle" ∧ (yX11_arrows : MethodName).cls ≠ "java/lang/invoke/VarHandle" ∧ (parseMethodDescriptor (yX11_arrows : MethodName).desc).map (fun d => d.parameters.length) = some 3 := by decide +kernel
theorem vd_58 : (yL_takes : MethodName).cls ≠ "java/lang/invoke/MethodHandle" ∧ (yL_takes : MethodName).cls ≠ "java/lang/invoke/VarHandle" ∧ (parseMethodDescriptor (yL_takes : MethodName).desc).map (fun d => d.parameters.length) = some 5 := by decide +kernel
theorem vd_59 : (yX11_takes : MethodName).cls ≠ "java/lang/invoke/MethodHandle" ∧ (yX11_takes : MethodName).cls ≠ "java/lang/invoke/VarHandle" ∧ (parseMethodDescriptor (yX11_takes : MethodName).desc).map (fun d => d.parameters.length) = some 3 := by decide +kernel
theorem vd_60 : (yL_after : MethodName).cls ≠ "java/lang/invoke/MethodHandle" ∧ (yL_after : MethodName).cls ≠ "java/lang/invoke/VarHandle" ∧ (parseMethodDescriptor (yL_after : MethodName).desc).map (fun d => d.parameters.length) = some 6 := by decide +kernel
theorem vd_61 : (yX11_after : MethodName).cls ≠ "java/lang/invoke/MethodHandle" ∧ (yX11_after : MethodName).cls ≠ "java/lang/invoke/VarHandle" ∧ (parseMethodDescriptor (yX11_after : MethodName).desc).map (fun d => d.parameters.length) = some 4 := by decide +kernel
theorem vd_62 : (yL_size : MethodName).cls ≠ "java/lang/invoke/MethodHandle" ∧ (yL_size : MethodName).cls ≠ "java/lang/invoke/VarHandle" ∧ (parseMethodDescriptor (yL_size : MethodName).desc).map (fun d => d.parameters.length) = some 4 := by decide +kernel
theorem vd_63 : (yX11_size : MethodName).cls ≠ "java/lang/invoke/MethodHandle" ∧ (yX11_size : MethodName).cls ≠ "java/lang/invoke/VarHandle" ∧ (parseMethodDescriptor (yX11_size : MethodName).desc).map (fun d => d.parameters.length) = some 2 := by decide +kernel
theorem vd_64 : (yL_text : MethodName).cls ≠ "java/lang/invoke/MethodHandle" ∧ (yL_text : MethodName).cls ≠ "java/lang/invoke/VarHandle" ∧ (parseMethodDescriptor (yL_text : MethodName).desc).map (fun d => d.parameters.length) = some 4 := by decide +kernel
theorem vd_65 : (yX11_text : MethodName).cls ≠ "java/lang/invoke/MethodHandle" ∧ (yX11_text : MethodName).cls ≠ "java/lang/invoke/VarHandle" ∧ (parseMethodDescriptor (yX11_text : MethodName).desc).map (fun d => d.parameters.length) = some 2 := by decide +kernel
theorem vd_66 : (yL_kind : MethodName).cls ≠ "java/lang/invoke/MethodHandle" ∧ (yL_kind : MethodName).cls ≠ "java/lang/invoke/VarHandle" ∧ (parseMethodDescriptor (yL_kind : MethodName).desc).map (fun d => d.parameters.length) = some 3 := by decide +kernel
theorem vd_67 : (yX11_kind : MethodName).cls ≠ "java/lang/invoke/MethodHandle" ∧ (yX11_kind : MethodName).cls ≠ "java/lang/invoke/VarHandle" ∧ (parseMethodDescriptor (yX11_kind : MethodName).desc).map (fun d => d.parameters.length) = some 1 := by decide +kernel
theorem vd_68 : (yL_many : MethodName).cls ≠ "java/lang/invoke/MethodHandle" ∧ (yL_many : MethodName).cls ≠ "java/lang/invoke/VarHandle" ∧ (parseMethodDescriptor (yL_many : MethodName).desc).map (fun d => d.parameters.length) = some 5 := by decide +kernel
theorem vd_69 : (yX11_many : MethodName).cls ≠ "java/lang/invoke/MethodHandle" ∧ (yX11_many : MethodName).cls ≠ "java/lang/invoke/VarHandle" ∧ (parseMethodDescriptor (yX11_many : MethodName).desc).map (fun d => d.parameters.length) = some 3 := by decide +kernel
theorem vd_70 : (yL_word : MethodName).cls ≠ "java/lang/invoke/MethodHandle" ∧ (yL_word : MethodName).cls ≠ "java/lang/invoke/VarHandle" ∧ (parseMethodDescriptor (yL_word : MethodName).desc).map (fun d => d.parameters.length) = some 4 := by decide +kernel
theorem vd_71 : (yX11_word : MethodName).cls ≠ "java/lang/invoke/MethodHandle" ∧ (yX11_word : MethodName).cls ≠ "java/lang/invoke/VarHandle" ∧ (parseMethodDescriptor (yX11_word : MethodName).desc).map (fun d => d.parameters.length) = some 2 := by decide +kernel
theorem vd_72 : (yL_isAlike : MethodName).cls ≠ "java/lang/invoke/MethodHandle" ∧ (yL_isAlike : MethodName).cls ≠ "java/lang/invoke/VarHandle" ∧ (parseMethodDescriptor (yL_isAlike : MethodName).desc).map (fun d => d.parameters.length) = some 5 := by decide +kernel
theorem vd_73 : (yX11_isAlike : MethodName).cls ≠ "java/lang/invoke/MethodHandle" ∧ (yX11_isAlike : MethodName).cls ≠ "java/lang/invoke/VarHandle" ∧ (parseMethodDescriptor (yX11_isAlike : MethodName).desc).map (fun d => d.parameters.length) = some 3 := by decide +kernel
theorem vd_74 : (yL_apart : MethodName).cls ≠ "java/lang/invoke/MethodHandle" ∧ (yL_apart : MethodName).cls ≠ "java/lang/invoke/VarHandle" ∧ (parseMethodDescriptor (yL_apart : MethodName).desc).map (fun d => d.parameters.length) = some 4 := by decide +kernel
theorem vd_75 : (yX11_apart : MethodName).cls ≠ "java/lang/invoke/MethodHandle" ∧ (yX11_apart : MethodName).cls ≠ "java/lang/invoke/VarHandle" ∧ (parseMethodDescriptor (yX11_apart : MethodName).desc).map (fun d => d.parameters.length) = some 2 := by decide +kernel
theorem vd_76 : (yL_pairs : MethodName).cls ≠ "java/lang/invoke/MethodHandle" ∧ (yL_pairs : MethodName).cls ≠ "java/lang/invoke/VarHandle" ∧ (parseMethodDescriptor (yL_pairs : MethodName).desc).map (fun d => d.parameters.length) = some 4 := by decide +kernel
theorem vd_77 : (yX11_pairs : MethodName).cls ≠ "java/lang/invoke/MethodHandle" ∧ (yX11_pairs : MethodName).cls ≠ "java/lang/invoke/VarHandle" ∧ (parseMethodDescriptor (yX11_pairs : MethodName).desc).map (fun d => d.parameters.length) = some 2 := by decide +kernel
theorem vd_78 : (yL_together : MethodName).cls ≠ "java/lang/invoke/MethodHandle" ∧ (yL_together : MethodName).cls ≠ "java/lang/invoke/VarHandle" ∧ (parseMethodDescriptor (yL_together : MethodName).desc).map (fun d => d.parameters.length) = some 6 := by decide +kernel
theorem vd_79 : (yX11_together : MethodName).cls ≠ "java/lang/invoke/MethodHandle" ∧ (yX11_together : MethodName).cls ≠ "java/lang/invoke/VarHandle" ∧ (parseMethodDescriptor (yX11_together : MethodName).desc).map (fun d => d.parameters.length) = some 4 := by decide +kernel
theorem vd_80 : (yL_house : MethodName).cls ≠ "java/lang/invoke/MethodHandle" ∧ (yL_house : MethodName).cls ≠ "java/lang/invoke/VarHandle" ∧ (parseMethodDescriptor (yL_house : MethodName).desc).map (fun d => d.parameters.length) = some 3 := by decide +kernel
theorem vd_81 : (yX11_house : MethodName).cls ≠ "java/lang/invoke/MethodHandle" ∧ (yX11_house : MethodName).cls ≠ "java/lang/invoke/VarHandle" ∧ (parseMethodDescriptor (yX11_house : MethodName).desc).map (fun d => d.parameters.length) = some 1 := by decide +kernel
theorem vd_82 : (yX9_knock : MethodName).cls ≠ "java/lang/invoke/MethodHandle" ∧ (yX9_knock : MethodName).cls ≠ "java/lang/invoke/VarHandle" ∧ (parseMethodDescriptor (yX9_knock : MethodName).desc).map (fun d => d.parameters.length) = some 0 := by decide +kernel
theorem vd_83 : (yX11_knock : MethodName).cls ≠ "java/lang/invoke/MethodHandle" ∧ (yX11_knock : MethodName).cls ≠ "java/lang/invoke/VarHandle" ∧ (parseMethodDescriptor (yX11_knock : MethodName).desc).map (fun d => d.parameters.length) = some 0 := by decide +kernel
theorem vd_84 : (yX9_isSound : MethodName).cls ≠ "java/lang/invoke/MethodHandle" ∧ (yX9_isSound : MethodName).cls ≠ "java/lang/invoke/VarHandle" ∧ (parseMethodDescriptor (yX9_isSound : MethodName).desc).map (fun d => d.parameters.length) = some 0 := by decide +kernel
theorem vd_85 : (yX11_isSound : MethodName).cls ≠ "java/lang/invoke/MethodHandle" ∧ (yX11_isSound : MethodName).cls ≠ "java/lang/invoke/VarHandle" ∧ (parseMethodDescriptor (yX11_isSound : MethodName).desc).map (fun d => d.parameters.length) = some 0 := by decide +kernel
theorem vd_86 : (yX9_digest : MethodName).cls ≠ "java/lang/invoke/MethodHandle" ∧ (yX9_digest : MethodName).cls ≠ "java/lang/invoke/VarHandle" ∧ (parseMethodDescriptor (yX9_digest : MethodName).desc).map (fun d => d.parameters.length) = some 0 := by decide +kernel
theorem vd_87 : (yX11_digest : MethodName).cls ≠ "java/lang/invoke/MethodHandle" ∧ (yX11_digest : MethodName).cls ≠ "java/lang/invoke/VarHandle" ∧ (parseMethodDescriptor (yX11_digest : MethodName).desc).map (fun d => d.parameters.length) = some 0 := by decide +kernel
set_option maxHeartbeats 4000000 in
set_option maxRecDepth 100000 in
theorem law_0 {p : Program} {l : Launch} {e : Env} {s : State} {m : MethodId} {b : Nat} {below : List Frame} {meth : Method} {c : Code} {L : Nat} {xs : Nat → Int32} {D : va_G} {ad bd : Nat → Nat} {cI cL cM cB : ClassId} {q : Nat} {Z : State → Prop} {JI : TMem → TMem → Prop} {i : Int32} {cv sv : Nat} (hRI : ∀ {μ ν : TMem}, JI μ ν → RI ν) (hGM : GM_begin JI) (C0 : LC p l s m b c L xs D ad bd cI cL cM cB) (hi : 0 ≤ i.toInt) (hiL : i.toInt + 6 ≤ L) (hcv : cv + 2000 ≤ 600128) (hsv : sv + 112000 ≤ 7301098) (hJ3 : LJ p l e s m b below meth c D ad bd cI cM q Z JI i (cv + 2000) (sv + 112000) 1572) : LJ p l e s m b below meth c D ad bd cI cM q Z JI i cv sv 180 := by
  obtain ⟨hx, hb, hml, hown, ht, hg, hI, hJ, hXs, hbl, hst, hL⟩ := C0
  have hN : NW s := hg.2.2.2.2.1
  have hbA : ¬ SA s.heap.size b := Nat.not_le.mpr hbl
  intro μ ν nv sw H locs ls hJI hw hl
  have hi1 : (i + (1 : Int32)).toInt = i.toInt + 1 := ii_a rfl (show (1 : Int32).toInt = 1 from rfl) (by omega) (by omega)
  have hi2 : (i + (2 : Int32)).toInt = i.toInt + 2 := ii_a rfl (show (2 : Int32).toInt = 2 from rfl) (by omega) (by omega)
  have hi3 : (i + (3 : Int32)).toInt = i.toInt + 3 := ii_a rfl (show (3 : Int32).toInt = 3 from rfl) (by omega) (by omega)
  have hi4 : (i + (4 : Int32)).toInt = i.toInt + 4 := ii_a rfl (show (4 : Int32).toInt = 4 from rfl) (by omega) (by omega)
  have hi5 : (i + (5 : Int32)).toInt = i.toInt + 5 := ii_a rfl (show (5 : Int32).toInt = 5 from rfl) (by omega) (by omega)
  have hv0 : vp_in i L := vin (by omega)
  have hv1 : vp_in (i + (1 : Int32)) L := vin (by omega)
  have hv2 : vp_in (i + (2 : Int32)) L := vin (by omega)
  have hv3 : vp_in (i + (3 : Int32)) L := vin (by omega)
  have hv4 : vp_in (i + (4 : Int32)) L := vin (by omega)
  have hv5 : vp_in (i + (5 : Int32)) L := vin (by omega)
  refine lv_aload_n hx hb dL_law_180 rfl (lv_at hl 1 rfl) ?_
  refine lv_aload_n hx hb dL_law_181 rfl (lv_at hl 0 rfl) ?_
  refine lv_iload hx hb dL_law_182 (lv_at hl 4 rfl) ?_
  refine lv_iconst (v := (1 : Int32)) hx hb dL_law_184 (by decide) ?_
  refine lv_iadd hx hb dL_law_185 ?_
  refine va_sld hx hb hXs hbl hbA hw.2.2.1 (i := (i + (1 : Int32))) hv1 dL_law_186 ?_
  refine lv_aload_n hx hb dL_law_187 rfl (lv_at hl 0 rfl) ?_
  refine lv_iload hx hb dL_law_188 (lv_at hl 4 rfl) ?_
  refine lv_iconst (v := (2 : Int32)) hx hb dL_law_190 (by decide) ?_
  refine lv_iadd hx hb dL_law_191 ?_
  refine va_sld hx hb hXs hbl hbA hw.2.2.1 (i := (i + (2 : Int32))) hv2 dL_law_192 ?_
  refine lv_aload_n hx hb dL_law_193 rfl (lv_at hl 3 rfl) ?_
  refine LL_call hw hI (vx_runSX (own := "LeastreaderLaw") (As := [.ref (ad 0), .int (xs (i + (1 : Int32)).toNatClampNeg), .int (xs (i + (2 : Int32)).toNatClampNeg), .ref q]) (rest := []) ⟨hx, hb, hml, hown, ht⟩ (c_L_begin hst q nv sw μ H.size (xs (i + (1 : Int32)).toNatClampNeg) (xs (i + (2 : Int32)).toNatClampNeg) (PW := fun k u => RW_begin JI ν (xs (i + (1 : Int32)).toNatClampNeg) (xs (i + (2 : Int32)).toNatClampNeg) k u.2.1 u.1) (hGM μ ν nv (xs (i + (1 : Int32)).toNatClampNeg) (xs (i + (2 : Int32)).toNatClampNeg) hJI)) (vx_cwSW 4 ht (G_S q_588 q_589 q_45 q_590) rfl rfl rfl vd_27 ⟨Nat.le_of_ble_eq_true rfl, Nat.le_of_ble_eq_true rfl⟩) ⟨LB.blind, hg.lb hI hw⟩ rfl rfl hl.1 rfl (lv_room (Nat.le_of_ble_eq_true rfl)) dL_law_194 ⟨show cv + 2 ≤ 600128 by omega, show sv + 12 ≤ 7301098 by omega⟩) (fun r1 μ1 nv1 sw1 H locs hq1 hw => ?_)
  refine lv_istore (lv' := [(5, .int r1), (0, .ref b), (1, .ref (ad 0)), (2, .ref (bd 0)), (3, .ref q), (4, .int i)]) hx hb dL_law_197 hl (by decide) rfl (fun ls hl => ?_)
  refine lv_aload_n hx hb dL_law_199 rfl (lv_at hl 3 rfl) ?_
  refine lv_aload_n hx hb dL_law_200 rfl (lv_at hl 1 rfl) ?_
  refine lv_iload hx hb dL_law_201 (lv_at hl 5 rfl) ?_
  refine lv_iconst (v := (1 : Int32)) hx hb dL_law_203 (by decide) ?_
  refine lv_iadd hx hb dL_law_204 ?_
  refine va_sld hx hb hXs hbl hbA hw.2.2.1 (i := (i + (1 : Int32))) hv1 dL_law_205 ?_
  refine lv_aload_n hx hb dL_law_206 rfl (lv_at hl 1 rfl) ?_
  refine lv_iload hx hb dL_law_207 (lv_at hl 5 rfl) ?_
  refine lv_iconst (v := (2 : Int32)) hx hb dL_law_209 (by decide) ?_
  refine lv_iadd hx hb dL_law_210 ?_
  refine va_sld hx hb hXs hbl hbA hw.2.2.1 (i := (i + (2 : Int32))) hv2 dL_law_211 ?_
  refine M_calli hw (LZ_MA hw) (va_runV (own := "LeastreaderLaw") (As := [.int (xs (i + (1 : Int32)).toNatClampNeg), .int (xs (i + (2 : Int32)).toNatClampNeg)]) (rest := []) ⟨hx, hb, hml, hown, ht⟩ (c_X11_begin ν H.size (xs (i + (1 : Int32)).toNatClampNeg) (xs (i + (2 : Int32)).toNatClampNeg) hq1) (cwV 2 ht (G_V q_1342 q_1343 q_1344 q_56 q_1345) rfl rfl rfl ⟨rfl, vd_28⟩ ⟨Nat.le_of_ble_eq_true rfl, Nat.le_of_ble_eq_true rfl⟩) ⟨MB.blind, M_recv hg.2.1 hw, MB.pre hg.2.1 hJ hw va_P0 ne0⟩ rfl rfl hl.1 rfl (lv_room (Nat.le_of_ble_eq_true rfl)) dL_law_212 ⟨show cv + 2 + 0 ≤ 600128 by omega, show sv + 12 + 0 ≤ 7301098 by omega⟩) (fun r2 ν2 H locs hf2 hw => ?_)
  refine lv_istore (lv' := [(6, .int r2), (5, .int r1), (0, .ref b), (1, .ref (ad 0)), (2, .ref (bd 0)), (3, .ref q), (4, .int i)]) hx hb dL_law_215 hl (by decide) rfl (fun ls hl => ?_)
  refine lv_goto (tgt := 1572) hx hb dL_law_217 (by decide) ?_
  refine W.widen (show cv + 2 + 0 ≤ cv + 2000 by omega) (show sv + 12 + 0 ≤ sv + 112000 by omega) ?_
  exact hJ3 μ1 ν2 nv1 sw1 H locs ls hf2 hw (lv_sub hl [2, 3, 4, 5, 6] rfl)
set_option maxHeartbeats 4000000 in
set_option maxRecDepth 100000 in
theorem law_1 {p : Program} {l : Launch} {e : Env} {s : State} {m : MethodId} {b : Nat} {below : List Frame} {meth : Method} {c : Code} {L : Nat} {xs : Nat → Int32} {D : va_G} {ad bd : Nat → Nat} {cI cL cM cB : ClassId} {q : Nat} {Z : State → Prop} {JI : TMem → TMem → Prop} {i : Int32} {cv sv : Nat} (hRI : ∀ {μ ν : TMem}, JI μ ν → RI ν) (hGM : GM_arrow JI) (C0 : LC p l s m b c L xs D ad bd cI cL cM cB) (hi : 0 ≤ i.toInt) (hiL : i.toInt + 6 ≤ L) (hcv : cv + 2000 ≤ 600128) (hsv : sv + 112000 ≤ 7301098) (hJ3 : LJ p l e s m b below meth c D ad bd cI cM q Z JI i (cv + 2000) (sv + 112000) 1572) : LJ p l e s m b below meth c D ad bd cI cM q Z JI i cv sv 220 := by
  obtain ⟨hx, hb, hml, hown, ht, hg, hI, hJ, hXs, hbl, hst, hL⟩ := C0
  have hN : NW s := hg.2.2.2.2.1
  have hbA : ¬ SA s.heap.size b := Nat.not_le.mpr hbl
  intro μ ν nv sw H locs ls hJI hw hl
  have hi1 : (i + (1 : Int32)).toInt = i.toInt + 1 := ii_a rfl (show (1 : Int32).toInt = 1 from rfl) (by omega) (by omega)
  have hi2 : (i + (2 : Int32)).toInt = i.toInt + 2 := ii_a rfl (show (2 : Int32).toInt = 2 from rfl) (by omega) (by omega)
  have hi3 : (i + (3 : Int32)).toInt = i.toInt + 3 := ii_a rfl (show (3 : Int32).toInt = 3 from rfl) (by omega) (by omega)
  have hi4 : (i + (4 : Int32)).toInt = i.toInt + 4 := ii_a rfl (show (4 : Int32).toInt = 4 from rfl) (by omega) (by omega)
  have hi5 : (i + (5 : Int32)).toInt = i.toInt + 5 := ii_a rfl (show (5 : Int32).toInt = 5 from rfl) (by omega) (by omega)
  have hv0 : vp_in i L := vin (by omega)
  have hv1 : vp_in (i + (1 : Int32)) L := vin (by omega)
  have hv2 : vp_in (i + (2 : Int32)) L := vin (by omega)
  have hv3 : vp_in (i + (3 : Int32)) L := vin (by omega)
  have hv4 : vp_in (i + (4 : Int32)) L := vin (by omega)
  have hv5 : vp_in (i + (5 : Int32)) L := vin (by omega)
  refine lv_aload_n hx hb dL_law_220 rfl (lv_at hl 1 rfl) ?_
  refine lv_aload_n hx hb dL_law_221 rfl (lv_at hl 0 rfl) ?_
  refine lv_iload hx hb dL_law_222 (lv_at hl 4 rfl) ?_
  refine lv_iconst (v := (1 : Int32)) hx hb dL_law_224 (by decide) ?_
  refine lv_iadd hx hb dL_law_225 ?_
  refine va_sld hx hb hXs hbl hbA hw.2.2.1 (i := (i + (1 : Int32))) hv1 dL_law_226 ?_
  refine lv_aload_n hx hb dL_law_227 rfl (lv_at hl 0 rfl) ?_
  refine lv_iload hx hb dL_law_228 (lv_at hl 4 rfl) ?_
  refine lv_iconst (v := (2 : Int32)) hx hb dL_law_230 (by decide) ?_
  refine lv_iadd hx hb dL_law_231 ?_
  refine va_sld hx hb hXs hbl hbA hw.2.2.1 (i := (i + (2 : Int32))) hv2 dL_law_232 ?_
  refine lv_aload_n hx hb dL_law_233 rfl (lv_at hl 0 rfl) ?_
  refine lv_iload hx hb dL_law_234 (lv_at hl 4 rfl) ?_
  refine lv_iconst (v := (3 : Int32)) hx hb dL_law_236 (by decide) ?_
  refine lv_iadd hx hb dL_law_237 ?_
  refine va_sld hx hb hXs hbl hbA hw.2.2.1 (i := (i + (3 : Int32))) hv3 dL_law_238 ?_
  refine lv_aload_n hx hb dL_law_239 rfl (lv_at hl 0 rfl) ?_
  refine lv_iload hx hb dL_law_240 (lv_at hl 4 rfl) ?_
  refine lv_iconst (v := (4 : Int32)) hx hb dL_law_242 (by decide) ?_
  refine lv_iadd hx hb dL_law_243 ?_
  refine va_sld hx hb hXs hbl hbA hw.2.2.1 (i := (i + (4 : Int32))) hv4 dL_law_244 ?_
  refine lv_aload_n hx hb dL_law_245 rfl (lv_at hl 0 rfl) ?_
  refine lv_iload hx hb dL_law_246 (lv_at hl 4 rfl) ?_
  refine lv_iconst (v := (5 : Int32)) hx hb dL_law_248 (by decide) ?_
  refine lv_iadd hx hb dL_law_249 ?_
  refine va_sld hx hb hXs hbl hbA hw.2.2.1 (i := (i + (5 : Int32))) hv5 dL_law_250 ?_
  refine lv_if_eq (tgt := 258) hx hb dL_law_251 (by decide) (fun c9 => ?_) (fun c9 => ?_)
  · have kb1 := c9
    refine lv_iconst (v := (0 : Int32)) hx hb dL_law_258 (by decide) ?_
    refine lv_aload_n hx hb dL_law_259 rfl (lv_at hl 3 rfl) ?_
    refine LL_call hw hI (vx_runSX (own := "LeastreaderLaw") (As := [.ref (ad 0), .int (xs (i + (1 : Int32)).toNatClampNeg), .int (xs (i + (2 : Int32)).toNatClampNeg), .int (xs (i + (3 : Int32)).toNatClampNeg), .int (xs (i + (4 : Int32)).toNatClampNeg), .int (0 : Int32), .ref q]) (rest := []) ⟨hx, hb, hml, hown, ht⟩ (c_L_arrow hst q nv sw μ H.size (xs (i + (1 : Int32)).toNatClampNeg) (xs (i + (2 : Int32)).toNatClampNeg) (xs (i + (3 : Int32)).toNatClampNeg) (xs (i + (4 : Int32)).toNatClampNeg) (0 : Int32) (PW := fun k u => RW_arrow JI ν (xs (i + (1 : Int32)).toNatClampNeg) (xs (i + (2 : Int32)).toNatClampNeg) (xs (i + (3 : Int32)).toNatClampNeg) (xs (i + (4 : Int32)).toNatClampNeg) (0 : Int32) k u.2.1 u.1) (hGM μ ν nv (xs (i + (1 : Int32)).toNatClampNeg) (xs (i + (2 : Int32)).toNatClampNeg) (xs (i + (3 : Int32)).toNatClampNeg) (xs (i + (4 : Int32)).toNatClampNeg) (0 : Int32) hJI)) (vx_cwSW 7 ht (G_S q_628 q_629 q_45 q_630) rfl rfl rfl vd_29 ⟨Nat.le_of_ble_eq_true rfl, Nat.le_of_ble_eq_true rfl⟩) ⟨LB.blind, hg.lb hI hw⟩ rfl rfl hl.1 rfl (lv_room (Nat.le_of_ble_eq_true rfl)) dL_law_260 ⟨show cv + 4 ≤ 600128 by omega, show sv + 24 ≤ 7301098 by omega⟩) (fun r2 μ2 nv2 sw2 H locs hq2 hw => ?_)
    refine lv_istore (lv' := [(5, .int r2), (0, .ref b), (1, .ref (ad 0)), (2, .ref (bd 0)), (3, .ref q), (4, .int i)]) hx hb dL_law_263 hl (by decide) rfl (fun ls hl => ?_)
    refine lv_aload_n hx hb dL_law_265 rfl (lv_at hl 3 rfl) ?_
    refine lv_aload_n hx hb dL_law_266 rfl (lv_at hl 1 rfl) ?_
    refine lv_iload hx hb dL_law_267 (lv_at hl 5 rfl) ?_
    refine lv_iconst (v := (1 : Int32)) hx hb dL_law_269 (by decide) ?_
    refine lv_iadd hx hb dL_law_270 ?_
    refine va_sld hx hb hXs hbl hbA hw.2.2.1 (i := (i + (1 : Int32))) hv1 dL_law_271 ?_
    refine lv_aload_n hx hb dL_law_272 rfl (lv_at hl 1 rfl) ?_
    refine lv_iload hx hb dL_law_273 (lv_at hl 5 rfl) ?_
    refine lv_iconst (v := (2 : Int32)) hx hb dL_law_275 (by decide) ?_
    refine lv_iadd hx hb dL_law_276 ?_
    refine va_sld hx hb hXs hbl hbA hw.2.2.1 (i := (i + (2 : Int32))) hv2 dL_law_277 ?_
    refine lv_aload_n hx hb dL_law_278 rfl (lv_at hl 1 rfl) ?_
    refine lv_iload hx hb dL_law_279 (lv_at hl 5 rfl) ?_
    refine lv_iconst (v := (3 : Int32)) hx hb dL_law_281 (by decide) ?_
    refine lv_iadd hx hb dL_law_282 ?_
    refine va_sld hx hb hXs hbl hbA hw.2.2.1 (i := (i + (3 : Int32))) hv3 dL_law_283 ?_
    refine lv_aload_n hx hb dL_law_284 rfl (lv_at hl 1 rfl) ?_
    refine lv_iload hx hb dL_law_285 (lv_at hl 5 rfl) ?_
    refine lv_iconst (v := (4 : Int32)) hx hb dL_law_287 (by decide) ?_
    refine lv_iadd hx hb dL_law_288 ?_
    refine va_sld hx hb hXs hbl hbA hw.2.2.1 (i := (i + (4 : Int32))) hv4 dL_law_289 ?_
    refine lv_aload_n hx hb dL_law_290 rfl (lv_at hl 1 rfl) ?_
    refine lv_iload hx hb dL_law_291 (lv_at hl 5 rfl) ?_
    refine lv_iconst (v := (5 : Int32)) hx hb dL_law_293 (by decide) ?_
    refine lv_iadd hx hb dL_law_294 ?_
    refine va_sld hx hb hXs hbl hbA hw.2.2.1 (i := (i + (5 : Int32))) hv5 dL_law_295 ?_
    refine lv_if_eq (tgt := 303) hx hb dL_law_296 (by decide) (fun c9 => ?_) (fun c9 => absurd kb1 c9)
    refine lv_iconst (v := (0 : Int32)) hx hb dL_law_303 (by decide) ?_
    refine M_calli hw (LZ_MA hw) (va_runV (own := "LeastreaderLaw") (As := [.int (xs (i + (1 : Int32)).toNatClampNeg), .int (xs (i + (2 : Int32)).toNatClampNeg), .int (xs (i + (3 : Int32)).toNatClampNeg), .int (xs (i + (4 : Int32)).toNatClampNeg), .int (0 : Int32)]) (rest := []) ⟨hx, hb, hml, hown, ht⟩ (c_X11_arrow ν H.size (xs (i + (1 : Int32)).toNatClampNeg) (xs (i + (2 : Int32)).toNatClampNeg) (xs (i + (3 : Int32)).toNatClampNeg) (xs (i + (4 : Int32)).toNatClampNeg) (0 : Int32) hq2) (cwV 5 ht (G_V q_1372 q_1373 q_1374 q_56 q_1375) rfl rfl rfl ⟨rfl, vd_30⟩ ⟨Nat.le_of_ble_eq_true rfl, Nat.le_of_ble_eq_true rfl⟩) ⟨MB.blind, M_recv hg.2.1 hw, MB.pre hg.2.1 hJ hw va_P0 ne0⟩ rfl rfl hl.1 rfl (lv_room (Nat.le_of_ble_eq_true rfl)) dL_law_304 ⟨show cv + 4 + 0 ≤ 600128 by omega, show sv + 24 + 0 ≤ 7301098 by omega⟩) (fun r3 ν3 H locs hf3 hw => ?_)
    refine lv_istore (lv' := [(6, .int r3), (5, .int r2), (0, .ref b), (1, .ref (ad 0)), (2, .ref (bd 0)), (3, .ref q), (4, .int i)]) hx hb dL_law_307 hl (by decide) rfl (fun ls hl => ?_)
    refine lv_goto (tgt := 1572) hx hb dL_law_309 (by decide) ?_
    refine W.widen (show cv + 4 + 0 ≤ cv + 2000 by omega) (show sv + 24 + 0 ≤ sv + 112000 by omega) ?_
    exact hJ3 μ2 ν3 nv2 sw2 H locs ls hf3 hw (lv_sub hl [2, 3, 4, 5, 6] rfl)
  · have kb1 := c9
    refine lv_iconst (v := (1 : Int32)) hx hb dL_law_254 (by decide) ?_
    refine lv_goto (tgt := 259) hx hb dL_law_255 (by decide) ?_
    refine lv_aload_n hx hb dL_law_259 rfl (lv_at hl 3 rfl) ?_
    refine LL_call hw hI (vx_runSX (own := "LeastreaderLaw") (As := [.ref (ad 0), .int (xs (i + (1 : Int32)).toNatClampNeg), .int (xs (i + (2 : Int32)).toNatClampNeg), .int (xs (i + (3 : Int32)).toNatClampNeg), .int (xs (i + (4 : Int32)).toNatClampNeg), .int (1 : Int32), .ref q]) (rest := []) ⟨hx, hb, hml, hown, ht⟩ (c_L_arrow hst q nv sw μ H.size (xs (i + (1 : Int32)).toNatClampNeg) (xs (i + (2 : Int32)).toNatClampNeg) (xs (i + (3 : Int32)).toNatClampNeg) (xs (i + (4 : Int32)).toNatClampNeg) (1 : Int32) (PW := fun k u => RW_arrow JI ν (xs (i + (1 : Int32)).toNatClampNeg) (xs (i + (2 : Int32)).toNatClampNeg) (xs (i + (3 : Int32)).toNatClampNeg) (xs (i + (4 : Int32)).toNatClampNeg) (1 : Int32) k u.2.1 u.1) (hGM μ ν nv (xs (i + (1 : Int32)).toNatClampNeg) (xs (i + (2 : Int32)).toNatClampNeg) (xs (i + (3 : Int32)).toNatClampNeg) (xs (i + (4 : Int32)).toNatClampNeg) (1 : Int32) hJI)) (vx_cwSW 7 ht (G_S q_628 q_629 q_45 q_630) rfl rfl rfl vd_29 ⟨Nat.le_of_ble_eq_true rfl, Nat.le_of_ble_eq_true rfl⟩) ⟨LB.blind, hg.lb hI hw⟩ rfl rfl hl.1 rfl (lv_room (Nat.le_of_ble_eq_true rfl)) dL_law_260 ⟨show cv + 4 ≤ 600128 by omega, show sv + 24 ≤ 7301098 by omega⟩) (fun r4 μ4 nv4 sw4 H locs hq4 hw => ?_)
    refine lv_istore (lv' := [(5, .int r4), (0, .ref b), (1, .ref (ad 0)), (2, .ref (bd 0)), (3, .ref q), (4, .int i)]) hx hb dL_law_263 hl (by decide) rfl (fun ls hl => ?_)
    refine lv_aload_n hx hb dL_law_265 rfl (lv_at hl 3 rfl) ?_
    refine lv_aload_n hx hb dL_law_266 rfl (lv_at hl 1 rfl) ?_
    refine lv_iload hx hb dL_law_267 (lv_at hl 5 rfl) ?_
    refine lv_iconst (v := (1 : Int32)) hx hb dL_law_269 (by decide) ?_
    refine lv_iadd hx hb dL_law_270 ?_
    refine va_sld hx hb hXs hbl hbA hw.2.2.1 (i := (i + (1 : Int32))) hv1 dL_law_271 ?_
    refine lv_aload_n hx hb dL_law_272 rfl (lv_at hl 1 rfl) ?_
    refine lv_iload hx hb dL_law_273 (lv_at hl 5 rfl) ?_
    refine lv_iconst (v := (2 : Int32)) hx hb dL_law_275 (by decide) ?_
    refine lv_iadd hx hb dL_law_276 ?_
    refine va_sld hx hb hXs hbl hbA hw.2.2.1 (i := (i + (2 : Int32))) hv2 dL_law_277 ?_
    refine lv_aload_n hx hb dL_law_278 rfl (lv_at hl 1 rfl) ?_
    refine lv_iload hx hb dL_law_279 (lv_at hl 5 rfl) ?_
    refine lv_iconst (v := (3 : Int32)) hx hb dL_law_281 (by decide) ?_
    refine lv_iadd hx hb dL_law_282 ?_
    refine va_sld hx hb hXs hbl hbA hw.2.2.1 (i := (i + (3 : Int32))) hv3 dL_law_283 ?_
    refine lv_aload_n hx hb dL_law_284 rfl (lv_at hl 1 rfl) ?_
    refine lv_iload hx hb dL_law_285 (lv_at hl 5 rfl) ?_
    refine lv_iconst (v := (4 : Int32)) hx hb dL_law_287 (by decide) ?_
    refine lv_iadd hx hb dL_law_288 ?_
    refine va_sld hx hb hXs hbl hbA hw.2.2.1 (i := (i + (4 : Int32))) hv4 dL_law_289 ?_
    refine lv_aload_n hx hb dL_law_290 rfl (lv_at hl 1 rfl) ?_
    refine lv_iload hx hb dL_law_291 (lv_at hl 5 rfl) ?_
    refine lv_iconst (v := (5 : Int32)) hx hb dL_law_293 (by decide) ?_
    refine lv_iadd hx hb dL_law_294 ?_
    refine va_sld hx hb hXs hbl hbA hw.2.2.1 (i := (i + (5 : Int32))) hv5 dL_law_295 ?_
    refine lv_if_eq (tgt := 303) hx hb dL_law_296 (by decide) (fun c9 => absurd c9 kb1) (fun c9 => ?_)
    refine lv_iconst (v := (1 : Int32)) hx hb dL_law_299 (by decide) ?_
    refine lv_goto (tgt := 304) hx hb dL_law_300 (by decide) ?_
    refine M_calli hw (LZ_MA hw) (va_runV (own := "LeastreaderLaw") (As := [.int (xs (i + (1 : Int32)).toNatClampNeg), .int (xs (i + (2 : Int32)).toNatClampNeg), .int (xs (i + (3 : Int32)).toNatClampNeg), .int (xs (i + (4 : Int32)).toNatClampNeg), .int (1 : Int32)]) (rest := []) ⟨hx, hb, hml, hown, ht⟩ (c_X11_arrow ν H.size (xs (i + (1 : Int32)).toNatClampNeg) (xs (i + (2 : Int32)).toNatClampNeg) (xs (i + (3 : Int32)).toNatClampNeg) (xs (i + (4 : Int32)).toNatClampNeg) (1 : Int32) hq4) (cwV 5 ht (G_V q_1372 q_1373 q_1374 q_56 q_1375) rfl rfl rfl ⟨rfl, vd_30⟩ ⟨Nat.le_of_ble_eq_true rfl, Nat.le_of_ble_eq_true rfl⟩) ⟨MB.blind, M_recv hg.2.1 hw, MB.pre hg.2.1 hJ hw va_P0 ne0⟩ rfl rfl hl.1 rfl (lv_room (Nat.le_of_ble_eq_true rfl)) dL_law_304 ⟨show cv + 4 + 0 ≤ 600128 by omega, show sv + 24 + 0 ≤ 7301098 by omega⟩) (fun r5 ν5 H locs hf5 hw => ?_)
    refine lv_istore (lv' := [(6, .int r5), (5, .int r4), (0, .ref b), (1, .ref (ad 0)), (2, .ref (bd 0)), (3, .ref q), (4, .int i)]) hx hb dL_law_307 hl (by decide) rfl (fun ls hl => ?_)
    refine lv_goto (tgt := 1572) hx hb dL_law_309 (by decide) ?_
    refine W.widen (show cv + 4 + 0 ≤ cv + 2000 by omega) (show sv + 24 + 0 ≤ sv + 112000 by omega) ?_
    exact hJ3 μ4 ν5 nv4 sw4 H locs ls hf5 hw (lv_sub hl [2, 3, 4, 5, 6] rfl)
set_option maxHeartbeats 4000000 in
set_option maxRecDepth 100000 in
theorem law_2 {p : Program} {l : Launch} {e : Env} {s : State} {m : MethodId} {b : Nat} {below : List Frame} {meth : Method} {c : Code} {L : Nat} {xs : Nat → Int32} {D : va_G} {ad bd : Nat → Nat} {cI cL cM cB : ClassId} {q : Nat} {Z : State → Prop} {JI : TMem → TMem → Prop} {i : Int32} {cv sv : Nat} (hRI : ∀ {μ ν : TMem}, JI μ ν → RI ν) (hGM : GM_lead JI) (C0 : LC p l s m b c L xs D ad bd cI cL cM cB) (hi : 0 ≤ i.toInt) (hiL : i.toInt + 6 ≤ L) (hcv : cv + 2000 ≤ 600128) (hsv : sv + 112000 ≤ 7301098) (hJ3 : LJ p l e s m b below meth c D ad bd cI cM q Z JI i (cv + 2000) (sv + 112000) 1572) : LJ p l e s m b below meth c D ad bd cI cM q Z JI i cv sv 312 := by
  obtain ⟨hx, hb, hml, hown, ht, hg, hI, hJ, hXs, hbl, hst, hL⟩ := C0
  have hN : NW s := hg.2.2.2.2.1
  have hbA : ¬ SA s.heap.size b := Nat.not_le.mpr hbl
  intro μ ν nv sw H locs ls hJI hw hl
  have hi1 : (i + (1 : Int32)).toInt = i.toInt + 1 := ii_a rfl (show (1 : Int32).toInt = 1 from rfl) (by omega) (by omega)
  have hi2 : (i + (2 : Int32)).toInt = i.toInt + 2 := ii_a rfl (show (2 : Int32).toInt = 2 from rfl) (by omega) (by omega)
  have hi3 : (i + (3 : Int32)).toInt = i.toInt + 3 := ii_a rfl (show (3 : Int32).toInt = 3 from rfl) (by omega) (by omega)
  have hi4 : (i + (4 : Int32)).toInt = i.toInt + 4 := ii_a rfl (show (4 : Int32).toInt = 4 from rfl) (by omega) (by omega)
  have hi5 : (i + (5 : Int32)).toInt = i.toInt + 5 := ii_a rfl (show (5 : Int32).toInt = 5 from rfl) (by omega) (by omega)
  have hv0 : vp_in i L := vin (by omega)
  have hv1 : vp_in (i + (1 : Int32)) L := vin (by omega)
  have hv2 : vp_in (i + (2 : Int32)) L := vin (by omega)
  have hv3 : vp_in (i + (3 : Int32)) L := vin (by omega)
  have hv4 : vp_in (i + (4 : Int32)) L := vin (by omega)
  have hv5 : vp_in (i + (5 : Int32)) L := vin (by omega)
  refine lv_aload_n hx hb dL_law_312 rfl (lv_at hl 1 rfl) ?_
  refine lv_aload_n hx hb dL_law_313 rfl (lv_at hl 0 rfl) ?_
  refine lv_iload hx hb dL_law_314 (lv_at hl 4 rfl) ?_
  refine lv_iconst (v := (1 : Int32)) hx hb dL_law_316 (by decide) ?_
  refine lv_iadd hx hb dL_law_317 ?_
  refine va_sld hx hb hXs hbl hbA hw.2.2.1 (i := (i + (1 : Int32))) hv1 dL_law_318 ?_
  refine lv_aload_n hx hb dL_law_319 rfl (lv_at hl 0 rfl) ?_
  refine lv_iload hx hb dL_law_320 (lv_at hl 4 rfl) ?_
  refine lv_iconst (v := (2 : Int32)) hx hb dL_law_322 (by decide) ?_
  refine lv_iadd hx hb dL_law_323 ?_
  refine va_sld hx hb hXs hbl hbA hw.2.2.1 (i := (i + (2 : Int32))) hv2 dL_law_324 ?_
  refine lv_aload_n hx hb dL_law_325 rfl (lv_at hl 0 rfl) ?_
  refine lv_iload hx hb dL_law_326 (lv_at hl 4 rfl) ?_
  refine lv_iconst (v := (3 : Int32)) hx hb dL_law_328 (by decide) ?_
  refine lv_iadd hx hb dL_law_329 ?_
  refine va_sld hx hb hXs hbl hbA hw.2.2.1 (i := (i + (3 : Int32))) hv3 dL_law_330 ?_
  refine lv_aload_n hx hb dL_law_331 rfl (lv_at hl 0 rfl) ?_
  refine lv_iload hx hb dL_law_332 (lv_at hl 4 rfl) ?_
  refine lv_iconst (v := (4 : Int32)) hx hb dL_law_334 (by decide) ?_
  refine lv_iadd hx hb dL_law_335 ?_
  refine va_sld hx hb hXs hbl hbA hw.2.2.1 (i := (i + (4 : Int32))) hv4 dL_law_336 ?_
  refine lv_aload_n hx hb dL_law_337 rfl (lv_at hl 3 rfl) ?_
  refine LL_call hw hI (vx_runSX (own := "LeastreaderLaw") (As := [.ref (ad 0), .int (xs (i + (1 : Int32)).toNatClampNeg), .int (xs (i + (2 : Int32)).toNatClampNeg), .int (xs (i + (3 : Int32)).toNatClampNeg), .int (xs (i + (4 : Int32)).toNatClampNeg), .ref q]) (rest := []) ⟨hx, hb, hml, hown, ht⟩ (c_L_lead hst q nv sw μ H.size (xs (i + (1 : Int32)).toNatClampNeg) (xs (i + (2 : Int32)).toNatClampNeg) (xs (i + (3 : Int32)).toNatClampNeg) (xs (i + (4 : Int32)).toNatClampNeg) (PW := fun k u => RW_lead JI ν (xs (i + (1 : Int32)).toNatClampNeg) (xs (i + (2 : Int32)).toNatClampNeg) (xs (i + (3 : Int32)).toNatClampNeg) (xs (i + (4 : Int32)).toNatClampNeg) k u.2.1 u.1) (hGM μ ν nv (xs (i + (1 : Int32)).toNatClampNeg) (xs (i + (2 : Int32)).toNatClampNeg) (xs (i + (3 : Int32)).toNatClampNeg) (xs (i + (4 : Int32)).toNatClampNeg) hJI)) (vx_cwSW 6 ht (G_S q_644 q_645 q_45 q_646) rfl rfl rfl vd_31 ⟨Nat.le_of_ble_eq_true rfl, Nat.le_of_ble_eq_true rfl⟩) ⟨LB.blind, hg.lb hI hw⟩ rfl rfl hl.1 rfl (lv_room (Nat.le_of_ble_eq_true rfl)) dL_law_338 ⟨show cv + 4 ≤ 600128 by omega, show sv + 24 ≤ 7301098 by omega⟩) (fun r1 μ1 nv1 sw1 H locs hq1 hw => ?_)
  refine lv_istore (lv' := [(5, .int r1), (0, .ref b), (1, .ref (ad 0)), (2, .ref (bd 0)), (3, .ref q), (4, .int i)]) hx hb dL_law_341 hl (by decide) rfl (fun ls hl => ?_)
  refine lv_aload_n hx hb dL_law_343 rfl (lv_at hl 3 rfl) ?_
  refine lv_aload_n hx hb dL_law_344 rfl (lv_at hl 1 rfl) ?_
  refine lv_iload hx hb dL_law_345 (lv_at hl 5 rfl) ?_
  refine lv_iconst (v := (1 : Int32)) hx hb dL_law_347 (by decide) ?_
  refine lv_iadd hx hb dL_law_348 ?_
  refine va_sld hx hb hXs hbl hbA hw.2.2.1 (i := (i + (1 : Int32))) hv1 dL_law_349 ?_
  refine lv_aload_n hx hb dL_law_350 rfl (lv_at hl 1 rfl) ?_
  refine lv_iload hx hb dL_law_351 (lv_at hl 5 rfl) ?_
  refine lv_iconst (v := (2 : Int32)) hx hb dL_law_353 (by decide) ?_
  refine lv_iadd hx hb dL_law_354 ?_
  refine va_sld hx hb hXs hbl hbA hw.2.2.1 (i := (i + (2 : Int32))) hv2 dL_law_355 ?_
  refine lv_aload_n hx hb dL_law_356 rfl (lv_at hl 1 rfl) ?_
  refine lv_iload hx hb dL_law_357 (lv_at hl 5 rfl) ?_
  refine lv_iconst (v := (3 : Int32)) hx hb dL_law_359 (by decide) ?_
  refine lv_iadd hx hb dL_law_360 ?_
  refine va_sld hx hb hXs hbl hbA hw.2.2.1 (i := (i + (3 : Int32))) hv3 dL_law_361 ?_
  refine lv_aload_n hx hb dL_law_362 rfl (lv_at hl 1 rfl) ?_
  refine lv_iload hx hb dL_law_363 (lv_at hl 5 rfl) ?_
  refine lv_iconst (v := (4 : Int32)) hx hb dL_law_365 (by decide) ?_
  refine lv_iadd hx hb dL_law_366 ?_
  refine va_sld hx hb hXs hbl hbA hw.2.2.1 (i := (i + (4 : Int32))) hv4 dL_law_367 ?_
  refine M_calli hw (LZ_MA hw) (va_runV (own := "LeastreaderLaw") (As := [.int (xs (i + (1 : Int32)).toNatClampNeg), .int (xs (i + (2 : Int32)).toNatClampNeg), .int (xs (i + (3 : Int32)).toNatClampNeg), .int (xs (i + (4 : Int32)).toNatClampNeg)]) (rest := []) ⟨hx, hb, hml, hown, ht⟩ (c_X11_lead ν H.size (xs (i + (1 : Int32)).toNatClampNeg) (xs (i + (2 : Int32)).toNatClampNeg) (xs (i + (3 : Int32)).toNatClampNeg) (xs (i + (4 : Int32)).toNatClampNeg) hq1) (cwV 4 ht (G_V q_1384 q_1385 q_1386 q_56 q_1387) rfl rfl rfl ⟨rfl, vd_32⟩ ⟨Nat.le_of_ble_eq_true rfl, Nat.le_of_ble_eq_true rfl⟩) ⟨MB.blind, M_recv hg.2.1 hw, MB.pre hg.2.1 hJ hw va_P0 ne0⟩ rfl rfl hl.1 rfl (lv_room (Nat.le_of_ble_eq_true rfl)) dL_law_368 ⟨show cv + 4 + 0 ≤ 600128 by omega, show sv + 24 + 0 ≤ 7301098 by omega⟩) (fun r2 ν2 H locs hf2 hw => ?_)
  refine lv_istore (lv' := [(6, .int r2), (5, .int r1), (0, .ref b), (1, .ref (ad 0)), (2, .ref (bd 0)), (3, .ref q), (4, .int i)]) hx hb dL_law_371 hl (by decide) rfl (fun ls hl => ?_)
  refine lv_goto (tgt := 1572) hx hb dL_law_373 (by decide) ?_
  refine W.widen (show cv + 4 + 0 ≤ cv + 2000 by omega) (show sv + 24 + 0 ≤ sv + 112000 by omega) ?_
  exact hJ3 μ1 ν2 nv1 sw1 H locs ls hf2 hw (lv_sub hl [2, 3, 4, 5, 6] rfl)
set_option maxHeartbeats 4000000 in
set_option maxRecDepth 100000 in
theorem law_3 {p : Program} {l : Launch} {e : Env} {s : State} {m : MethodId} {b : Nat} {below : List Frame} {meth : Method} {c : Code} {L : Nat} {xs : Nat → Int32} {D : va_G} {ad bd : Nat → Nat} {cI cL cM cB : ClassId} {q : Nat} {Z : State → Prop} {JI : TMem → TMem → Prop} {i : Int32} {cv sv : Nat} (hRI : ∀ {μ ν : TMem}, JI μ ν → RI ν) (hGM : GM_mark JI) (C0 : LC p l s m b c L xs D ad bd cI cL cM cB) (hi : 0 ≤ i.toInt) (hiL : i.toInt + 6 ≤ L) (hcv : cv + 2000 ≤ 600128) (hsv : sv + 112000 ≤ 7301098) (hJ3 : LJ p l e s m b below meth c D ad bd cI cM q Z JI i (cv + 2000) (sv + 112000) 1572) : LJ p l e s m b below meth c D ad bd cI cM q Z JI i cv sv 376 := by
  obtain ⟨hx, hb, hml, hown, ht, hg, hI, hJ, hXs, hbl, hst, hL⟩ := C0
  have hN : NW s := hg.2.2.2.2.1
  have hbA : ¬ SA s.heap.size b := Nat.not_le.mpr hbl
  intro μ ν nv sw H locs ls hJI hw hl
  have hi1 : (i + (1 : Int32)).toInt = i.toInt + 1 := ii_a rfl (show (1 : Int32).toInt = 1 from rfl) (by omega) (by omega)
  have hi2 : (i + (2 : Int32)).toInt = i.toInt + 2 := ii_a rfl (show (2 : Int32).toInt = 2 from rfl) (by omega) (by omega)
  have hi3 : (i + (3 : Int32)).toInt = i.toInt + 3 := ii_a rfl (show (3 : Int32).toInt = 3 from rfl) (by omega) (by omega)
  have hi4 : (i + (4 : Int32)).toInt = i.toInt + 4 := ii_a rfl (show (4 : Int32).toInt = 4 from rfl) (by omega) (by omega)
  have hi5 : (i + (5 : Int32)).toInt = i.toInt + 5 := ii_a rfl (show (5 : Int32).toInt = 5 from rfl) (by omega) (by omega)
  have hv0 : vp_in i L := vin (by omega)
  have hv1 : vp_in (i + (1 : Int32)) L := vin (by omega)
  have hv2 : vp_in (i + (2 : Int32)) L := vin (by omega)
  have hv3 : vp_in (i + (3 : Int32)) L := vin (by omega)
  have hv4 : vp_in (i + (4 : Int32)) L := vin (by omega)
  have hv5 : vp_in (i + (5 : Int32)) L := vin (by omega)
  refine lv_aload_n hx hb dL_law_376 rfl (lv_at hl 1 rfl) ?_
  refine lv_aload_n hx hb dL_law_377 rfl (lv_at hl 0 rfl) ?_
  refine lv_iload hx hb dL_law_378 (lv_at hl 4 rfl) ?_
  refine lv_iconst (v := (1 : Int32)) hx hb dL_law_380 (by decide) ?_
  refine lv_iadd hx hb dL_law_381 ?_
  refine va_sld hx hb hXs hbl hbA hw.2.2.1 (i := (i + (1 : Int32))) hv1 dL_law_382 ?_
  refine lv_aload_n hx hb dL_law_383 rfl (lv_at hl 0 rfl) ?_
  refine lv_iload hx hb dL_law_384 (lv_at hl 4 rfl) ?_
  refine lv_iconst (v := (2 : Int32)) hx hb dL_law_386 (by decide) ?_
  refine lv_iadd hx hb dL_law_387 ?_
  refine va_sld hx hb hXs hbl hbA hw.2.2.1 (i := (i + (2 : Int32))) hv2 dL_law_388 ?_
  refine lv_aload_n hx hb dL_law_389 rfl (lv_at hl 0 rfl) ?_
  refine lv_iload hx hb dL_law_390 (lv_at hl 4 rfl) ?_
  refine lv_iconst (v := (3 : Int32)) hx hb dL_law_392 (by decide) ?_
  refine lv_iadd hx hb dL_law_393 ?_
  refine va_sld hx hb hXs hbl hbA hw.2.2.1 (i := (i + (3 : Int32))) hv3 dL_law_394 ?_
  refine lv_if_eq (tgt := 402) hx hb dL_law_395 (by decide) (fun c9 => ?_) (fun c9 => ?_)
  · have kb1 := c9
    refine lv_iconst (v := (0 : Int32)) hx hb dL_law_402 (by decide) ?_
    refine lv_aload_n hx hb dL_law_403 rfl (lv_at hl 0 rfl) ?_
    refine lv_iload hx hb dL_law_404 (lv_at hl 4 rfl) ?_
    refine lv_iconst (v := (4 : Int32)) hx hb dL_law_406 (by decide) ?_
    refine lv_iadd hx hb dL_law_407 ?_
    refine va_sld hx hb hXs hbl hbA hw.2.2.1 (i := (i + (4 : Int32))) hv4 dL_law_408 ?_
    refine lv_if_eq (tgt := 416) hx hb dL_law_409 (by decide) (fun c9 => ?_) (fun c9 => ?_)
    · have kb2 := c9
      refine lv_iconst (v := (0 : Int32)) hx hb dL_law_416 (by decide) ?_
      refine lv_aload_n hx hb dL_law_417 rfl (lv_at hl 3 rfl) ?_
      refine LL_call hw hI (vx_runSX (own := "LeastreaderLaw") (As := [.ref (ad 0), .int (xs (i + (1 : Int32)).toNatClampNeg), .int (xs (i + (2 : Int32)).toNatClampNeg), .int (0 : Int32), .int (0 : Int32), .ref q]) (rest := []) ⟨hx, hb, hml, hown, ht⟩ (c_L_mark hst q nv sw μ H.size (xs (i + (1 : Int32)).toNatClampNeg) (xs (i + (2 : Int32)).toNatClampNeg) (0 : Int32) (0 : Int32) (PW := fun k u => RW_mark JI ν (xs (i + (1 : Int32)).toNatClampNeg) (xs (i + (2 : Int32)).toNatClampNeg) (0 : Int32) (0 : Int32) k u.2.1 u.1) (hGM μ ν nv (xs (i + (1 : Int32)).toNatClampNeg) (xs (i + (2 : Int32)).toNatClampNeg) (0 : Int32) (0 : Int32) hJI)) (vx_cwSW 6 ht (G_S q_652 q_653 q_45 q_654) rfl rfl rfl vd_33 ⟨Nat.le_of_ble_eq_true rfl, Nat.le_of_ble_eq_true rfl⟩) ⟨LB.blind, hg.lb hI hw⟩ rfl rfl hl.1 rfl (lv_room (Nat.le_of_ble_eq_true rfl)) dL_law_418 ⟨show cv + 2 ≤ 600128 by omega, show sv + 12 ≤ 7301098 by omega⟩) (fun r3 μ3 nv3 sw3 H locs hq3 hw => ?_)
      refine lv_istore (lv' := [(5, .int r3), (0, .ref b), (1, .ref (ad 0)), (2, .ref (bd 0)), (3, .ref q), (4, .int i)]) hx hb dL_law_421 hl (by decide) rfl (fun ls hl => ?_)
      refine lv_aload_n hx hb dL_law_423 rfl (lv_at hl 3 rfl) ?_
      refine lv_aload_n hx hb dL_law_424 rfl (lv_at hl 1 rfl) ?_
      refine lv_iload hx hb dL_law_425 (lv_at hl 5 rfl) ?_
      refine lv_iconst (v := (1 : Int32)) hx hb dL_law_427 (by decide) ?_
      refine lv_iadd hx hb dL_law_428 ?_
      refine va_sld hx hb hXs hbl hbA hw.2.2.1 (i := (i + (1 : Int32))) hv1 dL_law_429 ?_
      refine lv_aload_n hx hb dL_law_430 rfl (lv_at hl 1 rfl) ?_
      refine lv_iload hx hb dL_law_431 (lv_at hl 5 rfl) ?_
      refine lv_iconst (v := (2 : Int32)) hx hb dL_law_433 (by decide) ?_
      refine lv_iadd hx hb dL_law_434 ?_
      refine va_sld hx hb hXs hbl hbA hw.2.2.1 (i := (i + (2 : Int32))) hv2 dL_law_435 ?_
      refine lv_aload_n hx hb dL_law_436 rfl (lv_at hl 1 rfl) ?_
      refine lv_iload hx hb dL_law_437 (lv_at hl 5 rfl) ?_
      refine lv_iconst (v := (3 : Int32)) hx hb dL_law_439 (by decide) ?_
      refine lv_iadd hx hb dL_law_440 ?_
      refine va_sld hx hb hXs hbl hbA hw.2.2.1 (i := (i + (3 : Int32))) hv3 dL_law_441 ?_
      refine lv_if_eq (tgt := 449) hx hb dL_law_442 (by decide) (fun c9 => ?_) (fun c9 => absurd kb1 c9)
      refine lv_iconst (v := (0 : Int32)) hx hb dL_law_449 (by decide) ?_
      refine lv_aload_n hx hb dL_law_450 rfl (lv_at hl 1 rfl) ?_
      refine lv_iload hx hb dL_law_451 (lv_at hl 5 rfl) ?_
      refine lv_iconst (v := (4 : Int32)) hx hb dL_law_453 (by decide) ?_
      refine lv_iadd hx hb dL_law_454 ?_
      refine va_sld hx hb hXs hbl hbA hw.2.2.1 (i := (i + (4 : Int32))) hv4 dL_law_455 ?_
      refine lv_if_eq (tgt := 463) hx hb dL_law_456 (by decide) (fun c9 => ?_) (fun c9 => absurd kb2 c9)
      refine lv_iconst (v := (0 : Int32)) hx hb dL_law_463 (by decide) ?_
      refine M_calli hw (LZ_MA hw) (va_runV (own := "LeastreaderLaw") (As := [.int (xs (i + (1 : Int32)).toNatClampNeg), .int (xs (i + (2 : Int32)).toNatClampNeg), .int (0 : Int32), .int (0 : Int32)]) (rest := []) ⟨hx, hb, hml, hown, ht⟩ (c_X11_mark ν H.size (xs (i + (1 : Int32)).toNatClampNeg) (xs (i + (2 : Int32)).toNatClampNeg) (0 : Int32) (0 : Int32) hq3) (cwV 4 ht (G_V q_1388 q_1389 q_1390 q_56 q_1391) rfl rfl rfl ⟨rfl, vd_34⟩ ⟨Nat.le_of_ble_eq_true rfl, Nat.le_of_ble_eq_true rfl⟩) ⟨MB.blind, M_recv hg.2.1 hw, MB.pre hg.2.1 hJ hw va_P0 ne0⟩ rfl rfl hl.1 rfl (lv_room (Nat.le_of_ble_eq_true rfl)) dL_law_464 ⟨show cv + 2 + 0 ≤ 600128 by omega, show sv + 12 + 0 ≤ 7301098 by omega⟩) (fun r4 ν4 H locs hf4 hw => ?_)
      refine lv_istore (lv' := [(6, .int r4), (5, .int r3), (0, .ref b), (1, .ref (ad 0)), (2, .ref (bd 0)), (3, .ref q), (4, .int i)]) hx hb dL_law_467 hl (by decide) rfl (fun ls hl => ?_)
      refine lv_goto (tgt := 1572) hx hb dL_law_469 (by decide) ?_
      refine W.widen (show cv + 2 + 0 ≤ cv + 2000 by omega) (show sv + 12 + 0 ≤ sv + 112000 by omega) ?_
      exact hJ3 μ3 ν4 nv3 sw3 H locs ls hf4 hw (lv_sub hl [2, 3, 4, 5, 6] rfl)
    · have kb2 := c9
      refine lv_iconst (v := (1 : Int32)) hx hb dL_law_412 (by decide) ?_
      refine lv_goto (tgt := 417) hx hb dL_law_413 (by decide) ?_
      refine lv_aload_n hx hb dL_law_417 rfl (lv_at hl 3 rfl) ?_
      refine LL_call hw hI (vx_runSX (own := "LeastreaderLaw") (As := [.ref (ad 0), .int (xs (i + (1 : Int32)).toNatClampNeg), .int (xs (i + (2 : Int32)).toNatClampNeg), .int (0 : Int32), .int (1 : Int32), .ref q]) (rest := []) ⟨hx, hb, hml, hown, ht⟩ (c_L_mark hst q nv sw μ H.size (xs (i + (1 : Int32)).toNatClampNeg) (xs (i + (2 : Int32)).toNatClampNeg) (0 : Int32) (1 : Int32) (PW := fun k u => RW_mark JI ν (xs (i + (1 : Int32)).toNatClampNeg) (xs (i + (2 : Int32)).toNatClampNeg) (0 : Int32) (1 : Int32) k u.2.1 u.1) (hGM μ ν nv (xs (i + (1 : Int32)).toNatClampNeg) (xs (i + (2 : Int32)).toNatClampNeg) (0 : Int32) (1 : Int32) hJI)) (vx_cwSW 6 ht (G_S q_652 q_653 q_45 q_654) rfl rfl rfl vd_33 ⟨Nat.le_of_ble_eq_true rfl, Nat.le_of_ble_eq_true rfl⟩) ⟨LB.blind, hg.lb hI hw⟩ rfl rfl hl.1 rfl (lv_room (Nat.le_of_ble_eq_true rfl)) dL_law_418 ⟨show cv + 2 ≤ 600128 by omega, show sv + 12 ≤ 7301098 by omega⟩) (fun r5 μ5 nv5 sw5 H locs hq5 hw => ?_)
      refine lv_istore (lv' := [(5, .int r5), (0, .ref b), (1, .ref (ad 0)), (2, .ref (bd 0)), (3, .ref q), (4, .int i)]) hx hb dL_law_421 hl (by decide) rfl (fun ls hl => ?_)
      refine lv_aload_n hx hb dL_law_423 rfl (lv_at hl 3 rfl) ?_
      refine lv_aload_n hx hb dL_law_424 rfl (lv_at hl 1 rfl) ?_
      refine lv_iload hx hb dL_law_425 (lv_at hl 5 rfl) ?_
      refine lv_iconst (v := (1 : Int32)) hx hb dL_law_427 (by decide) ?_
      refine lv_iadd hx hb dL_law_428 ?_
      refine va_sld hx hb hXs hbl hbA hw.2.2.1 (i := (i + (1 : Int32))) hv1 dL_law_429 ?_
      refine lv_aload_n hx hb dL_law_430 rfl (lv_at hl 1 rfl) ?_
      refine lv_iload hx hb dL_law_431 (lv_at hl 5 rfl) ?_
      refine lv_iconst (v := (2 : Int32)) hx hb dL_law_433 (by decide) ?_
      refine lv_iadd hx hb dL_law_434 ?_
      refine va_sld hx hb hXs hbl hbA hw.2.2.1 (i := (i + (2 : Int32))) hv2 dL_law_435 ?_
      refine lv_aload_n hx hb dL_law_436 rfl (lv_at hl 1 rfl) ?_
      refine lv_iload hx hb dL_law_437 (lv_at hl 5 rfl) ?_
      refine lv_iconst (v := (3 : Int32)) hx hb dL_law_439 (by decide) ?_
      refine lv_iadd hx hb dL_law_440 ?_
      refine va_sld hx hb hXs hbl hbA hw.2.2.1 (i := (i + (3 : Int32))) hv3 dL_law_441 ?_
      refine lv_if_eq (tgt := 449) hx hb dL_law_442 (by decide) (fun c9 => ?_) (fun c9 => absurd kb1 c9)
      refine lv_iconst (v := (0 : Int32)) hx hb dL_law_449 (by decide) ?_
      refine lv_aload_n hx hb dL_law_450 rfl (lv_at hl 1 rfl) ?_
      refine lv_iload hx hb dL_law_451 (lv_at hl 5 rfl) ?_
      refine lv_iconst (v := (4 : Int32)) hx hb dL_law_453 (by decide) ?_
      refine lv_iadd hx hb dL_law_454 ?_
      refine va_sld hx hb hXs hbl hbA hw.2.2.1 (i := (i + (4 : Int32))) hv4 dL_law_455 ?_
      refine lv_if_eq (tgt := 463) hx hb dL_law_456 (by decide) (fun c9 => absurd c9 kb2) (fun c9 => ?_)
      refine lv_iconst (v := (1 : Int32)) hx hb dL_law_459 (by decide) ?_
      refine lv_goto (tgt := 464) hx hb dL_law_460 (by decide) ?_
      refine M_calli hw (LZ_MA hw) (va_runV (own := "LeastreaderLaw") (As := [.int (xs (i + (1 : Int32)).toNatClampNeg), .int (xs (i + (2 : Int32)).toNatClampNeg), .int (0 : Int32), .int (1 : Int32)]) (rest := []) ⟨hx, hb, hml, hown, ht⟩ (c_X11_mark ν H.size (xs (i + (1 : Int32)).toNatClampNeg) (xs (i + (2 : Int32)).toNatClampNeg) (0 : Int32) (1 : Int32) hq5) (cwV 4 ht (G_V q_1388 q_1389 q_1390 q_56 q_1391) rfl rfl rfl ⟨rfl, vd_34⟩ ⟨Nat.le_of_ble_eq_true rfl, Nat.le_of_ble_eq_true rfl⟩) ⟨MB.blind, M_recv hg.2.1 hw, MB.pre hg.2.1 hJ hw va_P0 ne0⟩ rfl rfl hl.1 rfl (lv_room (Nat.le_of_ble_eq_true rfl)) dL_law_464 ⟨show cv + 2 + 0 ≤ 600128 by omega, show sv + 12 + 0 ≤ 7301098 by omega⟩) (fun r6 ν6 H locs hf6 hw => ?_)
      refine lv_istore (lv' := [(6, .int r6), (5, .int r5), (0, .ref b), (1, .ref (ad 0)), (2, .ref (bd 0)), (3, .ref q), (4, .int i)]) hx hb dL_law_467 hl (by decide) rfl (fun ls hl => ?_)
      refine lv_goto (tgt := 1572) hx hb dL_law_469 (by decide) ?_
      refine W.widen (show cv + 2 + 0 ≤ cv + 2000 by omega) (show sv + 12 + 0 ≤ sv + 112000 by omega) ?_
      exact hJ3 μ5 ν6 nv5 sw5 H locs ls hf6 hw (lv_sub hl [2, 3, 4, 5, 6] rfl)
  · have kb1 := c9
    refine lv_iconst (v := (1 : Int32)) hx hb dL_law_398 (by decide) ?_
    refine lv_goto (tgt := 403) hx hb dL_law_399 (by decide) ?_
    refine lv_aload_n hx hb dL_law_403 rfl (lv_at hl 0 rfl) ?_
    refine lv_iload hx hb dL_law_404 (lv_at hl 4 rfl) ?_
    refine lv_iconst (v := (4 : Int32)) hx hb dL_law_406 (by decide) ?_
    refine lv_iadd hx hb dL_law_407 ?_
    refine va_sld hx hb hXs hbl hbA hw.2.2.1 (i := (i + (4 : Int32))) hv4 dL_law_408 ?_
    refine lv_if_eq (tgt := 416) hx hb dL_law_409 (by decide) (fun c9 => ?_) (fun c9 => ?_)
    · have kb7 := c9
      refine lv_iconst (v := (0 : Int32)) hx hb dL_law_416 (by decide) ?_
      refine lv_aload_n hx hb dL_law_417 rfl (lv_at hl 3 rfl) ?_
      refine LL_call hw hI (vx_runSX (own := "LeastreaderLaw") (As := [.ref (ad 0), .int (xs (i + (1 : Int32)).toNatClampNeg), .int (xs (i + (2 : Int32)).toNatClampNeg), .int (1 : Int32), .int (0 : Int32), .ref q]) (rest := []) ⟨hx, hb, hml, hown, ht⟩ (c_L_mark hst q nv sw μ H.size (xs (i + (1 : Int32)).toNatClampNeg) (xs (i + (2 : Int32)).toNatClampNeg) (1 : Int32) (0 : Int32) (PW := fun k u => RW_mark JI ν (xs (i + (1 : Int32)).toNatClampNeg) (xs (i + (2 : Int32)).toNatClampNeg) (1 : Int32) (0 : Int32) k u.2.1 u.1) (hGM μ ν nv (xs (i + (1 : Int32)).toNatClampNeg) (xs (i + (2 : Int32)).toNatClampNeg) (1 : Int32) (0 : Int32) hJI)) (vx_cwSW 6 ht (G_S q_652 q_653 q_45 q_654) rfl rfl rfl vd_33 ⟨Nat.le_of_ble_eq_true rfl, Nat.le_of_ble_eq_true rfl⟩) ⟨LB.blind, hg.lb hI hw⟩ rfl rfl hl.1 rfl (lv_room (Nat.le_of_ble_eq_true rfl)) dL_law_418 ⟨show cv + 2 ≤ 600128 by omega, show sv + 12 ≤ 7301098 by omega⟩) (fun r8 μ8 nv8 sw8 H locs hq8 hw => ?_)
      refine lv_istore (lv' := [(5, .int r8), (0, .ref b), (1, .ref (ad 0)), (2, .ref (bd 0)), (3, .ref q), (4, .int i)]) hx hb dL_law_421 hl (by decide) rfl (fun ls hl => ?_)
      refine lv_aload_n hx hb dL_law_423 rfl (lv_at hl 3 rfl) ?_
      refine lv_aload_n hx hb dL_law_424 rfl (lv_at hl 1 rfl) ?_
      refine lv_iload hx hb dL_law_425 (lv_at hl 5 rfl) ?_
      refine lv_iconst (v := (1 : Int32)) hx hb dL_law_427 (by decide) ?_
      refine lv_iadd hx hb dL_law_428 ?_
      refine va_sld hx hb hXs hbl hbA hw.2.2.1 (i := (i + (1 : Int32))) hv1 dL_law_429 ?_
      refine lv_aload_n hx hb dL_law_430 rfl (lv_at hl 1 rfl) ?_
      refine lv_iload hx hb dL_law_431 (lv_at hl 5 rfl) ?_
      refine lv_iconst (v := (2 : Int32)) hx hb dL_law_433 (by decide) ?_
      refine lv_iadd hx hb dL_law_434 ?_
      refine va_sld hx hb hXs hbl hbA hw.2.2.1 (i := (i + (2 : Int32))) hv2 dL_law_435 ?_
      refine lv_aload_n hx hb dL_law_436 rfl (lv_at hl 1 rfl) ?_
      refine lv_iload hx hb dL_law_437 (lv_at hl 5 rfl) ?_
      refine lv_iconst (v := (3 : Int32)) hx hb dL_law_439 (by decide) ?_
      refine lv_iadd hx hb dL_law_440 ?_
      refine va_sld hx hb hXs hbl hbA hw.2.2.1 (i := (i + (3 : Int32))) hv3 dL_law_441 ?_
      refine lv_if_eq (tgt := 449) hx hb dL_law_442 (by decide) (fun c9 => absurd c9 kb1) (fun c9 => ?_)
      refine lv_iconst (v := (1 : Int32)) hx hb dL_law_445 (by decide) ?_
      refine lv_goto (tgt := 450) hx hb dL_law_446 (by decide) ?_
      refine lv_aload_n hx hb dL_law_450 rfl (lv_at hl 1 rfl) ?_
      refine lv_iload hx hb dL_law_451 (lv_at hl 5 rfl) ?_
      refine lv_iconst (v := (4 : Int32)) hx hb dL_law_453 (by decide) ?_
      refine lv_iadd hx hb dL_law_454 ?_
      refine va_sld hx hb hXs hbl hbA hw.2.2.1 (i := (i + (4 : Int32))) hv4 dL_law_455 ?_
      refine lv_if_eq (tgt := 463) hx hb dL_law_456 (by decide) (fun c9 => ?_) (fun c9 => absurd kb7 c9)
      refine lv_iconst (v := (0 : Int32)) hx hb dL_law_463 (by decide) ?_
      refine M_calli hw (LZ_MA hw) (va_runV (own := "LeastreaderLaw") (As := [.int (xs (i + (1 : Int32)).toNatClampNeg), .int (xs (i + (2 : Int32)).toNatClampNeg), .int (1 : Int32), .int (0 : Int32)]) (rest := []) ⟨hx, hb, hml, hown, ht⟩ (c_X11_mark ν H.size (xs (i + (1 : Int32)).toNatClampNeg) (xs (i + (2 : Int32)).toNatClampNeg) (1 : Int32) (0 : Int32) hq8) (cwV 4 ht (G_V q_1388 q_1389 q_1390 q_56 q_1391) rfl rfl rfl ⟨rfl, vd_34⟩ ⟨Nat.le_of_ble_eq_true rfl, Nat.le_of_ble_eq_true rfl⟩) ⟨MB.blind, M_recv hg.2.1 hw, MB.pre hg.2.1 hJ hw va_P0 ne0⟩ rfl rfl hl.1 rfl (lv_room (Nat.le_of_ble_eq_true rfl)) dL_law_464 ⟨show cv + 2 + 0 ≤ 600128 by omega, show sv + 12 + 0 ≤ 7301098 by omega⟩) (fun r9 ν9 H locs hf9 hw => ?_)
      refine lv_istore (lv' := [(6, .int r9), (5, .int r8), (0, .ref b), (1, .ref (ad 0)), (2, .ref (bd 0)), (3, .ref q), (4, .int i)]) hx hb dL_law_467 hl (by decide) rfl (fun ls hl => ?_)
      refine lv_goto (tgt := 1572) hx hb dL_law_469 (by decide) ?_
      refine W.widen (show cv + 2 + 0 ≤ cv + 2000 by omega) (show sv + 12 + 0 ≤ sv + 112000 by omega) ?_
      exact hJ3 μ8 ν9 nv8 sw8 H locs ls hf9 hw (lv_sub hl [2, 3, 4, 5, 6] rfl)
    · have kb7 := c9
      refine lv_iconst (v := (1 : Int32)) hx hb dL_law_412 (by decide) ?_
      refine lv_goto (tgt := 417) hx hb dL_law_413 (by decide) ?_
      refine lv_aload_n hx hb dL_law_417 rfl (lv_at hl 3 rfl) ?_
      refine LL_call hw hI (vx_runSX (own := "LeastreaderLaw") (As := [.ref (ad 0), .int (xs (i + (1 : Int32)).toNatClampNeg), .int (xs (i + (2 : Int32)).toNatClampNeg), .int (1 : Int32), .int (1 : Int32), .ref q]) (rest := []) ⟨hx, hb, hml, hown, ht⟩ (c_L_mark hst q nv sw μ H.size (xs (i + (1 : Int32)).toNatClampNeg) (xs (i + (2 : Int32)).toNatClampNeg) (1 : Int32) (1 : Int32) (PW := fun k u => RW_mark JI ν (xs (i + (1 : Int32)).toNatClampNeg) (xs (i + (2 : Int32)).toNatClampNeg) (1 : Int32) (1 : Int32) k u.2.1 u.1) (hGM μ ν nv (xs (i + (1 : Int32)).toNatClampNeg) (xs (i + (2 : Int32)).toNatClampNeg) (1 : Int32) (1 : Int32) hJI)) (vx_cwSW 6 ht (G_S q_652 q_653 q_45 q_654) rfl rfl rfl vd_33 ⟨Nat.le_of_ble_eq_true rfl, Nat.le_of_ble_eq_true rfl⟩) ⟨LB.blind, hg.lb hI hw⟩ rfl rfl hl.1 rfl (lv_room (Nat.le_of_ble_eq_true rfl)) dL_law_418 ⟨show cv + 2 ≤ 600128 by omega, show sv + 12 ≤ 7301098 by omega⟩) (fun r10 μ10 nv10 sw10 H locs hq10 hw => ?_)
      refine lv_istore (lv' := [(5, .int r10), (0, .ref b), (1, .ref (ad 0)), (2, .ref (bd 0)), (3, .ref q), (4, .int i)]) hx hb dL_law_421 hl (by decide) rfl (fun ls hl => ?_)
      refine lv_aload_n hx hb dL_law_423 rfl (lv_at hl 3 rfl) ?_
      refine lv_aload_n hx hb dL_law_424 rfl (lv_at hl 1 rfl) ?_
      refine lv_iload hx hb dL_law_425 (lv_at hl 5 rfl) ?_
      refine lv_iconst (v := (1 : Int32)) hx hb dL_law_427 (by decide) ?_
      refine lv_iadd hx hb dL_law_428 ?_
      refine va_sld hx hb hXs hbl hbA hw.2.2.1 (i := (i + (1 : Int32))) hv1 dL_law_429 ?_
      refine lv_aload_n hx hb dL_law_430 rfl (lv_at hl 1 rfl) ?_
      refine lv_iload hx hb dL_law_431 (lv_at hl 5 rfl) ?_
      refine lv_iconst (v := (2 : Int32)) hx hb dL_law_433 (by decide) ?_
      refine lv_iadd hx hb dL_law_434 ?_
      refine va_sld hx hb hXs hbl hbA hw.2.2.1 (i := (i + (2 : Int32))) hv2 dL_law_435 ?_
      refine lv_aload_n hx hb dL_law_436 rfl (lv_at hl 1 rfl) ?_
      refine lv_iload hx hb dL_law_437 (lv_at hl 5 rfl) ?_
      refine lv_iconst (v := (3 : Int32)) hx hb dL_law_439 (by decide) ?_
      refine lv_iadd hx hb dL_law_440 ?_
      refine va_sld hx hb hXs hbl hbA hw.2.2.1 (i := (i + (3 : Int32))) hv3 dL_law_441 ?_
      refine lv_if_eq (tgt := 449) hx hb dL_law_442 (by decide) (fun c9 => absurd c9 kb1) (fun c9 => ?_)
      refine lv_iconst (v := (1 : Int32)) hx hb dL_law_445 (by decide) ?_
      refine lv_goto (tgt := 450) hx hb dL_law_446 (by decide) ?_
      refine lv_aload_n hx hb dL_law_450 rfl (lv_at hl 1 rfl) ?_
      refine lv_iload hx hb dL_law_451 (lv_at hl 5 rfl) ?_
      refine lv_iconst (v := (4 : Int32)) hx hb dL_law_453 (by decide) ?_
      refine lv_iadd hx hb dL_law_454 ?_
      refine va_sld hx hb hXs hbl hbA hw.2.2.1 (i := (i + (4 : Int32))) hv4 dL_law_455 ?_
      refine lv_if_eq (tgt := 463) hx hb dL_law_456 (by decide) (fun c9 => absurd c9 kb7) (fun c9 => ?_)
      refine lv_iconst (v := (1 : Int32)) hx hb dL_law_459 (by decide) ?_
      refine lv_goto (tgt := 464) hx hb dL_law_460 (by decide) ?_
      refine M_calli hw (LZ_MA hw) (va_runV (own := "LeastreaderLaw") (As := [.int (xs (i + (1 : Int32)).toNatClampNeg), .int (xs (i + (2 : Int32)).toNatClampNeg), .int (1 : Int32), .int (1 : Int32)]) (rest := []) ⟨hx, hb, hml, hown, ht⟩ (c_X11_mark ν H.size (xs (i + (1 : Int32)).toNatClampNeg) (xs (i + (2 : Int32)).toNatClampNeg) (1 : Int32) (1 : Int32) hq10) (cwV 4 ht (G_V q_1388 q_1389 q_1390 q_56 q_1391) rfl rfl rfl ⟨rfl, vd_34⟩ ⟨Nat.le_of_ble_eq_true rfl, Nat.le_of_ble_eq_true rfl⟩) ⟨MB.blind, M_recv hg.2.1 hw, MB.pre hg.2.1 hJ hw va_P0 ne0⟩ rfl rfl hl.1 rfl (lv_room (Nat.le_of_ble_eq_true rfl)) dL_law_464 ⟨show cv + 2 + 0 ≤ 600128 by omega, show sv + 12 + 0 ≤ 7301098 by omega⟩) (fun r11 ν11 H locs hf11 hw => ?_)
      refine lv_istore (lv' := [(6, .int r11), (5, .int r10), (0, .ref b), (1, .ref (ad 0)), (2, .ref (bd 0)), (3, .ref q), (4, .int i)]) hx hb dL_law_467 hl (by decide) rfl (fun ls hl => ?_)
      refine lv_goto (tgt := 1572) hx hb dL_law_469 (by decide) ?_
      refine W.widen (show cv + 2 + 0 ≤ cv + 2000 by omega) (show sv + 12 + 0 ≤ sv + 112000 by omega) ?_
      exact hJ3 μ10 ν11 nv10 sw10 H locs ls hf11 hw (lv_sub hl [2, 3, 4, 5, 6] rfl)
set_option maxHeartbeats 4000000 in
set_option maxRecDepth 100000 in
theorem law_4 {p : Program} {l : Launch} {e : Env} {s : State} {m : MethodId} {b : Nat} {below : List Frame} {meth : Method} {c : Code} {L : Nat} {xs : Nat → Int32} {D : va_G} {ad bd : Nat → Nat} {cI cL cM cB : ClassId} {q : Nat} {Z : State → Prop} {JI : TMem → TMem → Prop} {i : Int32} {cv sv : Nat} (hRI : ∀ {μ ν : TMem}, JI μ ν → RI ν) (hGM : GM_sow JI) (C0 : LC p l s m b c L xs D ad bd cI cL cM cB) (hi : 0 ≤ i.toInt) (hiL : i.toInt + 6 ≤ L) (hcv : cv + 2000 ≤ 600128) (hsv : sv + 112000 ≤ 7301098) (hJ3 : LJ p l e s m b below meth c D ad bd cI cM q Z JI i (cv + 2000) (sv + 112000) 1572) : LJ p l e s m b below meth c D ad bd cI cM q Z JI i cv sv 472 := by
  obtain ⟨hx, hb, hml, hown, ht, hg, hI, hJ, hXs, hbl, hst, hL⟩ := C0
  have hN : NW s := hg.2.2.2.2.1
  have hbA : ¬ SA s.heap.size b := Nat.not_le.mpr hbl
  intro μ ν nv sw H locs ls hJI hw hl
  have hi1 : (i + (1 : Int32)).toInt = i.toInt + 1 := ii_a rfl (show (1 : Int32).toInt = 1 from rfl) (by omega) (by omega)
  have hi2 : (i + (2 : Int32)).toInt = i.toInt + 2 := ii_a rfl (show (2 : Int32).toInt = 2 from rfl) (by omega) (by omega)
  have hi3 : (i + (3 : Int32)).toInt = i.toInt + 3 := ii_a rfl (show (3 : Int32).toInt = 3 from rfl) (by omega) (by omega)
  have hi4 : (i + (4 : Int32)).toInt = i.toInt + 4 := ii_a rfl (show (4 : Int32).toInt = 4 from rfl) (by omega) (by omega)
  have hi5 : (i + (5 : Int32)).toInt = i.toInt + 5 := ii_a rfl (show (5 : Int32).toInt = 5 from rfl) (by omega) (by omega)
  have hv0 : vp_in i L := vin (by omega)
  have hv1 : vp_in (i + (1 : Int32)) L := vin (by omega)
  have hv2 : vp_in (i + (2 : Int32)) L := vin (by omega)
  have hv3 : vp_in (i + (3 : Int32)) L := vin (by omega)
  have hv4 : vp_in (i + (4 : Int32)) L := vin (by omega)
  have hv5 : vp_in (i + (5 : Int32)) L := vin (by omega)
  refine lv_aload_n hx hb dL_law_472 rfl (lv_at hl 1 rfl) ?_
  refine lv_aload_n hx hb dL_law_473 rfl (lv_at hl 0 rfl) ?_
  refine lv_iload hx hb dL_law_474 (lv_at hl 4 rfl) ?_
  refine lv_iconst (v := (1 : Int32)) hx hb dL_law_476 (by decide) ?_
  refine lv_iadd hx hb dL_law_477 ?_
  refine va_sld hx hb hXs hbl hbA hw.2.2.1 (i := (i + (1 : Int32))) hv1 dL_law_478 ?_
  refine lv_aload_n hx hb dL_law_479 rfl (lv_at hl 0 rfl) ?_
  refine lv_iload hx hb dL_law_480 (lv_at hl 4 rfl) ?_
  refine lv_iconst (v := (2 : Int32)) hx hb dL_law_482 (by decide) ?_
  refine lv_iadd hx hb dL_law_483 ?_
  refine va_sld hx hb hXs hbl hbA hw.2.2.1 (i := (i + (2 : Int32))) hv2 dL_law_484 ?_
  refine lv_aload_n hx hb dL_law_485 rfl (lv_at hl 0 rfl) ?_
  refine lv_iload hx hb dL_law_486 (lv_at hl 4 rfl) ?_
  refine lv_iconst (v := (3 : Int32)) hx hb dL_law_488 (by decide) ?_
  refine lv_iadd hx hb dL_law_489 ?_
  refine va_sld hx hb hXs hbl hbA hw.2.2.1 (i := (i + (3 : Int32))) hv3 dL_law_490 ?_
  refine lv_aload_n hx hb dL_law_491 rfl (lv_at hl 0 rfl) ?_
  refine lv_iload hx hb dL_law_492 (lv_at hl 4 rfl) ?_
  refine lv_iconst (v := (4 : Int32)) hx hb dL_law_494 (by decide) ?_
  refine lv_iadd hx hb dL_law_495 ?_
  refine va_sld hx hb hXs hbl hbA hw.2.2.1 (i := (i + (4 : Int32))) hv4 dL_law_496 ?_
  refine lv_aload_n hx hb dL_law_497 rfl (lv_at hl 3 rfl) ?_
  refine LL_call hw hI (vx_runSX (own := "LeastreaderLaw") (As := [.ref (ad 0), .int (xs (i + (1 : Int32)).toNatClampNeg), .int (xs (i + (2 : Int32)).toNatClampNeg), .int (xs (i + (3 : Int32)).toNatClampNeg), .int (xs (i + (4 : Int32)).toNatClampNeg), .ref q]) (rest := []) ⟨hx, hb, hml, hown, ht⟩ (c_L_sow hst q nv sw μ H.size (xs (i + (1 : Int32)).toNatClampNeg) (xs (i + (2 : Int32)).toNatClampNeg) (xs (i + (3 : Int32)).toNatClampNeg) (xs (i + (4 : Int32)).toNatClampNeg) (PW := fun k u => RW_sow JI ν (xs (i + (1 : Int32)).toNatClampNeg) (xs (i + (2 : Int32)).toNatClampNeg) (xs (i + (3 : Int32)).toNatClampNeg) (xs (i + (4 : Int32)).toNatClampNeg) k u.2.1 u.1) (hGM μ ν nv (xs (i + (1 : Int32)).toNatClampNeg) (xs (i + (2 : Int32)).toNatClampNeg) (xs (i + (3 : Int32)).toNatClampNeg) (xs (i + (4 : Int32)).toNatClampNeg) hJI)) (vx_cwSW 6 ht (G_S q_659 q_660 q_45 q_661) rfl rfl rfl vd_35 ⟨Nat.le_of_ble_eq_true rfl, Nat.le_of_ble_eq_true rfl⟩) ⟨LB.blind, hg.lb hI hw⟩ rfl rfl hl.1 rfl (lv_room (Nat.le_of_ble_eq_true rfl)) dL_law_498 ⟨show cv + 4 ≤ 600128 by omega, show sv + 24 ≤ 7301098 by omega⟩) (fun r1 μ1 nv1 sw1 H locs hq1 hw => ?_)
  refine lv_istore (lv' := [(5, .int r1), (0, .ref b), (1, .ref (ad 0)), (2, .ref (bd 0)), (3, .ref q), (4, .int i)]) hx hb dL_law_501 hl (by decide) rfl (fun ls hl => ?_)
  refine lv_aload_n hx hb dL_law_503 rfl (lv_at hl 3 rfl) ?_
  refine lv_aload_n hx hb dL_law_504 rfl (lv_at hl 1 rfl) ?_
  refine lv_iload hx hb dL_law_505 (lv_at hl 5 rfl) ?_
  refine lv_iconst (v := (1 : Int32)) hx hb dL_law_507 (by decide) ?_
  refine lv_iadd hx hb dL_law_508 ?_
  refine va_sld hx hb hXs hbl hbA hw.2.2.1 (i := (i + (1 : Int32))) hv1 dL_law_509 ?_
  refine lv_aload_n hx hb dL_law_510 rfl (lv_at hl 1 rfl) ?_
  refine lv_iload hx hb dL_law_511 (lv_at hl 5 rfl) ?_
  refine lv_iconst (v := (2 : Int32)) hx hb dL_law_513 (by decide) ?_
  refine lv_iadd hx hb dL_law_514 ?_
  refine va_sld hx hb hXs hbl hbA hw.2.2.1 (i := (i + (2 : Int32))) hv2 dL_law_515 ?_
  refine lv_aload_n hx hb dL_law_516 rfl (lv_at hl 1 rfl) ?_
  refine lv_iload hx hb dL_law_517 (lv_at hl 5 rfl) ?_
  refine lv_iconst (v := (3 : Int32)) hx hb dL_law_519 (by decide) ?_
  refine lv_iadd hx hb dL_law_520 ?_
  refine va_sld hx hb hXs hbl hbA hw.2.2.1 (i := (i + (3 : Int32))) hv3 dL_law_521 ?_
  refine lv_aload_n hx hb dL_law_522 rfl (lv_at hl 1 rfl) ?_
  refine lv_iload hx hb dL_law_523 (lv_at hl 5 rfl) ?_
  refine lv_iconst (v := (4 : Int32)) hx hb dL_law_525 (by decide) ?_
  refine lv_iadd hx hb dL_law_526 ?_
  refine va_sld hx hb hXs hbl hbA hw.2.2.1 (i := (i + (4 : Int32))) hv4 dL_law_527 ?_
  refine M_calli hw (LZ_MA hw) (va_runV (own := "LeastreaderLaw") (As := [.int (xs (i + (1 : Int32)).toNatClampNeg), .int (xs (i + (2 : Int32)).toNatClampNeg), .int (xs (i + (3 : Int32)).toNatClampNeg), .int (xs (i + (4 : Int32)).toNatClampNeg)]) (rest := []) ⟨hx, hb, hml, hown, ht⟩ (c_X11_sow ν H.size (xs (i + (1 : Int32)).toNatClampNeg) (xs (i + (2 : Int32)).toNatClampNeg) (xs (i + (3 : Int32)).toNatClampNeg) (xs (i + (4 : Int32)).toNatClampNeg) hq1) (cwV 4 ht (G_V q_1392 q_1393 q_1394 q_56 q_1395) rfl rfl rfl ⟨rfl, vd_36⟩ ⟨Nat.le_of_ble_eq_true rfl, Nat.le_of_ble_eq_true rfl⟩) ⟨MB.blind, M_recv hg.2.1 hw, MB.pre hg.2.1 hJ hw va_P0 ne0⟩ rfl rfl hl.1 rfl (lv_room (Nat.le_of_ble_eq_true rfl)) dL_law_528 ⟨show cv + 4 + 0 ≤ 600128 by omega, show sv + 24 + 0 ≤ 7301098 by omega⟩) (fun r2 ν2 H locs hf2 hw => ?_)
  refine lv_istore (lv' := [(6, .int r2), (5, .int r1), (0, .ref b), (1, .ref (ad 0)), (2, .ref (bd 0)), (3, .ref q), (4, .int i)]) hx hb dL_law_531 hl (by decide) rfl (fun ls hl => ?_)
  refine lv_goto (tgt := 1572) hx hb dL_law_533 (by decide) ?_
  refine W.widen (show cv + 4 + 0 ≤ cv + 2000 by omega) (show sv + 24 + 0 ≤ sv + 112000 by omega) ?_
  exact hJ3 μ1 ν2 nv1 sw1 H locs ls hf2 hw (lv_sub hl [2, 3, 4, 5, 6] rfl)
set_option maxHeartbeats 4000000 in
set_option maxRecDepth 100000 in
theorem law_5 {p : Program} {l : Launch} {e : Env} {s : State} {m : MethodId} {b : Nat} {below : List Frame} {meth : Method} {c : Code} {L : Nat} {xs : Nat → Int32} {D : va_G} {ad bd : Nat → Nat} {cI cL cM cB : ClassId} {q : Nat} {Z : State → Prop} {JI : TMem → TMem → Prop} {i : Int32} {cv sv : Nat} (hRI : ∀ {μ ν : TMem}, JI μ ν → RI ν) (hGM : GM_copy JI) (C0 : LC p l s m b c L xs D ad bd cI cL cM cB) (hi : 0 ≤ i.toInt) (hiL : i.toInt + 6 ≤ L) (hcv : cv + 2000 ≤ 600128) (hsv : sv + 112000 ≤ 7301098) (hJ3 : LJ p l e s m b below meth c D ad bd cI cM q Z JI i (cv + 2000) (sv + 112000) 1572) : LJ p l e s m b below meth c D ad bd cI cM q Z JI i cv sv 536 := by
  obtain ⟨hx, hb, hml, hown, ht, hg, hI, hJ, hXs, hbl, hst, hL⟩ := C0
  have hN : NW s := hg.2.2.2.2.1
  have hbA : ¬ SA s.heap.size b := Nat.not_le.mpr hbl
  intro μ ν nv sw H locs ls hJI hw hl
  have hi1 : (i + (1 : Int32)).toInt = i.toInt + 1 := ii_a rfl (show (1 : Int32).toInt = 1 from rfl) (by omega) (by omega)
  have hi2 : (i + (2 : Int32)).toInt = i.toInt + 2 := ii_a rfl (show (2 : Int32).toInt = 2 from rfl) (by omega) (by omega)
  have hi3 : (i + (3 : Int32)).toInt = i.toInt + 3 := ii_a rfl (show (3 : Int32).toInt = 3 from rfl) (by omega) (by omega)
  have hi4 : (i + (4 : Int32)).toInt = i.toInt + 4 := ii_a rfl (show (4 : Int32).toInt = 4 from rfl) (by omega) (by omega)
  have hi5 : (i + (5 : Int32)).toInt = i.toInt + 5 := ii_a rfl (show (5 : Int32).toInt = 5 from rfl) (by omega) (by omega)
  have hv0 : vp_in i L := vin (by omega)
  have hv1 : vp_in (i + (1 : Int32)) L := vin (by omega)
  have hv2 : vp_in (i + (2 : Int32)) L := vin (by omega)
  have hv3 : vp_in (i + (3 : Int32)) L := vin (by omega)
  have hv4 : vp_in (i + (4 : Int32)) L := vin (by omega)
  have hv5 : vp_in (i + (5 : Int32)) L := vin (by omega)
  refine lv_aload_n hx hb dL_law_536 rfl (lv_at hl 1 rfl) ?_
  refine lv_aload_n hx hb dL_law_537 rfl (lv_at hl 0 rfl) ?_
  refine lv_iload hx hb dL_law_538 (lv_at hl 4 rfl) ?_
  refine lv_iconst (v := (1 : Int32)) hx hb dL_law_540 (by decide) ?_
  refine lv_iadd hx hb dL_law_541 ?_
  refine va_sld hx hb hXs hbl hbA hw.2.2.1 (i := (i + (1 : Int32))) hv1 dL_law_542 ?_
  refine lv_aload_n hx hb dL_law_543 rfl (lv_at hl 0 rfl) ?_
  refine lv_iload hx hb dL_law_544 (lv_at hl 4 rfl) ?_
  refine lv_iconst (v := (2 : Int32)) hx hb dL_law_546 (by decide) ?_
  refine lv_iadd hx hb dL_law_547 ?_
  refine va_sld hx hb hXs hbl hbA hw.2.2.1 (i := (i + (2 : Int32))) hv2 dL_law_548 ?_
  refine lv_aload_n hx hb dL_law_549 rfl (lv_at hl 3 rfl) ?_
  refine LL_call hw hI (vx_runSX (own := "LeastreaderLaw") (As := [.ref (ad 0), .int (xs (i + (1 : Int32)).toNatClampNeg), .int (xs (i + (2 : Int32)).toNatClampNeg), .ref q]) (rest := []) ⟨hx, hb, hml, hown, ht⟩ (c_L_copy hst q nv sw μ H.size (xs (i + (1 : Int32)).toNatClampNeg) (xs (i + (2 : Int32)).toNatClampNeg) (PW := fun k u => RW_copy JI ν (xs (i + (1 : Int32)).toNatClampNeg) (xs (i + (2 : Int32)).toNatClampNeg) k u.2.1 u.1) (hGM μ ν nv (xs (i + (1 : Int32)).toNatClampNeg) (xs (i + (2 : Int32)).toNatClampNeg) hJI)) (vx_cwSW 4 ht (G_S q_692 q_693 q_45 q_694) rfl rfl rfl vd_37 ⟨Nat.le_of_ble_eq_true rfl, Nat.le_of_ble_eq_true rfl⟩) ⟨LB.blind, hg.lb hI hw⟩ rfl rfl hl.1 rfl (lv_room (Nat.le_of_ble_eq_true rfl)) dL_law_550 ⟨show cv + 2 ≤ 600128 by omega, show sv + 12 ≤ 7301098 by omega⟩) (fun r1 μ1 nv1 sw1 H locs hq1 hw => ?_)
  refine lv_istore (lv' := [(5, .int r1), (0, .ref b), (1, .ref (ad 0)), (2, .ref (bd 0)), (3, .ref q), (4, .int i)]) hx hb dL_law_553 hl (by decide) rfl (fun ls hl => ?_)
  refine lv_aload_n hx hb dL_law_555 rfl (lv_at hl 3 rfl) ?_
  refine lv_aload_n hx hb dL_law_556 rfl (lv_at hl 1 rfl) ?_
  refine lv_iload hx hb dL_law_557 (lv_at hl 5 rfl) ?_
  refine lv_iconst (v := (1 : Int32)) hx hb dL_law_559 (by decide) ?_
  refine lv_iadd hx hb dL_law_560 ?_
  refine va_sld hx hb hXs hbl hbA hw.2.2.1 (i := (i + (1 : Int32))) hv1 dL_law_561 ?_
  refine lv_aload_n hx hb dL_law_562 rfl (lv_at hl 1 rfl) ?_
  refine lv_iload hx hb dL_law_563 (lv_at hl 5 rfl) ?_
  refine lv_iconst (v := (2 : Int32)) hx hb dL_law_565 (by decide) ?_
  refine lv_iadd hx hb dL_law_566 ?_
  refine va_sld hx hb hXs hbl hbA hw.2.2.1 (i := (i + (2 : Int32))) hv2 dL_law_567 ?_
  refine M_calli hw (LZ_MA hw) (va_runV (own := "LeastreaderLaw") (As := [.int (xs (i + (1 : Int32)).toNatClampNeg), .int (xs (i + (2 : Int32)).toNatClampNeg)]) (rest := []) ⟨hx, hb, hml, hown, ht⟩ (c_X11_copy ν H.size (xs (i + (1 : Int32)).toNatClampNeg) (xs (i + (2 : Int32)).toNatClampNeg) hq1) (cwV 2 ht (G_V q_1398 q_1399 q_1400 q_56 q_1401) rfl rfl rfl ⟨rfl, vd_38⟩ ⟨Nat.le_of_ble_eq_true rfl, Nat.le_of_ble_eq_true rfl⟩) ⟨MB.blind, M_recv hg.2.1 hw, MB.pre hg.2.1 hJ hw va_P0 ne0⟩ rfl rfl hl.1 rfl (lv_room (Nat.le_of_ble_eq_true rfl)) dL_law_568 ⟨show cv + 2 + 0 ≤ 600128 by omega, show sv + 12 + 0 ≤ 7301098 by omega⟩) (fun r2 ν2 H locs hf2 hw => ?_)
  refine lv_istore (lv' := [(6, .int r2), (5, .int r1), (0, .ref b), (1, .ref (ad 0)), (2, .ref (bd 0)), (3, .ref q), (4, .int i)]) hx hb dL_law_571 hl (by decide) rfl (fun ls hl => ?_)
  refine lv_goto (tgt := 1572) hx hb dL_law_573 (by decide) ?_
  refine W.widen (show cv + 2 + 0 ≤ cv + 2000 by omega) (show sv + 12 + 0 ≤ sv + 112000 by omega) ?_
  exact hJ3 μ1 ν2 nv1 sw1 H locs ls hf2 hw (lv_sub hl [2, 3, 4, 5, 6] rfl)
set_option maxHeartbeats 4000000 in
set_option maxRecDepth 100000 in
theorem law_6 {p : Program} {l : Launch} {e : Env} {s : State} {m : MethodId} {b : Nat} {below : List Frame} {meth : Method} {c : Code} {L : Nat} {xs : Nat → Int32} {D : va_G} {ad bd : Nat → Nat} {cI cL cM cB : ClassId} {q : Nat} {Z : State → Prop} {JI : TMem → TMem → Prop} {i : Int32} {cv sv : Nat} (hRI : ∀ {μ ν : TMem}, JI μ ν → RI ν) (hGM : GM_swap JI) (C0 : LC p l s m b c L xs D ad bd cI cL cM cB) (hi : 0 ≤ i.toInt) (hiL : i.toInt + 6 ≤ L) (hcv : cv + 2000 ≤ 600128) (hsv : sv + 112000 ≤ 7301098) (hJ3 : LJ p l e s m b below meth c D ad bd cI cM q Z JI i (cv + 2000) (sv + 112000) 1572) : LJ p l e s m b below meth c D ad bd cI cM q Z JI i cv sv 576 := by
  obtain ⟨hx, hb, hml, hown, ht, hg, hI, hJ, hXs, hbl, hst, hL⟩ := C0
  have hN : NW s := hg.2.2.2.2.1
  have hbA : ¬ SA s.heap.size b := Nat.not_le.mpr hbl
  intro μ ν nv sw H locs ls hJI hw hl
  have hi1 : (i + (1 : Int32)).toInt = i.toInt + 1 := ii_a rfl (show (1 : Int32).toInt = 1 from rfl) (by omega) (by omega)
  have hi2 : (i + (2 : Int32)).toInt = i.toInt + 2 := ii_a rfl (show (2 : Int32).toInt = 2 from rfl) (by omega) (by omega)
  have hi3 : (i + (3 : Int32)).toInt = i.toInt + 3 := ii_a rfl (show (3 : Int32).toInt = 3 from rfl) (by omega) (by omega)
  have hi4 : (i + (4 : Int32)).toInt = i.toInt + 4 := ii_a rfl (show (4 : Int32).toInt = 4 from rfl) (by omega) (by omega)
  have hi5 : (i + (5 : Int32)).toInt = i.toInt + 5 := ii_a rfl (show (5 : Int32).toInt = 5 from rfl) (by omega) (by omega)
  have hv0 : vp_in i L := vin (by omega)
  have hv1 : vp_in (i + (1 : Int32)) L := vin (by omega)
  have hv2 : vp_in (i + (2 : Int32)) L := vin (by omega)
  have hv3 : vp_in (i + (3 : Int32)) L := vin (by omega)
  have hv4 : vp_in (i + (4 : Int32)) L := vin (by omega)
  have hv5 : vp_in (i + (5 : Int32)) L := vin (by omega)
  refine lv_aload_n hx hb dL_law_576 rfl (lv_at hl 1 rfl) ?_
  refine lv_aload_n hx hb dL_law_577 rfl (lv_at hl 0 rfl) ?_
  refine lv_iload hx hb dL_law_578 (lv_at hl 4 rfl) ?_
  refine lv_iconst (v := (1 : Int32)) hx hb dL_law_580 (by decide) ?_
  refine lv_iadd hx hb dL_law_581 ?_
  refine va_sld hx hb hXs hbl hbA hw.2.2.1 (i := (i + (1 : Int32))) hv1 dL_law_582 ?_
  refine lv_aload_n hx hb dL_law_583 rfl (lv_at hl 0 rfl) ?_
  refine lv_iload hx hb dL_law_584 (lv_at hl 4 rfl) ?_
  refine lv_iconst (v := (2 : Int32)) hx hb dL_law_586 (by decide) ?_
  refine lv_iadd hx hb dL_law_587 ?_
  refine va_sld hx hb hXs hbl hbA hw.2.2.1 (i := (i + (2 : Int32))) hv2 dL_law_588 ?_
  refine lv_aload_n hx hb dL_law_589 rfl (lv_at hl 3 rfl) ?_
  refine LL_call hw hI (vx_runSX (own := "LeastreaderLaw") (As := [.ref (ad 0), .int (xs (i + (1 : Int32)).toNatClampNeg), .int (xs (i + (2 : Int32)).toNatClampNeg), .ref q]) (rest := []) ⟨hx, hb, hml, hown, ht⟩ (c_L_swap hst q nv sw μ H.size (xs (i + (1 : Int32)).toNatClampNeg) (xs (i + (2 : Int32)).toNatClampNeg) (PW := fun k u => RW_swap JI ν (xs (i + (1 : Int32)).toNatClampNeg) (xs (i + (2 : Int32)).toNatClampNeg) k u.2.1 u.1) (hGM μ ν nv (xs (i + (1 : Int32)).toNatClampNeg) (xs (i + (2 : Int32)).toNatClampNeg) hJI)) (vx_cwSW 4 ht (G_S q_710 q_711 q_45 q_712) rfl rfl rfl vd_39 ⟨Nat.le_of_ble_eq_true rfl, Nat.le_of_ble_eq_true rfl⟩) ⟨LB.blind, hg.lb hI hw⟩ rfl rfl hl.1 rfl (lv_room (Nat.le_of_ble_eq_true rfl)) dL_law_590 ⟨show cv + 2 ≤ 600128 by omega, show sv + 12 ≤ 7301098 by omega⟩) (fun r1 μ1 nv1 sw1 H locs hq1 hw => ?_)
  refine lv_istore (lv' := [(5, .int r1), (0, .ref b), (1, .ref (ad 0)), (2, .ref (bd 0)), (3, .ref q), (4, .int i)]) hx hb dL_law_593 hl (by decide) rfl (fun ls hl => ?_)
  refine lv_aload_n hx hb dL_law_595 rfl (lv_at hl 3 rfl) ?_
  refine lv_aload_n hx hb dL_law_596 rfl (lv_at hl 1 rfl) ?_
  refine lv_iload hx hb dL_law_597 (lv_at hl 5 rfl) ?_
  refine lv_iconst (v := (1 : Int32)) hx hb dL_law_599 (by decide) ?_
  refine lv_iadd hx hb dL_law_600 ?_
  refine va_sld hx hb hXs hbl hbA hw.2.2.1 (i := (i + (1 : Int32))) hv1 dL_law_601 ?_
  refine lv_aload_n hx hb dL_law_602 rfl (lv_at hl 1 rfl) ?_
  refine lv_iload hx hb dL_law_603 (lv_at hl 5 rfl) ?_
  refine lv_iconst (v := (2 : Int32)) hx hb dL_law_605 (by decide) ?_
  refine lv_iadd hx hb dL_law_606 ?_
  refine va_sld hx hb hXs hbl hbA hw.2.2.1 (i := (i + (2 : Int32))) hv2 dL_law_607 ?_
  refine M_calli hw (LZ_MA hw) (va_runV (own := "LeastreaderLaw") (As := [.int (xs (i + (1 : Int32)).toNatClampNeg), .int (xs (i + (2 : Int32)).toNatClampNeg)]) (rest := []) ⟨hx, hb, hml, hown, ht⟩ (c_X11_swap ν H.size (xs (i + (1 : Int32)).toNatClampNeg) (xs (i + (2 : Int32)).toNatClampNeg) hq1) (cwV 2 ht (G_V q_1406 q_1407 q_1408 q_56 q_1409) rfl rfl rfl ⟨rfl, vd_40⟩ ⟨Nat.le_of_ble_eq_true rfl, Nat.le_of_ble_eq_true rfl⟩) ⟨MB.blind, M_recv hg.2.1 hw, MB.pre hg.2.1 hJ hw va_P0 ne0⟩ rfl rfl hl.1 rfl (lv_room (Nat.le_of_ble_eq_true rfl)) dL_law_608 ⟨show cv + 2 + 0 ≤ 600128 by omega, show sv + 12 + 0 ≤ 7301098 by omega⟩) (fun r2 ν2 H locs hf2 hw => ?_)
  refine lv_istore (lv' := [(6, .int r2), (5, .int r1), (0, .ref b), (1, .ref (ad 0)), (2, .ref (bd 0)), (3, .ref q), (4, .int i)]) hx hb dL_law_611 hl (by decide) rfl (fun ls hl => ?_)
  refine lv_goto (tgt := 1572) hx hb dL_law_613 (by decide) ?_
  refine W.widen (show cv + 2 + 0 ≤ cv + 2000 by omega) (show sv + 12 + 0 ≤ sv + 112000 by omega) ?_
  exact hJ3 μ1 ν2 nv1 sw1 H locs ls hf2 hw (lv_sub hl [2, 3, 4, 5, 6] rfl)
set_option maxHeartbeats 4000000 in
set_option maxRecDepth 100000 in
theorem law_7 {p : Program} {l : Launch} {e : Env} {s : State} {m : MethodId} {b : Nat} {below : List Frame} {meth : Method} {c : Code} {L : Nat} {xs : Nat → Int32} {D : va_G} {ad bd : Nat → Nat} {cI cL cM cB : ClassId} {q : Nat} {Z : State → Prop} {JI : TMem → TMem → Prop} {i : Int32} {cv sv : Nat} (hRI : ∀ {μ ν : TMem}, JI μ ν → RI ν) (hGM : GM_turn JI) (C0 : LC p l s m b c L xs D ad bd cI cL cM cB) (hi : 0 ≤ i.toInt) (hiL : i.toInt + 6 ≤ L) (hcv : cv + 2000 ≤ 600128) (hsv : sv + 112000 ≤ 7301098) (hJ3 : LJ p l e s m b below meth c D ad bd cI cM q Z JI i (cv + 2000) (sv + 112000) 1572) : LJ p l e s m b below meth c D ad bd cI cM q Z JI i cv sv 616 := by
  obtain ⟨hx, hb, hml, hown, ht, hg, hI, hJ, hXs, hbl, hst, hL⟩ := C0
  have hN : NW s := hg.2.2.2.2.1
  have hbA : ¬ SA s.heap.size b := Nat.not_le.mpr hbl
  intro μ ν nv sw H locs ls hJI hw hl
  have hi1 : (i + (1 : Int32)).toInt = i.toInt + 1 := ii_a rfl (show (1 : Int32).toInt = 1 from rfl) (by omega) (by omega)
  have hi2 : (i + (2 : Int32)).toInt = i.toInt + 2 := ii_a rfl (show (2 : Int32).toInt = 2 from rfl) (by omega) (by omega)
  have hi3 : (i + (3 : Int32)).toInt = i.toInt + 3 := ii_a rfl (show (3 : Int32).toInt = 3 from rfl) (by omega) (by omega)
  have hi4 : (i + (4 : Int32)).toInt = i.toInt + 4 := ii_a rfl (show (4 : Int32).toInt = 4 from rfl) (by omega) (by omega)
  have hi5 : (i + (5 : Int32)).toInt = i.toInt + 5 := ii_a rfl (show (5 : Int32).toInt = 5 from rfl) (by omega) (by omega)
  have hv0 : vp_in i L := vin (by omega)
  have hv1 : vp_in (i + (1 : Int32)) L := vin (by omega)
  have hv2 : vp_in (i + (2 : Int32)) L := vin (by omega)
  have hv3 : vp_in (i + (3 : Int32)) L := vin (by omega)
  have hv4 : vp_in (i + (4 : Int32)) L := vin (by omega)
  have hv5 : vp_in (i + (5 : Int32)) L := vin (by omega)
  refine lv_aload_n hx hb dL_law_616 rfl (lv_at hl 1 rfl) ?_
  refine lv_aload_n hx hb dL_law_617 rfl (lv_at hl 0 rfl) ?_
  refine lv_iload hx hb dL_law_618 (lv_at hl 4 rfl) ?_
  refine lv_iconst (v := (1 : Int32)) hx hb dL_law_620 (by decide) ?_
  refine lv_iadd hx hb dL_law_621 ?_
  refine va_sld hx hb hXs hbl hbA hw.2.2.1 (i := (i + (1 : Int32))) hv1 dL_law_622 ?_
  refine lv_aload_n hx hb dL_law_623 rfl (lv_at hl 3 rfl) ?_
  refine LL_call hw hI (vx_runSX (own := "LeastreaderLaw") (As := [.ref (ad 0), .int (xs (i + (1 : Int32)).toNatClampNeg), .ref q]) (rest := []) ⟨hx, hb, hml, hown, ht⟩ (c_L_turn hst q nv sw μ H.size (xs (i + (1 : Int32)).toNatClampNeg) (PW := fun k u => RW_turn JI ν (xs (i + (1 : Int32)).toNatClampNeg) k u.2.1 u.1) (hGM μ ν nv (xs (i + (1 : Int32)).toNatClampNeg) hJI)) (vx_cwSW 3 ht (G_S q_717 q_718 q_45 q_719) rfl rfl rfl vd_41 ⟨Nat.le_of_ble_eq_true rfl, Nat.le_of_ble_eq_true rfl⟩) ⟨LB.blind, hg.lb hI hw⟩ rfl rfl hl.1 rfl (lv_room (Nat.le_of_ble_eq_true rfl)) dL_law_624 ⟨show cv + 1 ≤ 600128 by omega, show sv + 6 ≤ 7301098 by omega⟩) (fun r1 μ1 nv1 sw1 H locs hq1 hw => ?_)
  refine lv_istore (lv' := [(5, .int r1), (0, .ref b), (1, .ref (ad 0)), (2, .ref (bd 0)), (3, .ref q), (4, .int i)]) hx hb dL_law_627 hl (by decide) rfl (fun ls hl => ?_)
  refine lv_aload_n hx hb dL_law_629 rfl (lv_at hl 3 rfl) ?_
  refine lv_aload_n hx hb dL_law_630 rfl (lv_at hl 1 rfl) ?_
  refine lv_iload hx hb dL_law_631 (lv_at hl 5 rfl) ?_
  refine lv_iconst (v := (1 : Int32)) hx hb dL_law_633 (by decide) ?_
  refine lv_iadd hx hb dL_law_634 ?_
  refine va_sld hx hb hXs hbl hbA hw.2.2.1 (i := (i + (1 : Int32))) hv1 dL_law_635 ?_
  refine M_calli hw (LZ_MA hw) (va_runV (own := "LeastreaderLaw") (As := [.int (xs (i + (1 : Int32)).toNatClampNeg)]) (rest := []) ⟨hx, hb, hml, hown, ht⟩ (c_X11_turn ν H.size (xs (i + (1 : Int32)).toNatClampNeg) hq1) (cwV 1 ht (G_V q_1413 q_1414 q_1415 q_56 q_1416) rfl rfl rfl ⟨rfl, vd_42⟩ ⟨Nat.le_of_ble_eq_true rfl, Nat.le_of_ble_eq_true rfl⟩) ⟨MB.blind, M_recv hg.2.1 hw, MB.pre hg.2.1 hJ hw va_P0 ne0⟩ rfl rfl hl.1 rfl (lv_room (Nat.le_of_ble_eq_true rfl)) dL_law_636 ⟨show cv + 1 + 1 ≤ 600128 by omega, show sv + 6 + 21 ≤ 7301098 by omega⟩) (fun r2 ν2 H locs hf2 hw => ?_)
  refine lv_istore (lv' := [(6, .int r2), (5, .int r1), (0, .ref b), (1, .ref (ad 0)), (2, .ref (bd 0)), (3, .ref q), (4, .int i)]) hx hb dL_law_639 hl (by decide) rfl (fun ls hl => ?_)
  refine lv_aload_n hx hb dL_law_641 rfl (lv_at hl 4 rfl) ?_
  refine M_calli hw (LZ_MA hw) (va_runV (own := "LeastreaderLaw") (As := []) (rest := []) ⟨hx, hb, hml, hown, ht⟩ (c_X11_thrown ν2 H.size (Q := fun r => r = ν2 0 7) rfl) (cwV 0 ht (G_V q_1338 q_1339 q_1340 q_56 q_1341) rfl rfl rfl ⟨rfl, vd_43⟩ ⟨Nat.le_of_ble_eq_true rfl, Nat.le_of_ble_eq_true rfl⟩) ⟨MB.blind, M_recv hg.2.1 hw, MB.pre hg.2.1 hJ hw va_P0 ne0⟩ rfl rfl hl.1 rfl (lv_room (Nat.le_of_ble_eq_true rfl)) dL_law_642 ⟨show cv + 1 + 1 + 0 ≤ 600128 by omega, show sv + 6 + 21 + 0 ≤ 7301098 by omega⟩) (fun r3 ν3 H locs hf3 hw => ?_)
  rw [hf3.1] at hw
  refine lv_iload hx hb dL_law_645 (lv_at hl 1 rfl) ?_
  refine lv_icmp_eq (tgt := 652) hx hb dL_law_647 (by decide) (fun c9 => ?_) (fun c9 => absurd (hf3.2.trans hf2.2.1) c9)
  refine lv_iload hx hb dL_law_652 (lv_at hl 1 rfl) ?_
  refine lv_if_ne (tgt := 670) hx hb dL_law_654 (by decide) (fun c9 => ?_) (fun c9 => ?_)
  · refine lv_goto (tgt := 1572) hx hb dL_law_670 (by decide) ?_
    refine W.widen (show cv + 1 + 1 + 0 ≤ cv + 2000 by omega) (show sv + 6 + 21 + 0 ≤ sv + 112000 by omega) ?_
    exact hJ3 μ1 ν2 nv1 sw1 H locs ls hf2.1 hw (lv_sub hl [2, 3, 4, 5, 6] rfl)
  · have c0 := c9
    refine lv_aload_n hx hb dL_law_657 rfl (lv_at hl 5 rfl) ?_
    refine L_getn hx hb ht hown hN hg.1 hw dL_law_658 ?_
    refine lv_iload hx hb dL_law_661 (lv_at hl 0 rfl) ?_
    refine lv_i2l hx hb dL_law_663 rfl ?_
    refine W.lcmp hx hb dL_law_664 ?_
    refine lv_if_eq (tgt := 670) hx hb dL_law_665 (by decide) (fun _ => ?_) (fun c9 => absurd (LG_cmp (hf2.2.2 c0)) c9)
    refine lv_goto (tgt := 1572) hx hb dL_law_670 (by decide) ?_
    refine W.widen (show cv + 1 + 1 + 0 ≤ cv + 2000 by omega) (show sv + 6 + 21 + 0 ≤ sv + 112000 by omega) ?_
    exact hJ3 μ1 ν2 nv1 sw1 H locs ls hf2.1 hw (lv_sub hl [2, 3, 4, 5, 6] rfl)
set_option maxHeartbeats 4000000 in
set_option maxRecDepth 100000 in
theorem law_8 {p : Program} {l : Launch} {e : Env} {s : State} {m : MethodId} {b : Nat} {below : List Frame} {meth : Method} {c : Code} {L : Nat} {xs : Nat → Int32} {D : va_G} {ad bd : Nat → Nat} {cI cL cM cB : ClassId} {q : Nat} {Z : State → Prop} {JI : TMem → TMem → Prop} {i : Int32} {cv sv : Nat} (hRI : ∀ {μ ν : TMem}, JI μ ν → RI ν) (hGM : GM_other JI) (C0 : LC p l s m b c L xs D ad bd cI cL cM cB) (hi : 0 ≤ i.toInt) (hiL : i.toInt + 6 ≤ L) (hcv : cv + 2000 ≤ 600128) (hsv : sv + 112000 ≤ 7301098) (hJ3 : LJ p l e s m b below meth c D ad bd cI cM q Z JI i (cv + 2000) (sv + 112000) 1572) : LJ p l e s m b below meth c D ad bd cI cM q Z JI i cv sv 673 := by
  obtain ⟨hx, hb, hml, hown, ht, hg, hI, hJ, hXs, hbl, hst, hL⟩ := C0
  have hN : NW s := hg.2.2.2.2.1
  have hbA : ¬ SA s.heap.size b := Nat.not_le.mpr hbl
  intro μ ν nv sw H locs ls hJI hw hl
  have hi1 : (i + (1 : Int32)).toInt = i.toInt + 1 := ii_a rfl (show (1 : Int32).toInt = 1 from rfl) (by omega) (by omega)
  have hi2 : (i + (2 : Int32)).toInt = i.toInt + 2 := ii_a rfl (show (2 : Int32).toInt = 2 from rfl) (by omega) (by omega)
  have hi3 : (i + (3 : Int32)).toInt = i.toInt + 3 := ii_a rfl (show (3 : Int32).toInt = 3 from rfl) (by omega) (by omega)
  have hi4 : (i + (4 : Int32)).toInt = i.toInt + 4 := ii_a rfl (show (4 : Int32).toInt = 4 from rfl) (by omega) (by omega)
  have hi5 : (i + (5 : Int32)).toInt = i.toInt + 5 := ii_a rfl (show (5 : Int32).toInt = 5 from rfl) (by omega) (by omega)
  have hv0 : vp_in i L := vin (by omega)
  have hv1 : vp_in (i + (1 : Int32)) L := vin (by omega)
  have hv2 : vp_in (i + (2 : Int32)) L := vin (by omega)
  have hv3 : vp_in (i + (3 : Int32)) L := vin (by omega)
  have hv4 : vp_in (i + (4 : Int32)) L := vin (by omega)
  have hv5 : vp_in (i + (5 : Int32)) L := vin (by omega)
  refine lv_aload_n hx hb dL_law_673 rfl (lv_at hl 1 rfl) ?_
  refine lv_aload_n hx hb dL_law_674 rfl (lv_at hl 0 rfl) ?_
  refine lv_iload hx hb dL_law_675 (lv_at hl 4 rfl) ?_
  refine lv_iconst (v := (1 : Int32)) hx hb dL_law_677 (by decide) ?_
  refine lv_iadd hx hb dL_law_678 ?_
  refine va_sld hx hb hXs hbl hbA hw.2.2.1 (i := (i + (1 : Int32))) hv1 dL_law_679 ?_
  refine lv_aload_n hx hb dL_law_680 rfl (lv_at hl 3 rfl) ?_
  refine LL_call hw hI (vx_runSX (own := "LeastreaderLaw") (As := [.ref (ad 0), .int (xs (i + (1 : Int32)).toNatClampNeg), .ref q]) (rest := []) ⟨hx, hb, hml, hown, ht⟩ (c_L_other hst q nv sw μ H.size (xs (i + (1 : Int32)).toNatClampNeg) (PW := fun k u => RW_other JI ν (xs (i + (1 : Int32)).toNatClampNeg) k u.2.1 u.1) (hGM μ ν nv (xs (i + (1 : Int32)).toNatClampNeg) hJI)) (vx_cwSW 3 ht (G_S q_725 q_726 q_45 q_727) rfl rfl rfl vd_44 ⟨Nat.le_of_ble_eq_true rfl, Nat.le_of_ble_eq_true rfl⟩) ⟨LB.blind, hg.lb hI hw⟩ rfl rfl hl.1 rfl (lv_room (Nat.le_of_ble_eq_true rfl)) dL_law_681 ⟨show cv + 1 ≤ 600128 by omega, show sv + 6 ≤ 7301098 by omega⟩) (fun r1 μ1 nv1 sw1 H locs hq1 hw => ?_)
  refine lv_istore (lv' := [(5, .int r1), (0, .ref b), (1, .ref (ad 0)), (2, .ref (bd 0)), (3, .ref q), (4, .int i)]) hx hb dL_law_684 hl (by decide) rfl (fun ls hl => ?_)
  refine lv_aload_n hx hb dL_law_686 rfl (lv_at hl 3 rfl) ?_
  refine lv_aload_n hx hb dL_law_687 rfl (lv_at hl 1 rfl) ?_
  refine lv_iload hx hb dL_law_688 (lv_at hl 5 rfl) ?_
  refine lv_iconst (v := (1 : Int32)) hx hb dL_law_690 (by decide) ?_
  refine lv_iadd hx hb dL_law_691 ?_
  refine va_sld hx hb hXs hbl hbA hw.2.2.1 (i := (i + (1 : Int32))) hv1 dL_law_692 ?_
  refine M_calli hw (LZ_MA hw) (va_runV (own := "LeastreaderLaw") (As := [.int (xs (i + (1 : Int32)).toNatClampNeg)]) (rest := []) ⟨hx, hb, hml, hown, ht⟩ (c_X11_other ν H.size (xs (i + (1 : Int32)).toNatClampNeg) hq1) (cwV 1 ht (G_V q_1425 q_1426 q_1427 q_56 q_1428) rfl rfl rfl ⟨rfl, vd_45⟩ ⟨Nat.le_of_ble_eq_true rfl, Nat.le_of_ble_eq_true rfl⟩) ⟨MB.blind, M_recv hg.2.1 hw, MB.pre hg.2.1 hJ hw va_P0 ne0⟩ rfl rfl hl.1 rfl (lv_room (Nat.le_of_ble_eq_true rfl)) dL_law_693 ⟨show cv + 1 + 0 ≤ 600128 by omega, show sv + 6 + 0 ≤ 7301098 by omega⟩) (fun r2 ν2 H locs hf2 hw => ?_)
  refine lv_istore (lv' := [(6, .int r2), (5, .int r1), (0, .ref b), (1, .ref (ad 0)), (2, .ref (bd 0)), (3, .ref q), (4, .int i)]) hx hb dL_law_696 hl (by decide) rfl (fun ls hl => ?_)
  refine lv_goto (tgt := 1572) hx hb dL_law_698 (by decide) ?_
  refine W.widen (show cv + 1 + 0 ≤ cv + 2000 by omega) (show sv + 6 + 0 ≤ sv + 112000 by omega) ?_
  exact hJ3 μ1 ν2 nv1 sw1 H locs ls hf2 hw (lv_sub hl [2, 3, 4, 5, 6] rfl)
set_option maxHeartbeats 4000000 in
set_option maxRecDepth 100000 in
theorem law_9 {p : Program} {l : Launch} {e : Env} {s : State} {m : MethodId} {b : Nat} {below : List Frame} {meth : Method} {c : Code} {L : Nat} {xs : Nat → Int32} {D : va_G} {ad bd : Nat → Nat} {cI cL cM cB : ClassId} {q : Nat} {Z : State → Prop} {JI : TMem → TMem → Prop} {i : Int32} {cv sv : Nat} (hRI : ∀ {μ ν : TMem}, JI μ ν → RI ν) (hGM : GM_grow JI) (C0 : LC p l s m b c L xs D ad bd cI cL cM cB) (hi : 0 ≤ i.toInt) (hiL : i.toInt + 6 ≤ L) (hcv : cv + 2000 ≤ 600128) (hsv : sv + 112000 ≤ 7301098) (hJ3 : LJ p l e s m b below meth c D ad bd cI cM q Z JI i (cv + 2000) (sv + 112000) 1572) : LJ p l e s m b below meth c D ad bd cI cM q Z JI i cv sv 701 := by
  obtain ⟨hx, hb, hml, hown, ht, hg, hI, hJ, hXs, hbl, hst, hL⟩ := C0
  have hN : NW s := hg.2.2.2.2.1
  have hbA : ¬ SA s.heap.size b := Nat.not_le.mpr hbl
  intro μ ν nv sw H locs ls hJI hw hl
  have hi1 : (i + (1 : Int32)).toInt = i.toInt + 1 := ii_a rfl (show (1 : Int32).toInt = 1 from rfl) (by omega) (by omega)
  have hi2 : (i + (2 : Int32)).toInt = i.toInt + 2 := ii_a rfl (show (2 : Int32).toInt = 2 from rfl) (by omega) (by omega)
  have hi3 : (i + (3 : Int32)).toInt = i.toInt + 3 := ii_a rfl (show (3 : Int32).toInt = 3 from rfl) (by omega) (by omega)
  have hi4 : (i + (4 : Int32)).toInt = i.toInt + 4 := ii_a rfl (show (4 : Int32).toInt = 4 from rfl) (by omega) (by omega)
  have hi5 : (i + (5 : Int32)).toInt = i.toInt + 5 := ii_a rfl (show (5 : Int32).toInt = 5 from rfl) (by omega) (by omega)
  have hv0 : vp_in i L := vin (by omega)
  have hv1 : vp_in (i + (1 : Int32)) L := vin (by omega)
  have hv2 : vp_in (i + (2 : Int32)) L := vin (by omega)
  have hv3 : vp_in (i + (3 : Int32)) L := vin (by omega)
  have hv4 : vp_in (i + (4 : Int32)) L := vin (by omega)
  have hv5 : vp_in (i + (5 : Int32)) L := vin (by omega)
  refine lv_aload_n hx hb dL_law_701 rfl (lv_at hl 1 rfl) ?_
  refine lv_aload_n hx hb dL_law_702 rfl (lv_at hl 0 rfl) ?_
  refine lv_iload hx hb dL_law_703 (lv_at hl 4 rfl) ?_
  refine lv_iconst (v := (1 : Int32)) hx hb dL_law_705 (by decide) ?_
  refine lv_iadd hx hb dL_law_706 ?_
  refine va_sld hx hb hXs hbl hbA hw.2.2.1 (i := (i + (1 : Int32))) hv1 dL_law_707 ?_
  refine lv_aload_n hx hb dL_law_708 rfl (lv_at hl 3 rfl) ?_
  refine LL_call hw hI (vx_runSX (own := "LeastreaderLaw") (As := [.ref (ad 0), .int (xs (i + (1 : Int32)).toNatClampNeg), .ref q]) (rest := []) ⟨hx, hb, hml, hown, ht⟩ (c_L_grow hst q nv sw μ H.size (xs (i + (1 : Int32)).toNatClampNeg) (PW := fun k u => RW_grow JI ν (xs (i + (1 : Int32)).toNatClampNeg) k u.2.1 u.1) (hGM μ ν nv (xs (i + (1 : Int32)).toNatClampNeg) hJI)) (vx_cwSW 3 ht (G_S q_740 q_741 q_45 q_742) rfl rfl rfl vd_46 ⟨Nat.le_of_ble_eq_true rfl, Nat.le_of_ble_eq_true rfl⟩) ⟨LB.blind, hg.lb hI hw⟩ rfl rfl hl.1 rfl (lv_room (Nat.le_of_ble_eq_true rfl)) dL_law_709 ⟨show cv + 1 ≤ 600128 by omega, show sv + 6 ≤ 7301098 by omega⟩) (fun r1 μ1 nv1 sw1 H locs hq1 hw => ?_)
  refine lv_istore (lv' := [(5, .int r1), (0, .ref b), (1, .ref (ad 0)), (2, .ref (bd 0)), (3, .ref q), (4, .int i)]) hx hb dL_law_712 hl (by decide) rfl (fun ls hl => ?_)
  refine lv_aload_n hx hb dL_law_714 rfl (lv_at hl 3 rfl) ?_
  refine lv_aload_n hx hb dL_law_715 rfl (lv_at hl 1 rfl) ?_
  refine lv_iload hx hb dL_law_716 (lv_at hl 5 rfl) ?_
  refine lv_iconst (v := (1 : Int32)) hx hb dL_law_718 (by decide) ?_
  refine lv_iadd hx hb dL_law_719 ?_
  refine va_sld hx hb hXs hbl hbA hw.2.2.1 (i := (i + (1 : Int32))) hv1 dL_law_720 ?_
  refine M_calli hw (LZ_MA hw) (va_runV (own := "LeastreaderLaw") (As := [.int (xs (i + (1 : Int32)).toNatClampNeg)]) (rest := []) ⟨hx, hb, hml, hown, ht⟩ (c_X11_grow ν H.size (xs (i + (1 : Int32)).toNatClampNeg) hq1) (cwV 1 ht (G_V q_1437 q_1438 q_1439 q_56 q_1440) rfl rfl rfl ⟨rfl, vd_47⟩ ⟨Nat.le_of_ble_eq_true rfl, Nat.le_of_ble_eq_true rfl⟩) ⟨MB.blind, M_recv hg.2.1 hw, MB.pre hg.2.1 hJ hw va_P0 ne0⟩ rfl rfl hl.1 rfl (lv_room (Nat.le_of_ble_eq_true rfl)) dL_law_721 ⟨show cv + 1 + 0 ≤ 600128 by omega, show sv + 6 + 0 ≤ 7301098 by omega⟩) (fun r2 ν2 H locs hf2 hw => ?_)
  refine lv_istore (lv' := [(6, .int r2), (5, .int r1), (0, .ref b), (1, .ref (ad 0)), (2, .ref (bd 0)), (3, .ref q), (4, .int i)]) hx hb dL_law_724 hl (by decide) rfl (fun ls hl => ?_)
  refine lv_goto (tgt := 1572) hx hb dL_law_726 (by decide) ?_
  refine W.widen (show cv + 1 + 0 ≤ cv + 2000 by omega) (show sv + 6 + 0 ≤ sv + 112000 by omega) ?_
  exact hJ3 μ1 ν2 nv1 sw1 H locs ls hf2 hw (lv_sub hl [2, 3, 4, 5, 6] rfl)
set_option maxHeartbeats 4000000 in
set_option maxRecDepth 100000 in
theorem law_10 {p : Program} {l : Launch} {e : Env} {s : State} {m : MethodId} {b : Nat} {below : List Frame} {meth : Method} {c : Code} {L : Nat} {xs : Nat → Int32} {D : va_G} {ad bd : Nat → Nat} {cI cL cM cB : ClassId} {q : Nat} {Z : State → Prop} {JI : TMem → TMem → Prop} {i : Int32} {cv sv : Nat} (hRI : ∀ {μ ν : TMem}, JI μ ν → RI ν) (hGM : GM_drop JI) (C0 : LC p l s m b c L xs D ad bd cI cL cM cB) (hi : 0 ≤ i.toInt) (hiL : i.toInt + 6 ≤ L) (hcv : cv + 2000 ≤ 600128) (hsv : sv + 112000 ≤ 7301098) (hJ3 : LJ p l e s m b below meth c D ad bd cI cM q Z JI i (cv + 2000) (sv + 112000) 1572) : LJ p l e s m b below meth c D ad bd cI cM q Z JI i cv sv 729 := by
  obtain ⟨hx, hb, hml, hown, ht, hg, hI, hJ, hXs, hbl, hst, hL⟩ := C0
  have hN : NW s := hg.2.2.2.2.1
  have hbA : ¬ SA s.heap.size b := Nat.not_le.mpr hbl
  intro μ ν nv sw H locs ls hJI hw hl
  have hi1 : (i + (1 : Int32)).toInt = i.toInt + 1 := ii_a rfl (show (1 : Int32).toInt = 1 from rfl) (by omega) (by omega)
  have hi2 : (i + (2 : Int32)).toInt = i.toInt + 2 := ii_a rfl (show (2 : Int32).toInt = 2 from rfl) (by omega) (by omega)
  have hi3 : (i + (3 : Int32)).toInt = i.toInt + 3 := ii_a rfl (show (3 : Int32).toInt = 3 from rfl) (by omega) (by omega)
  have hi4 : (i + (4 : Int32)).toInt = i.toInt + 4 := ii_a rfl (show (4 : Int32).toInt = 4 from rfl) (by omega) (by omega)
  have hi5 : (i + (5 : Int32)).toInt = i.toInt + 5 := ii_a rfl (show (5 : Int32).toInt = 5 from rfl) (by omega) (by omega)
  have hv0 : vp_in i L := vin (by omega)
  have hv1 : vp_in (i + (1 : Int32)) L := vin (by omega)
  have hv2 : vp_in (i + (2 : Int32)) L := vin (by omega)
  have hv3 : vp_in (i + (3 : Int32)) L := vin (by omega)
  have hv4 : vp_in (i + (4 : Int32)) L := vin (by omega)
  have hv5 : vp_in (i + (5 : Int32)) L := vin (by omega)
  refine lv_aload_n hx hb dL_law_729 rfl (lv_at hl 1 rfl) ?_
  refine lv_aload_n hx hb dL_law_730 rfl (lv_at hl 0 rfl) ?_
  refine lv_iload hx hb dL_law_731 (lv_at hl 4 rfl) ?_
  refine lv_iconst (v := (1 : Int32)) hx hb dL_law_733 (by decide) ?_
  refine lv_iadd hx hb dL_law_734 ?_
  refine va_sld hx hb hXs hbl hbA hw.2.2.1 (i := (i + (1 : Int32))) hv1 dL_law_735 ?_
  refine lv_aload_n hx hb dL_law_736 rfl (lv_at hl 0 rfl) ?_
  refine lv_iload hx hb dL_law_737 (lv_at hl 4 rfl) ?_
  refine lv_iconst (v := (2 : Int32)) hx hb dL_law_739 (by decide) ?_
  refine lv_iadd hx hb dL_law_740 ?_
  refine va_sld hx hb hXs hbl hbA hw.2.2.1 (i := (i + (2 : Int32))) hv2 dL_law_741 ?_
  refine lv_aload_n hx hb dL_law_742 rfl (lv_at hl 3 rfl) ?_
  refine LL_call hw hI (vx_runSX (own := "LeastreaderLaw") (As := [.ref (ad 0), .int (xs (i + (1 : Int32)).toNatClampNeg), .int (xs (i + (2 : Int32)).toNatClampNeg), .ref q]) (rest := []) ⟨hx, hb, hml, hown, ht⟩ (c_L_drop hst q nv sw μ H.size (xs (i + (1 : Int32)).toNatClampNeg) (xs (i + (2 : Int32)).toNatClampNeg) (PW := fun k u => RW_drop JI ν (xs (i + (1 : Int32)).toNatClampNeg) (xs (i + (2 : Int32)).toNatClampNeg) k u.2.1 u.1) (hGM μ ν nv (xs (i + (1 : Int32)).toNatClampNeg) (xs (i + (2 : Int32)).toNatClampNeg) hJI)) (vx_cwSW 4 ht (G_S q_748 q_749 q_45 q_750) rfl rfl rfl vd_48 ⟨Nat.le_of_ble_eq_true rfl, Nat.le_of_ble_eq_true rfl⟩) ⟨LB.blind, hg.lb hI hw⟩ rfl rfl hl.1 rfl (lv_room (Nat.le_of_ble_eq_true rfl)) dL_law_743 ⟨show cv + 2 ≤ 600128 by omega, show sv + 12 ≤ 7301098 by omega⟩) (fun r1 μ1 nv1 sw1 H locs hq1 hw => ?_)
  refine lv_istore (lv' := [(5, .int r1), (0, .ref b), (1, .ref (ad 0)), (2, .ref (bd 0)), (3, .ref q), (4, .int i)]) hx hb dL_law_746 hl (by decide) rfl (fun ls hl => ?_)
  refine lv_aload_n hx hb dL_law_748 rfl (lv_at hl 3 rfl) ?_
  refine lv_aload_n hx hb dL_law_749 rfl (lv_at hl 1 rfl) ?_
  refine lv_iload hx hb dL_law_750 (lv_at hl 5 rfl) ?_
  refine lv_iconst (v := (1 : Int32)) hx hb dL_law_752 (by decide) ?_
  refine lv_iadd hx hb dL_law_753 ?_
  refine va_sld hx hb hXs hbl hbA hw.2.2.1 (i := (i + (1 : Int32))) hv1 dL_law_754 ?_
  refine lv_aload_n hx hb dL_law_755 rfl (lv_at hl 1 rfl) ?_
  refine lv_iload hx hb dL_law_756 (lv_at hl 5 rfl) ?_
  refine lv_iconst (v := (2 : Int32)) hx hb dL_law_758 (by decide) ?_
  refine lv_iadd hx hb dL_law_759 ?_
  refine va_sld hx hb hXs hbl hbA hw.2.2.1 (i := (i + (2 : Int32))) hv2 dL_law_760 ?_
  refine M_calli hw (LZ_MA hw) (va_runV (own := "LeastreaderLaw") (As := [.int (xs (i + (1 : Int32)).toNatClampNeg), .int (xs (i + (2 : Int32)).toNatClampNeg)]) (rest := []) ⟨hx, hb, hml, hown, ht⟩ (c_X11_drop ν H.size (xs (i + (1 : Int32)).toNatClampNeg) (xs (i + (2 : Int32)).toNatClampNeg) hq1) (cwV 2 ht (G_V q_1441 q_1442 q_1443 q_56 q_1444) rfl rfl rfl ⟨rfl, vd_49⟩ ⟨Nat.le_of_ble_eq_true rfl, Nat.le_of_ble_eq_true rfl⟩) ⟨MB.blind, M_recv hg.2.1 hw, MB.pre hg.2.1 hJ hw va_P0 ne0⟩ rfl rfl hl.1 rfl (lv_room (Nat.le_of_ble_eq_true rfl)) dL_law_761 ⟨show cv + 2 + 0 ≤ 600128 by omega, show sv + 12 + 0 ≤ 7301098 by omega⟩) (fun r2 ν2 H locs hf2 hw => ?_)
  refine lv_istore (lv' := [(6, .int r2), (5, .int r1), (0, .ref b), (1, .ref (ad 0)), (2, .ref (bd 0)), (3, .ref q), (4, .int i)]) hx hb dL_law_764 hl (by decide) rfl (fun ls hl => ?_)
  refine lv_goto (tgt := 1572) hx hb dL_law_766 (by decide) ?_
  refine W.widen (show cv + 2 + 0 ≤ cv + 2000 by omega) (show sv + 12 + 0 ≤ sv + 112000 by omega) ?_
  exact hJ3 μ1 ν2 nv1 sw1 H locs ls hf2 hw (lv_sub hl [2, 3, 4, 5, 6] rfl)
end
/-! part 9o.law2 -/
section
set_option maxHeartbeats 4000000 in
set_option maxRecDepth 100000 in
theorem law_11 {p : Program} {l : Launch} {e : Env} {s : State} {m : MethodId} {b : Nat} {below : List Frame} {meth : Method} {c : Code} {L : Nat} {xs : Nat → Int32} {D : va_G} {ad bd : Nat → Nat} {cI cL cM cB : ClassId} {q : Nat} {Z : State → Prop} {JI : TMem → TMem → Prop} {i : Int32} {cv sv : Nat} (hRI : ∀ {μ ν : TMem}, JI μ ν → RI ν) (hGM : GM_make JI) (C0 : LC p l s m b c L xs D ad bd cI cL cM cB) (hi : 0 ≤ i.toInt) (hiL : i.toInt + 6 ≤ L) (hcv : cv + 2000 ≤ 600128) (hsv : sv + 112000 ≤ 7301098) (hJ3 : LJ p l e s m b below meth c D ad bd cI cM q Z JI i (cv + 2000) (sv + 112000) 1572) : LJ p l e s m b below meth c D ad bd cI cM q Z JI i cv sv 769 := by
  obtain ⟨hx, hb, hml, hown, ht, hg, hI, hJ, hXs, hbl, hst, hL⟩ := C0
  have hN : NW s := hg.2.2.2.2.1
  have hbA : ¬ SA s.heap.size b := Nat.not_le.mpr hbl
  intro μ ν nv sw H locs ls hJI hw hl
  have hi1 : (i + (1 : Int32)).toInt = i.toInt + 1 := ii_a rfl (show (1 : Int32).toInt = 1 from rfl) (by omega) (by omega)
  have hi2 : (i + (2 : Int32)).toInt = i.toInt + 2 := ii_a rfl (show (2 : Int32).toInt = 2 from rfl) (by omega) (by omega)
  have hi3 : (i + (3 : Int32)).toInt = i.toInt + 3 := ii_a rfl (show (3 : Int32).toInt = 3 from rfl) (by omega) (by omega)
  have hi4 : (i + (4 : Int32)).toInt = i.toInt + 4 := ii_a rfl (show (4 : Int32).toInt = 4 from rfl) (by omega) (by omega)
  have hi5 : (i + (5 : Int32)).toInt = i.toInt + 5 := ii_a rfl (show (5 : Int32).toInt = 5 from rfl) (by omega) (by omega)
  have hv0 : vp_in i L := vin (by omega)
  have hv1 : vp_in (i + (1 : Int32)) L := vin (by omega)
  have hv2 : vp_in (i + (2 : Int32)) L := vin (by omega)
  have hv3 : vp_in (i + (3 : Int32)) L := vin (by omega)
  have hv4 : vp_in (i + (4 : Int32)) L := vin (by omega)
  have hv5 : vp_in (i + (5 : Int32)) L := vin (by omega)
  refine lv_aload_n hx hb dL_law_769 rfl (lv_at hl 1 rfl) ?_
  refine lv_aload_n hx hb dL_law_770 rfl (lv_at hl 0 rfl) ?_
  refine lv_iload hx hb dL_law_771 (lv_at hl 4 rfl) ?_
  refine lv_iconst (v := (1 : Int32)) hx hb dL_law_773 (by decide) ?_
  refine lv_iadd hx hb dL_law_774 ?_
  refine va_sld hx hb hXs hbl hbA hw.2.2.1 (i := (i + (1 : Int32))) hv1 dL_law_775 ?_
  refine lv_aload_n hx hb dL_law_776 rfl (lv_at hl 0 rfl) ?_
  refine lv_iload hx hb dL_law_777 (lv_at hl 4 rfl) ?_
  refine lv_iconst (v := (2 : Int32)) hx hb dL_law_779 (by decide) ?_
  refine lv_iadd hx hb dL_law_780 ?_
  refine va_sld hx hb hXs hbl hbA hw.2.2.1 (i := (i + (2 : Int32))) hv2 dL_law_781 ?_
  refine lv_if_eq (tgt := 789) hx hb dL_law_782 (by decide) (fun c9 => ?_) (fun c9 => ?_)
  · have kb1 := c9
    refine lv_iconst (v := (0 : Int32)) hx hb dL_law_789 (by decide) ?_
    refine lv_aload_n hx hb dL_law_790 rfl (lv_at hl 0 rfl) ?_
    refine lv_iload hx hb dL_law_791 (lv_at hl 4 rfl) ?_
    refine lv_iconst (v := (3 : Int32)) hx hb dL_law_793 (by decide) ?_
    refine lv_iadd hx hb dL_law_794 ?_
    refine va_sld hx hb hXs hbl hbA hw.2.2.1 (i := (i + (3 : Int32))) hv3 dL_law_795 ?_
    refine lv_aload_n hx hb dL_law_796 rfl (lv_at hl 3 rfl) ?_
    refine LL_call hw hI (vx_runSX (own := "LeastreaderLaw") (As := [.ref (ad 0), .int (xs (i + (1 : Int32)).toNatClampNeg), .int (0 : Int32), .int (xs (i + (3 : Int32)).toNatClampNeg), .ref q]) (rest := []) ⟨hx, hb, hml, hown, ht⟩ (c_L_make hst q nv sw μ H.size (xs (i + (1 : Int32)).toNatClampNeg) (0 : Int32) (xs (i + (3 : Int32)).toNatClampNeg) (PW := fun k u => RW_make JI ν (xs (i + (1 : Int32)).toNatClampNeg) (0 : Int32) (xs (i + (3 : Int32)).toNatClampNeg) k u.2.1 u.1) (hGM μ ν nv (xs (i + (1 : Int32)).toNatClampNeg) (0 : Int32) (xs (i + (3 : Int32)).toNatClampNeg) hJI)) (vx_cwSW 5 ht (G_S q_762 q_763 q_45 q_764) rfl rfl rfl vd_50 ⟨Nat.le_of_ble_eq_true rfl, Nat.le_of_ble_eq_true rfl⟩) ⟨LB.blind, hg.lb hI hw⟩ rfl rfl hl.1 rfl (lv_room (Nat.le_of_ble_eq_true rfl)) dL_law_797 ⟨show cv + 2 ≤ 600128 by omega, show sv + 12 ≤ 7301098 by omega⟩) (fun r2 μ2 nv2 sw2 H locs hq2 hw => ?_)
    refine lv_istore (lv' := [(5, .int r2), (0, .ref b), (1, .ref (ad 0)), (2, .ref (bd 0)), (3, .ref q), (4, .int i)]) hx hb dL_law_800 hl (by decide) rfl (fun ls hl => ?_)
    refine lv_aload_n hx hb dL_law_802 rfl (lv_at hl 3 rfl) ?_
    refine lv_aload_n hx hb dL_law_803 rfl (lv_at hl 1 rfl) ?_
    refine lv_iload hx hb dL_law_804 (lv_at hl 5 rfl) ?_
    refine lv_iconst (v := (1 : Int32)) hx hb dL_law_806 (by decide) ?_
    refine lv_iadd hx hb dL_law_807 ?_
    refine va_sld hx hb hXs hbl hbA hw.2.2.1 (i := (i + (1 : Int32))) hv1 dL_law_808 ?_
    refine lv_aload_n hx hb dL_law_809 rfl (lv_at hl 1 rfl) ?_
    refine lv_iload hx hb dL_law_810 (lv_at hl 5 rfl) ?_
    refine lv_iconst (v := (2 : Int32)) hx hb dL_law_812 (by decide) ?_
    refine lv_iadd hx hb dL_law_813 ?_
    refine va_sld hx hb hXs hbl hbA hw.2.2.1 (i := (i + (2 : Int32))) hv2 dL_law_814 ?_
    refine lv_if_eq (tgt := 822) hx hb dL_law_815 (by decide) (fun c9 => ?_) (fun c9 => absurd kb1 c9)
    refine lv_iconst (v := (0 : Int32)) hx hb dL_law_822 (by decide) ?_
    refine lv_aload_n hx hb dL_law_823 rfl (lv_at hl 1 rfl) ?_
    refine lv_iload hx hb dL_law_824 (lv_at hl 5 rfl) ?_
    refine lv_iconst (v := (3 : Int32)) hx hb dL_law_826 (by decide) ?_
    refine lv_iadd hx hb dL_law_827 ?_
    refine va_sld hx hb hXs hbl hbA hw.2.2.1 (i := (i + (3 : Int32))) hv3 dL_law_828 ?_
    refine M_calli hw (LZ_MA hw) (va_runV (own := "LeastreaderLaw") (As := [.int (xs (i + (1 : Int32)).toNatClampNeg), .int (0 : Int32), .int (xs (i + (3 : Int32)).toNatClampNeg)]) (rest := []) ⟨hx, hb, hml, hown, ht⟩ (c_X11_make ν H.size (xs (i + (1 : Int32)).toNatClampNeg) (0 : Int32) (xs (i + (3 : Int32)).toNatClampNeg) hq2) (cwV 3 ht (G_V q_1448 q_1449 q_1450 q_56 q_1451) rfl rfl rfl ⟨rfl, vd_51⟩ ⟨Nat.le_of_ble_eq_true rfl, Nat.le_of_ble_eq_true rfl⟩) ⟨MB.blind, M_recv hg.2.1 hw, MB.pre hg.2.1 hJ hw va_P0 ne0⟩ rfl rfl hl.1 rfl (lv_room (Nat.le_of_ble_eq_true rfl)) dL_law_829 ⟨show cv + 2 + 41 ≤ 600128 by omega, show sv + 12 + 1685 ≤ 7301098 by omega⟩) (fun r3 ν3 H locs hf3 hw => ?_)
    refine lv_istore (lv' := [(6, .int r3), (5, .int r2), (0, .ref b), (1, .ref (ad 0)), (2, .ref (bd 0)), (3, .ref q), (4, .int i)]) hx hb dL_law_832 hl (by decide) rfl (fun ls hl => ?_)
    refine lv_goto (tgt := 1572) hx hb dL_law_834 (by decide) ?_
    refine W.widen (show cv + 2 + 41 ≤ cv + 2000 by omega) (show sv + 12 + 1685 ≤ sv + 112000 by omega) ?_
    exact hJ3 μ2 ν3 nv2 sw2 H locs ls hf3 hw (lv_sub hl [2, 3, 4, 5, 6] rfl)
  · have kb1 := c9
    refine lv_iconst (v := (1 : Int32)) hx hb dL_law_785 (by decide) ?_
    refine lv_goto (tgt := 790) hx hb dL_law_786 (by decide) ?_
    refine lv_aload_n hx hb dL_law_790 rfl (lv_at hl 0 rfl) ?_
    refine lv_iload hx hb dL_law_791 (lv_at hl 4 rfl) ?_
    refine lv_iconst (v := (3 : Int32)) hx hb dL_law_793 (by decide) ?_
    refine lv_iadd hx hb dL_law_794 ?_
    refine va_sld hx hb hXs hbl hbA hw.2.2.1 (i := (i + (3 : Int32))) hv3 dL_law_795 ?_
    refine lv_aload_n hx hb dL_law_796 rfl (lv_at hl 3 rfl) ?_
    refine LL_call hw hI (vx_runSX (own := "LeastreaderLaw") (As := [.ref (ad 0), .int (xs (i + (1 : Int32)).toNatClampNeg), .int (1 : Int32), .int (xs (i + (3 : Int32)).toNatClampNeg), .ref q]) (rest := []) ⟨hx, hb, hml, hown, ht⟩ (c_L_make hst q nv sw μ H.size (xs (i + (1 : Int32)).toNatClampNeg) (1 : Int32) (xs (i + (3 : Int32)).toNatClampNeg) (PW := fun k u => RW_make JI ν (xs (i + (1 : Int32)).toNatClampNeg) (1 : Int32) (xs (i + (3 : Int32)).toNatClampNeg) k u.2.1 u.1) (hGM μ ν nv (xs (i + (1 : Int32)).toNatClampNeg) (1 : Int32) (xs (i + (3 : Int32)).toNatClampNeg) hJI)) (vx_cwSW 5 ht (G_S q_762 q_763 q_45 q_764) rfl rfl rfl vd_50 ⟨Nat.le_of_ble_eq_true rfl, Nat.le_of_ble_eq_true rfl⟩) ⟨LB.blind, hg.lb hI hw⟩ rfl rfl hl.1 rfl (lv_room (Nat.le_of_ble_eq_true rfl)) dL_law_797 ⟨show cv + 2 ≤ 600128 by omega, show sv + 12 ≤ 7301098 by omega⟩) (fun r4 μ4 nv4 sw4 H locs hq4 hw => ?_)
    refine lv_istore (lv' := [(5, .int r4), (0, .ref b), (1, .ref (ad 0)), (2, .ref (bd 0)), (3, .ref q), (4, .int i)]) hx hb dL_law_800 hl (by decide) rfl (fun ls hl => ?_)
    refine lv_aload_n hx hb dL_law_802 rfl (lv_at hl 3 rfl) ?_
    refine lv_aload_n hx hb dL_law_803 rfl (lv_at hl 1 rfl) ?_
    refine lv_iload hx hb dL_law_804 (lv_at hl 5 rfl) ?_
    refine lv_iconst (v := (1 : Int32)) hx hb dL_law_806 (by decide) ?_
    refine lv_iadd hx hb dL_law_807 ?_
    refine va_sld hx hb hXs hbl hbA hw.2.2.1 (i := (i + (1 : Int32))) hv1 dL_law_808 ?_
    refine lv_aload_n hx hb dL_law_809 rfl (lv_at hl 1 rfl) ?_
    refine lv_iload hx hb dL_law_810 (lv_at hl 5 rfl) ?_
    refine lv_iconst (v := (2 : Int32)) hx hb dL_law_812 (by decide) ?_
    refine lv_iadd hx hb dL_law_813 ?_
    refine va_sld hx hb hXs hbl hbA hw.2.2.1 (i := (i + (2 : Int32))) hv2 dL_law_814 ?_
    refine lv_if_eq (tgt := 822) hx hb dL_law_815 (by decide) (fun c9 => absurd c9 kb1) (fun c9 => ?_)
    refine lv_iconst (v := (1 : Int32)) hx hb dL_law_818 (by decide) ?_
    refine lv_goto (tgt := 823) hx hb dL_law_819 (by decide) ?_
    refine lv_aload_n hx hb dL_law_823 rfl (lv_at hl 1 rfl) ?_
    refine lv_iload hx hb dL_law_824 (lv_at hl 5 rfl) ?_
    refine lv_iconst (v := (3 : Int32)) hx hb dL_law_826 (by decide) ?_
    refine lv_iadd hx hb dL_law_827 ?_
    refine va_sld hx hb hXs hbl hbA hw.2.2.1 (i := (i + (3 : Int32))) hv3 dL_law_828 ?_
    refine M_calli hw (LZ_MA hw) (va_runV (own := "LeastreaderLaw") (As := [.int (xs (i + (1 : Int32)).toNatClampNeg), .int (1 : Int32), .int (xs (i + (3 : Int32)).toNatClampNeg)]) (rest := []) ⟨hx, hb, hml, hown, ht⟩ (c_X11_make ν H.size (xs (i + (1 : Int32)).toNatClampNeg) (1 : Int32) (xs (i + (3 : Int32)).toNatClampNeg) hq4) (cwV 3 ht (G_V q_1448 q_1449 q_1450 q_56 q_1451) rfl rfl rfl ⟨rfl, vd_51⟩ ⟨Nat.le_of_ble_eq_true rfl, Nat.le_of_ble_eq_true rfl⟩) ⟨MB.blind, M_recv hg.2.1 hw, MB.pre hg.2.1 hJ hw va_P0 ne0⟩ rfl rfl hl.1 rfl (lv_room (Nat.le_of_ble_eq_true rfl)) dL_law_829 ⟨show cv + 2 + 41 ≤ 600128 by omega, show sv + 12 + 1685 ≤ 7301098 by omega⟩) (fun r5 ν5 H locs hf5 hw => ?_)
    refine lv_istore (lv' := [(6, .int r5), (5, .int r4), (0, .ref b), (1, .ref (ad 0)), (2, .ref (bd 0)), (3, .ref q), (4, .int i)]) hx hb dL_law_832 hl (by decide) rfl (fun ls hl => ?_)
    refine lv_goto (tgt := 1572) hx hb dL_law_834 (by decide) ?_
    refine W.widen (show cv + 2 + 41 ≤ cv + 2000 by omega) (show sv + 12 + 1685 ≤ sv + 112000 by omega) ?_
    exact hJ3 μ4 ν5 nv4 sw4 H locs ls hf5 hw (lv_sub hl [2, 3, 4, 5, 6] rfl)
set_option maxHeartbeats 4000000 in
set_option maxRecDepth 100000 in
theorem law_12 {p : Program} {l : Launch} {e : Env} {s : State} {m : MethodId} {b : Nat} {below : List Frame} {meth : Method} {c : Code} {L : Nat} {xs : Nat → Int32} {D : va_G} {ad bd : Nat → Nat} {cI cL cM cB : ClassId} {q : Nat} {Z : State → Prop} {JI : TMem → TMem → Prop} {i : Int32} {cv sv : Nat} (hRI : ∀ {μ ν : TMem}, JI μ ν → RI ν) (hGM : GM_combine JI) (C0 : LC p l s m b c L xs D ad bd cI cL cM cB) (hi : 0 ≤ i.toInt) (hiL : i.toInt + 6 ≤ L) (hcv : cv + 2000 ≤ 600128) (hsv : sv + 112000 ≤ 7301098) (hJ3 : LJ p l e s m b below meth c D ad bd cI cM q Z JI i (cv + 2000) (sv + 112000) 1572) : LJ p l e s m b below meth c D ad bd cI cM q Z JI i cv sv 837 := by
  obtain ⟨hx, hb, hml, hown, ht, hg, hI, hJ, hXs, hbl, hst, hL⟩ := C0
  have hN : NW s := hg.2.2.2.2.1
  have hbA : ¬ SA s.heap.size b := Nat.not_le.mpr hbl
  intro μ ν nv sw H locs ls hJI hw hl
  have hi1 : (i + (1 : Int32)).toInt = i.toInt + 1 := ii_a rfl (show (1 : Int32).toInt = 1 from rfl) (by omega) (by omega)
  have hi2 : (i + (2 : Int32)).toInt = i.toInt + 2 := ii_a rfl (show (2 : Int32).toInt = 2 from rfl) (by omega) (by omega)
  have hi3 : (i + (3 : Int32)).toInt = i.toInt + 3 := ii_a rfl (show (3 : Int32).toInt = 3 from rfl) (by omega) (by omega)
  have hi4 : (i + (4 : Int32)).toInt = i.toInt + 4 := ii_a rfl (show (4 : Int32).toInt = 4 from rfl) (by omega) (by omega)
  have hi5 : (i + (5 : Int32)).toInt = i.toInt + 5 := ii_a rfl (show (5 : Int32).toInt = 5 from rfl) (by omega) (by omega)
  have hv0 : vp_in i L := vin (by omega)
  have hv1 : vp_in (i + (1 : Int32)) L := vin (by omega)
  have hv2 : vp_in (i + (2 : Int32)) L := vin (by omega)
  have hv3 : vp_in (i + (3 : Int32)) L := vin (by omega)
  have hv4 : vp_in (i + (4 : Int32)) L := vin (by omega)
  have hv5 : vp_in (i + (5 : Int32)) L := vin (by omega)
  refine lv_aload_n hx hb dL_law_837 rfl (lv_at hl 1 rfl) ?_
  refine lv_aload_n hx hb dL_law_838 rfl (lv_at hl 0 rfl) ?_
  refine lv_iload hx hb dL_law_839 (lv_at hl 4 rfl) ?_
  refine lv_iconst (v := (1 : Int32)) hx hb dL_law_841 (by decide) ?_
  refine lv_iadd hx hb dL_law_842 ?_
  refine va_sld hx hb hXs hbl hbA hw.2.2.1 (i := (i + (1 : Int32))) hv1 dL_law_843 ?_
  refine lv_aload_n hx hb dL_law_844 rfl (lv_at hl 0 rfl) ?_
  refine lv_iload hx hb dL_law_845 (lv_at hl 4 rfl) ?_
  refine lv_iconst (v := (2 : Int32)) hx hb dL_law_847 (by decide) ?_
  refine lv_iadd hx hb dL_law_848 ?_
  refine va_sld hx hb hXs hbl hbA hw.2.2.1 (i := (i + (2 : Int32))) hv2 dL_law_849 ?_
  refine lv_aload_n hx hb dL_law_850 rfl (lv_at hl 0 rfl) ?_
  refine lv_iload hx hb dL_law_851 (lv_at hl 4 rfl) ?_
  refine lv_iconst (v := (3 : Int32)) hx hb dL_law_853 (by decide) ?_
  refine lv_iadd hx hb dL_law_854 ?_
  refine va_sld hx hb hXs hbl hbA hw.2.2.1 (i := (i + (3 : Int32))) hv3 dL_law_855 ?_
  refine lv_aload_n hx hb dL_law_856 rfl (lv_at hl 0 rfl) ?_
  refine lv_iload hx hb dL_law_857 (lv_at hl 4 rfl) ?_
  refine lv_iconst (v := (4 : Int32)) hx hb dL_law_859 (by decide) ?_
  refine lv_iadd hx hb dL_law_860 ?_
  refine va_sld hx hb hXs hbl hbA hw.2.2.1 (i := (i + (4 : Int32))) hv4 dL_law_861 ?_
  refine lv_aload_n hx hb dL_law_862 rfl (lv_at hl 3 rfl) ?_
  refine LL_call hw hI (vx_runSX (own := "LeastreaderLaw") (As := [.ref (ad 0), .int (xs (i + (1 : Int32)).toNatClampNeg), .int (xs (i + (2 : Int32)).toNatClampNeg), .int (xs (i + (3 : Int32)).toNatClampNeg), .int (xs (i + (4 : Int32)).toNatClampNeg), .ref q]) (rest := []) ⟨hx, hb, hml, hown, ht⟩ (c_L_combine hst q nv sw μ H.size (xs (i + (1 : Int32)).toNatClampNeg) (xs (i + (2 : Int32)).toNatClampNeg) (xs (i + (3 : Int32)).toNatClampNeg) (xs (i + (4 : Int32)).toNatClampNeg) (PW := fun k u => RW_combine JI ν (xs (i + (1 : Int32)).toNatClampNeg) (xs (i + (2 : Int32)).toNatClampNeg) (xs (i + (3 : Int32)).toNatClampNeg) (xs (i + (4 : Int32)).toNatClampNeg) k u.2.1 u.1) (hGM μ ν nv (xs (i + (1 : Int32)).toNatClampNeg) (xs (i + (2 : Int32)).toNatClampNeg) (xs (i + (3 : Int32)).toNatClampNeg) (xs (i + (4 : Int32)).toNatClampNeg) hJI)) (vx_cwSW 6 ht (G_S q_773 q_774 q_45 q_775) rfl rfl rfl vd_52 ⟨Nat.le_of_ble_eq_true rfl, Nat.le_of_ble_eq_true rfl⟩) ⟨LB.blind, hg.lb hI hw⟩ rfl rfl hl.1 rfl (lv_room (Nat.le_of_ble_eq_true rfl)) dL_law_863 ⟨show cv + 4 ≤ 600128 by omega, show sv + 24 ≤ 7301098 by omega⟩) (fun r1 μ1 nv1 sw1 H locs hq1 hw => ?_)
  refine lv_istore (lv' := [(5, .int r1), (0, .ref b), (1, .ref (ad 0)), (2, .ref (bd 0)), (3, .ref q), (4, .int i)]) hx hb dL_law_866 hl (by decide) rfl (fun ls hl => ?_)
  refine lv_aload_n hx hb dL_law_868 rfl (lv_at hl 3 rfl) ?_
  refine lv_aload_n hx hb dL_law_869 rfl (lv_at hl 1 rfl) ?_
  refine lv_iload hx hb dL_law_870 (lv_at hl 5 rfl) ?_
  refine lv_iconst (v := (1 : Int32)) hx hb dL_law_872 (by decide) ?_
  refine lv_iadd hx hb dL_law_873 ?_
  refine va_sld hx hb hXs hbl hbA hw.2.2.1 (i := (i + (1 : Int32))) hv1 dL_law_874 ?_
  refine lv_aload_n hx hb dL_law_875 rfl (lv_at hl 1 rfl) ?_
  refine lv_iload hx hb dL_law_876 (lv_at hl 5 rfl) ?_
  refine lv_iconst (v := (2 : Int32)) hx hb dL_law_878 (by decide) ?_
  refine lv_iadd hx hb dL_law_879 ?_
  refine va_sld hx hb hXs hbl hbA hw.2.2.1 (i := (i + (2 : Int32))) hv2 dL_law_880 ?_
  refine lv_aload_n hx hb dL_law_881 rfl (lv_at hl 1 rfl) ?_
  refine lv_iload hx hb dL_law_882 (lv_at hl 5 rfl) ?_
  refine lv_iconst (v := (3 : Int32)) hx hb dL_law_884 (by decide) ?_
  refine lv_iadd hx hb dL_law_885 ?_
  refine va_sld hx hb hXs hbl hbA hw.2.2.1 (i := (i + (3 : Int32))) hv3 dL_law_886 ?_
  refine lv_aload_n hx hb dL_law_887 rfl (lv_at hl 1 rfl) ?_
  refine lv_iload hx hb dL_law_888 (lv_at hl 5 rfl) ?_
  refine lv_iconst (v := (4 : Int32)) hx hb dL_law_890 (by decide) ?_
  refine lv_iadd hx hb dL_law_891 ?_
  refine va_sld hx hb hXs hbl hbA hw.2.2.1 (i := (i + (4 : Int32))) hv4 dL_law_892 ?_
  refine M_calli hw (LZ_MA hw) (va_runV (own := "LeastreaderLaw") (As := [.int (xs (i + (1 : Int32)).toNatClampNeg), .int (xs (i + (2 : Int32)).toNatClampNeg), .int (xs (i + (3 : Int32)).toNatClampNeg), .int (xs (i + (4 : Int32)).toNatClampNeg)]) (rest := []) ⟨hx, hb, hml, hown, ht⟩ (c_X11_combine ν H.size (xs (i + (1 : Int32)).toNatClampNeg) (xs (i + (2 : Int32)).toNatClampNeg) (xs (i + (3 : Int32)).toNatClampNeg) (xs (i + (4 : Int32)).toNatClampNeg) hq1) (cwV 4 ht (G_V q_1483 q_1484 q_1485 q_56 q_1486) rfl rfl rfl ⟨rfl, vd_53⟩ ⟨Nat.le_of_ble_eq_true rfl, Nat.le_of_ble_eq_true rfl⟩) ⟨MB.blind, M_recv hg.2.1 hw, MB.pre hg.2.1 hJ hw va_P0 ne0⟩ rfl rfl hl.1 rfl (lv_room (Nat.le_of_ble_eq_true rfl)) dL_law_893 ⟨show cv + 4 + 47 ≤ 600128 by omega, show sv + 24 + 2726 ≤ 7301098 by omega⟩) (fun r2 ν2 H locs hf2 hw => ?_)
  refine lv_istore (lv' := [(6, .int r2), (5, .int r1), (0, .ref b), (1, .ref (ad 0)), (2, .ref (bd 0)), (3, .ref q), (4, .int i)]) hx hb dL_law_896 hl (by decide) rfl (fun ls hl => ?_)
  refine lv_goto (tgt := 1572) hx hb dL_law_898 (by decide) ?_
  refine W.widen (show cv + 4 + 47 ≤ cv + 2000 by omega) (show sv + 24 + 2726 ≤ sv + 112000 by omega) ?_
  exact hJ3 μ1 ν2 nv1 sw1 H locs ls hf2 hw (lv_sub hl [2, 3, 4, 5, 6] rfl)
set_option maxHeartbeats 4000000 in
set_option maxRecDepth 100000 in
theorem law_13 {p : Program} {l : Launch} {e : Env} {s : State} {m : MethodId} {b : Nat} {below : List Frame} {meth : Method} {c : Code} {L : Nat} {xs : Nat → Int32} {D : va_G} {ad bd : Nat → Nat} {cI cL cM cB : ClassId} {q : Nat} {Z : State → Prop} {JI : TMem → TMem → Prop} {i : Int32} {cv sv : Nat} (hRI : ∀ {μ ν : TMem}, JI μ ν → RI ν) (hGM : GM_tell JI) (C0 : LC p l s m b c L xs D ad bd cI cL cM cB) (hi : 0 ≤ i.toInt) (hiL : i.toInt + 6 ≤ L) (hcv : cv + 2000 ≤ 600128) (hsv : sv + 112000 ≤ 7301098) (hJ3 : LJ p l e s m b below meth c D ad bd cI cM q Z JI i (cv + 2000) (sv + 112000) 1572) : LJ p l e s m b below meth c D ad bd cI cM q Z JI i cv sv 901 := by
  obtain ⟨hx, hb, hml, hown, ht, hg, hI, hJ, hXs, hbl, hst, hL⟩ := C0
  have hN : NW s := hg.2.2.2.2.1
  have hbA : ¬ SA s.heap.size b := Nat.not_le.mpr hbl
  intro μ ν nv sw H locs ls hJI hw hl
  have hi1 : (i + (1 : Int32)).toInt = i.toInt + 1 := ii_a rfl (show (1 : Int32).toInt = 1 from rfl) (by omega) (by omega)
  have hi2 : (i + (2 : Int32)).toInt = i.toInt + 2 := ii_a rfl (show (2 : Int32).toInt = 2 from rfl) (by omega) (by omega)
  have hi3 : (i + (3 : Int32)).toInt = i.toInt + 3 := ii_a rfl (show (3 : Int32).toInt = 3 from rfl) (by omega) (by omega)
  have hi4 : (i + (4 : Int32)).toInt = i.toInt + 4 := ii_a rfl (show (4 : Int32).toInt = 4 from rfl) (by omega) (by omega)
  have hi5 : (i + (5 : Int32)).toInt = i.toInt + 5 := ii_a rfl (show (5 : Int32).toInt = 5 from rfl) (by omega) (by omega)
  have hv0 : vp_in i L := vin (by omega)
  have hv1 : vp_in (i + (1 : Int32)) L := vin (by omega)
  have hv2 : vp_in (i + (2 : Int32)) L := vin (by omega)
  have hv3 : vp_in (i + (3 : Int32)) L := vin (by omega)
  have hv4 : vp_in (i + (4 : Int32)) L := vin (by omega)
  have hv5 : vp_in (i + (5 : Int32)) L := vin (by omega)
  refine lv_aload_n hx hb dL_law_901 rfl (lv_at hl 1 rfl) ?_
  refine lv_aload_n hx hb dL_law_902 rfl (lv_at hl 0 rfl) ?_
  refine lv_iload hx hb dL_law_903 (lv_at hl 4 rfl) ?_
  refine lv_iconst (v := (1 : Int32)) hx hb dL_law_905 (by decide) ?_
  refine lv_iadd hx hb dL_law_906 ?_
  refine va_sld hx hb hXs hbl hbA hw.2.2.1 (i := (i + (1 : Int32))) hv1 dL_law_907 ?_
  refine lv_aload_n hx hb dL_law_908 rfl (lv_at hl 0 rfl) ?_
  refine lv_iload hx hb dL_law_909 (lv_at hl 4 rfl) ?_
  refine lv_iconst (v := (2 : Int32)) hx hb dL_law_911 (by decide) ?_
  refine lv_iadd hx hb dL_law_912 ?_
  refine va_sld hx hb hXs hbl hbA hw.2.2.1 (i := (i + (2 : Int32))) hv2 dL_law_913 ?_
  refine lv_aload_n hx hb dL_law_914 rfl (lv_at hl 3 rfl) ?_
  refine LL_call hw hI (vx_runSX (own := "LeastreaderLaw") (As := [.ref (ad 0), .int (xs (i + (1 : Int32)).toNatClampNeg), .int (xs (i + (2 : Int32)).toNatClampNeg), .ref q]) (rest := []) ⟨hx, hb, hml, hown, ht⟩ (c_L_tell hst q nv sw μ H.size (xs (i + (1 : Int32)).toNatClampNeg) (xs (i + (2 : Int32)).toNatClampNeg) (PW := fun k u => RW_tell JI ν (xs (i + (1 : Int32)).toNatClampNeg) (xs (i + (2 : Int32)).toNatClampNeg) k u.2.1 u.1) (hGM μ ν nv (xs (i + (1 : Int32)).toNatClampNeg) (xs (i + (2 : Int32)).toNatClampNeg) hJI)) (vx_cwSW 4 ht (G_S q_821 q_822 q_45 q_823) rfl rfl rfl vd_54 ⟨Nat.le_of_ble_eq_true rfl, Nat.le_of_ble_eq_true rfl⟩) ⟨LB.blind, hg.lb hI hw⟩ rfl rfl hl.1 rfl (lv_room (Nat.le_of_ble_eq_true rfl)) dL_law_915 ⟨show cv + 2 ≤ 600128 by omega, show sv + 12 ≤ 7301098 by omega⟩) (fun r1 μ1 nv1 sw1 H locs hq1 hw => ?_)
  refine lv_istore (lv' := [(5, .int r1), (0, .ref b), (1, .ref (ad 0)), (2, .ref (bd 0)), (3, .ref q), (4, .int i)]) hx hb dL_law_918 hl (by decide) rfl (fun ls hl => ?_)
  refine lv_aload_n hx hb dL_law_920 rfl (lv_at hl 3 rfl) ?_
  refine lv_aload_n hx hb dL_law_921 rfl (lv_at hl 1 rfl) ?_
  refine lv_iload hx hb dL_law_922 (lv_at hl 5 rfl) ?_
  refine lv_iconst (v := (1 : Int32)) hx hb dL_law_924 (by decide) ?_
  refine lv_iadd hx hb dL_law_925 ?_
  refine va_sld hx hb hXs hbl hbA hw.2.2.1 (i := (i + (1 : Int32))) hv1 dL_law_926 ?_
  refine lv_aload_n hx hb dL_law_927 rfl (lv_at hl 1 rfl) ?_
  refine lv_iload hx hb dL_law_928 (lv_at hl 5 rfl) ?_
  refine lv_iconst (v := (2 : Int32)) hx hb dL_law_930 (by decide) ?_
  refine lv_iadd hx hb dL_law_931 ?_
  refine va_sld hx hb hXs hbl hbA hw.2.2.1 (i := (i + (2 : Int32))) hv2 dL_law_932 ?_
  refine M_calli hw (LZ_MA hw) (va_runV (own := "LeastreaderLaw") (As := [.int (xs (i + (1 : Int32)).toNatClampNeg), .int (xs (i + (2 : Int32)).toNatClampNeg)]) (rest := []) ⟨hx, hb, hml, hown, ht⟩ (c_X11_tell ν H.size (xs (i + (1 : Int32)).toNatClampNeg) (xs (i + (2 : Int32)).toNatClampNeg) hq1) (cwV 2 ht (G_V q_1498 q_1499 q_1500 q_56 q_1501) rfl rfl rfl ⟨rfl, vd_55⟩ ⟨Nat.le_of_ble_eq_true rfl, Nat.le_of_ble_eq_true rfl⟩) ⟨MB.blind, M_recv hg.2.1 hw, MB.pre hg.2.1 hJ hw va_P0 ne0⟩ rfl rfl hl.1 rfl (lv_room (Nat.le_of_ble_eq_true rfl)) dL_law_933 ⟨show cv + 2 + 0 ≤ 600128 by omega, show sv + 12 + 0 ≤ 7301098 by omega⟩) (fun r2 ν2 H locs hf2 hw => ?_)
  refine lv_istore (lv' := [(6, .int r2), (5, .int r1), (0, .ref b), (1, .ref (ad 0)), (2, .ref (bd 0)), (3, .ref q), (4, .int i)]) hx hb dL_law_936 hl (by decide) rfl (fun ls hl => ?_)
  refine lv_goto (tgt := 1572) hx hb dL_law_938 (by decide) ?_
  refine W.widen (show cv + 2 + 0 ≤ cv + 2000 by omega) (show sv + 12 + 0 ≤ sv + 112000 by omega) ?_
  exact hJ3 μ1 ν2 nv1 sw1 H locs ls hf2 hw (lv_sub hl [2, 3, 4, 5, 6] rfl)
set_option maxHeartbeats 4000000 in
set_option maxRecDepth 100000 in
theorem law_14 {p : Program} {l : Launch} {e : Env} {s : State} {m : MethodId} {b : Nat} {below : List Frame} {meth : Method} {c : Code} {L : Nat} {xs : Nat → Int32} {D : va_G} {ad bd : Nat → Nat} {cI cL cM cB : ClassId} {q : Nat} {Z : State → Prop} {JI : TMem → TMem → Prop} {i : Int32} {cv sv : Nat} (hRI : ∀ {μ ν : TMem}, JI μ ν → RI ν) (hGM : GM_arrows JI) (C0 : LC p l s m b c L xs D ad bd cI cL cM cB) (hi : 0 ≤ i.toInt) (hiL : i.toInt + 6 ≤ L) (hcv : cv + 2000 ≤ 600128) (hsv : sv + 112000 ≤ 7301098) (hJ3 : LJ p l e s m b below meth c D ad bd cI cM q Z JI i (cv + 2000) (sv + 112000) 1572) : LJ p l e s m b below meth c D ad bd cI cM q Z JI i cv sv 941 := by
  obtain ⟨hx, hb, hml, hown, ht, hg, hI, hJ, hXs, hbl, hst, hL⟩ := C0
  have hN : NW s := hg.2.2.2.2.1
  have hbA : ¬ SA s.heap.size b := Nat.not_le.mpr hbl
  intro μ ν nv sw H locs ls hJI hw hl
  have hi1 : (i + (1 : Int32)).toInt = i.toInt + 1 := ii_a rfl (show (1 : Int32).toInt = 1 from rfl) (by omega) (by omega)
  have hi2 : (i + (2 : Int32)).toInt = i.toInt + 2 := ii_a rfl (show (2 : Int32).toInt = 2 from rfl) (by omega) (by omega)
  have hi3 : (i + (3 : Int32)).toInt = i.toInt + 3 := ii_a rfl (show (3 : Int32).toInt = 3 from rfl) (by omega) (by omega)
  have hi4 : (i + (4 : Int32)).toInt = i.toInt + 4 := ii_a rfl (show (4 : Int32).toInt = 4 from rfl) (by omega) (by omega)
  have hi5 : (i + (5 : Int32)).toInt = i.toInt + 5 := ii_a rfl (show (5 : Int32).toInt = 5 from rfl) (by omega) (by omega)
  have hv0 : vp_in i L := vin (by omega)
  have hv1 : vp_in (i + (1 : Int32)) L := vin (by omega)
  have hv2 : vp_in (i + (2 : Int32)) L := vin (by omega)
  have hv3 : vp_in (i + (3 : Int32)) L := vin (by omega)
  have hv4 : vp_in (i + (4 : Int32)) L := vin (by omega)
  have hv5 : vp_in (i + (5 : Int32)) L := vin (by omega)
  refine lv_aload_n hx hb dL_law_941 rfl (lv_at hl 1 rfl) ?_
  refine lv_aload_n hx hb dL_law_942 rfl (lv_at hl 0 rfl) ?_
  refine lv_iload hx hb dL_law_943 (lv_at hl 4 rfl) ?_
  refine lv_iconst (v := (1 : Int32)) hx hb dL_law_945 (by decide) ?_
  refine lv_iadd hx hb dL_law_946 ?_
  refine va_sld hx hb hXs hbl hbA hw.2.2.1 (i := (i + (1 : Int32))) hv1 dL_law_947 ?_
  refine lv_aload_n hx hb dL_law_948 rfl (lv_at hl 0 rfl) ?_
  refine lv_iload hx hb dL_law_949 (lv_at hl 4 rfl) ?_
  refine lv_iconst (v := (2 : Int32)) hx hb dL_law_951 (by decide) ?_
  refine lv_iadd hx hb dL_law_952 ?_
  refine va_sld hx hb hXs hbl hbA hw.2.2.1 (i := (i + (2 : Int32))) hv2 dL_law_953 ?_
  refine lv_aload_n hx hb dL_law_954 rfl (lv_at hl 0 rfl) ?_
  refine lv_iload hx hb dL_law_955 (lv_at hl 4 rfl) ?_
  refine lv_iconst (v := (3 : Int32)) hx hb dL_law_957 (by decide) ?_
  refine lv_iadd hx hb dL_law_958 ?_
  refine va_sld hx hb hXs hbl hbA hw.2.2.1 (i := (i + (3 : Int32))) hv3 dL_law_959 ?_
  refine lv_aload_n hx hb dL_law_960 rfl (lv_at hl 3 rfl) ?_
  refine LL_call hw hI (vx_runSX (own := "LeastreaderLaw") (As := [.ref (ad 0), .int (xs (i + (1 : Int32)).toNatClampNeg), .int (xs (i + (2 : Int32)).toNatClampNeg), .int (xs (i + (3 : Int32)).toNatClampNeg), .ref q]) (rest := []) ⟨hx, hb, hml, hown, ht⟩ (c_L_arrows hst q nv sw μ H.size (xs (i + (1 : Int32)).toNatClampNeg) (xs (i + (2 : Int32)).toNatClampNeg) (xs (i + (3 : Int32)).toNatClampNeg) (PW := fun k u => RW_arrows JI ν (xs (i + (1 : Int32)).toNatClampNeg) (xs (i + (2 : Int32)).toNatClampNeg) (xs (i + (3 : Int32)).toNatClampNeg) k u.2.1 u.1) (hGM μ ν nv (xs (i + (1 : Int32)).toNatClampNeg) (xs (i + (2 : Int32)).toNatClampNeg) (xs (i + (3 : Int32)).toNatClampNeg) hJI)) (vx_cwSW 5 ht (G_S q_828 q_829 q_45 q_830) rfl rfl rfl vd_56 ⟨Nat.le_of_ble_eq_true rfl, Nat.le_of_ble_eq_true rfl⟩) ⟨LB.blind, hg.lb hI hw⟩ rfl rfl hl.1 rfl (lv_room (Nat.le_of_ble_eq_true rfl)) dL_law_961 ⟨show cv + 3 ≤ 600128 by omega, show sv + 18 ≤ 7301098 by omega⟩) (fun r1 μ1 nv1 sw1 H locs hq1 hw => ?_)
  refine lv_istore (lv' := [(5, .int r1), (0, .ref b), (1, .ref (ad 0)), (2, .ref (bd 0)), (3, .ref q), (4, .int i)]) hx hb dL_law_964 hl (by decide) rfl (fun ls hl => ?_)
  refine lv_aload_n hx hb dL_law_966 rfl (lv_at hl 3 rfl) ?_
  refine lv_aload_n hx hb dL_law_967 rfl (lv_at hl 1 rfl) ?_
  refine lv_iload hx hb dL_law_968 (lv_at hl 5 rfl) ?_
  refine lv_iconst (v := (1 : Int32)) hx hb dL_law_970 (by decide) ?_
  refine lv_iadd hx hb dL_law_971 ?_
  refine va_sld hx hb hXs hbl hbA hw.2.2.1 (i := (i + (1 : Int32))) hv1 dL_law_972 ?_
  refine lv_aload_n hx hb dL_law_973 rfl (lv_at hl 1 rfl) ?_
  refine lv_iload hx hb dL_law_974 (lv_at hl 5 rfl) ?_
  refine lv_iconst (v := (2 : Int32)) hx hb dL_law_976 (by decide) ?_
  refine lv_iadd hx hb dL_law_977 ?_
  refine va_sld hx hb hXs hbl hbA hw.2.2.1 (i := (i + (2 : Int32))) hv2 dL_law_978 ?_
  refine lv_aload_n hx hb dL_law_979 rfl (lv_at hl 1 rfl) ?_
  refine lv_iload hx hb dL_law_980 (lv_at hl 5 rfl) ?_
  refine lv_iconst (v := (3 : Int32)) hx hb dL_law_982 (by decide) ?_
  refine lv_iadd hx hb dL_law_983 ?_
  refine va_sld hx hb hXs hbl hbA hw.2.2.1 (i := (i + (3 : Int32))) hv3 dL_law_984 ?_
  refine M_calli hw (LZ_MA hw) (va_runV (own := "LeastreaderLaw") (As := [.int (xs (i + (1 : Int32)).toNatClampNeg), .int (xs (i + (2 : Int32)).toNatClampNeg), .int (xs (i + (3 : Int32)).toNatClampNeg)]) (rest := []) ⟨hx, hb, hml, hown, ht⟩ (c_X11_arrows ν H.size (xs (i + (1 : Int32)).toNatClampNeg) (xs (i + (2 : Int32)).toNatClampNeg) (xs (i + (3 : Int32)).toNatClampNeg) hq1) (cwV 3 ht (G_V q_1502 q_1503 q_1504 q_56 q_1505) rfl rfl rfl ⟨rfl, vd_57⟩ ⟨Nat.le_of_ble_eq_true rfl, Nat.le_of_ble_eq_true rfl⟩) ⟨MB.blind, M_recv hg.2.1 hw, MB.pre hg.2.1 hJ hw va_P0 ne0⟩ rfl rfl hl.1 rfl (lv_room (Nat.le_of_ble_eq_true rfl)) dL_law_985 ⟨show cv + 3 + 0 ≤ 600128 by omega, show sv + 18 + 0 ≤ 7301098 by omega⟩) (fun r2 ν2 H locs hf2 hw => ?_)
  refine lv_istore (lv' := [(6, .int r2), (5, .int r1), (0, .ref b), (1, .ref (ad 0)), (2, .ref (bd 0)), (3, .ref q), (4, .int i)]) hx hb dL_law_988 hl (by decide) rfl (fun ls hl => ?_)
  refine lv_goto (tgt := 1572) hx hb dL_law_990 (by decide) ?_
  refine W.widen (show cv + 3 + 0 ≤ cv + 2000 by omega) (show sv + 18 + 0 ≤ sv + 112000 by omega) ?_
  exact hJ3 μ1 ν2 nv1 sw1 H locs ls hf2 hw (lv_sub hl [2, 3, 4, 5, 6] rfl)
set_option maxHeartbeats 4000000 in
set_option maxRecDepth 100000 in
theorem law_15 {p : Program} {l : Launch} {e : Env} {s : State} {m : MethodId} {b : Nat} {below : List Frame} {meth : Method} {c : Code} {L : Nat} {xs : Nat → Int32} {D : va_G} {ad bd : Nat → Nat} {cI cL cM cB : ClassId} {q : Nat} {Z : State → Prop} {JI : TMem → TMem → Prop} {i : Int32} {cv sv : Nat} (hRI : ∀ {μ ν : TMem}, JI μ ν → RI ν) (hGM : GM_takes JI) (C0 : LC p l s m b c L xs D ad bd cI cL cM cB) (hi : 0 ≤ i.toInt) (hiL : i.toInt + 6 ≤ L) (hcv : cv + 2000 ≤ 600128) (hsv : sv + 112000 ≤ 7301098) (hJ3 : LJ p l e s m b below meth c D ad bd cI cM q Z JI i (cv + 2000) (sv + 112000) 1572) : LJ p l e s m b below meth c D ad bd cI cM q Z JI i cv sv 993 := by
  obtain ⟨hx, hb, hml, hown, ht, hg, hI, hJ, hXs, hbl, hst, hL⟩ := C0
  have hN : NW s := hg.2.2.2.2.1
  have hbA : ¬ SA s.heap.size b := Nat.not_le.mpr hbl
  intro μ ν nv sw H locs ls hJI hw hl
  have hi1 : (i + (1 : Int32)).toInt = i.toInt + 1 := ii_a rfl (show (1 : Int32).toInt = 1 from rfl) (by omega) (by omega)
  have hi2 : (i + (2 : Int32)).toInt = i.toInt + 2 := ii_a rfl (show (2 : Int32).toInt = 2 from rfl) (by omega) (by omega)
  have hi3 : (i + (3 : Int32)).toInt = i.toInt + 3 := ii_a rfl (show (3 : Int32).toInt = 3 from rfl) (by omega) (by omega)
  have hi4 : (i + (4 : Int32)).toInt = i.toInt + 4 := ii_a rfl (show (4 : Int32).toInt = 4 from rfl) (by omega) (by omega)
  have hi5 : (i + (5 : Int32)).toInt = i.toInt + 5 := ii_a rfl (show (5 : Int32).toInt = 5 from rfl) (by omega) (by omega)
  have hv0 : vp_in i L := vin (by omega)
  have hv1 : vp_in (i + (1 : Int32)) L := vin (by omega)
  have hv2 : vp_in (i + (2 : Int32)) L := vin (by omega)
  have hv3 : vp_in (i + (3 : Int32)) L := vin (by omega)
  have hv4 : vp_in (i + (4 : Int32)) L := vin (by omega)
  have hv5 : vp_in (i + (5 : Int32)) L := vin (by omega)
  refine lv_aload_n hx hb dL_law_993 rfl (lv_at hl 1 rfl) ?_
  refine lv_aload_n hx hb dL_law_994 rfl (lv_at hl 0 rfl) ?_
  refine lv_iload hx hb dL_law_995 (lv_at hl 4 rfl) ?_
  refine lv_iconst (v := (1 : Int32)) hx hb dL_law_997 (by decide) ?_
  refine lv_iadd hx hb dL_law_998 ?_
  refine va_sld hx hb hXs hbl hbA hw.2.2.1 (i := (i + (1 : Int32))) hv1 dL_law_999 ?_
  refine lv_aload_n hx hb dL_law_1000 rfl (lv_at hl 0 rfl) ?_
  refine lv_iload hx hb dL_law_1001 (lv_at hl 4 rfl) ?_
  refine lv_iconst (v := (2 : Int32)) hx hb dL_law_1003 (by decide) ?_
  refine lv_iadd hx hb dL_law_1004 ?_
  refine va_sld hx hb hXs hbl hbA hw.2.2.1 (i := (i + (2 : Int32))) hv2 dL_law_1005 ?_
  refine lv_aload_n hx hb dL_law_1006 rfl (lv_at hl 0 rfl) ?_
  refine lv_iload hx hb dL_law_1007 (lv_at hl 4 rfl) ?_
  refine lv_iconst (v := (3 : Int32)) hx hb dL_law_1009 (by decide) ?_
  refine lv_iadd hx hb dL_law_1010 ?_
  refine va_sld hx hb hXs hbl hbA hw.2.2.1 (i := (i + (3 : Int32))) hv3 dL_law_1011 ?_
  refine lv_aload_n hx hb dL_law_1012 rfl (lv_at hl 3 rfl) ?_
  refine LL_call hw hI (vx_runSX (own := "LeastreaderLaw") (As := [.ref (ad 0), .int (xs (i + (1 : Int32)).toNatClampNeg), .int (xs (i + (2 : Int32)).toNatClampNeg), .int (xs (i + (3 : Int32)).toNatClampNeg), .ref q]) (rest := []) ⟨hx, hb, hml, hown, ht⟩ (c_L_takes hst q nv sw μ H.size (xs (i + (1 : Int32)).toNatClampNeg) (xs (i + (2 : Int32)).toNatClampNeg) (xs (i + (3 : Int32)).toNatClampNeg) (PW := fun k u => RW_takes JI ν (xs (i + (1 : Int32)).toNatClampNeg) (xs (i + (2 : Int32)).toNatClampNeg) (xs (i + (3 : Int32)).toNatClampNeg) k u.2.1 u.1) (hGM μ ν nv (xs (i + (1 : Int32)).toNatClampNeg) (xs (i + (2 : Int32)).toNatClampNeg) (xs (i + (3 : Int32)).toNatClampNeg) hJI)) (vx_cwSW 5 ht (G_S q_835 q_836 q_45 q_837) rfl rfl rfl vd_58 ⟨Nat.le_of_ble_eq_true rfl, Nat.le_of_ble_eq_true rfl⟩) ⟨LB.blind, hg.lb hI hw⟩ rfl rfl hl.1 rfl (lv_room (Nat.le_of_ble_eq_true rfl)) dL_law_1013 ⟨show cv + 3 ≤ 600128 by omega, show sv + 18 ≤ 7301098 by omega⟩) (fun r1 μ1 nv1 sw1 H locs hq1 hw => ?_)
  refine lv_istore (lv' := [(5, .int r1), (0, .ref b), (1, .ref (ad 0)), (2, .ref (bd 0)), (3, .ref q), (4, .int i)]) hx hb dL_law_1016 hl (by decide) rfl (fun ls hl => ?_)
  refine lv_aload_n hx hb dL_law_1018 rfl (lv_at hl 3 rfl) ?_
  refine lv_aload_n hx hb dL_law_1019 rfl (lv_at hl 1 rfl) ?_
  refine lv_iload hx hb dL_law_1020 (lv_at hl 5 rfl) ?_
  refine lv_iconst (v := (1 : Int32)) hx hb dL_law_1022 (by decide) ?_
  refine lv_iadd hx hb dL_law_1023 ?_
  refine va_sld hx hb hXs hbl hbA hw.2.2.1 (i := (i + (1 : Int32))) hv1 dL_law_1024 ?_
  refine lv_aload_n hx hb dL_law_1025 rfl (lv_at hl 1 rfl) ?_
  refine lv_iload hx hb dL_law_1026 (lv_at hl 5 rfl) ?_
  refine lv_iconst (v := (2 : Int32)) hx hb dL_law_1028 (by decide) ?_
  refine lv_iadd hx hb dL_law_1029 ?_
  refine va_sld hx hb hXs hbl hbA hw.2.2.1 (i := (i + (2 : Int32))) hv2 dL_law_1030 ?_
  refine lv_aload_n hx hb dL_law_1031 rfl (lv_at hl 1 rfl) ?_
  refine lv_iload hx hb dL_law_1032 (lv_at hl 5 rfl) ?_
  refine lv_iconst (v := (3 : Int32)) hx hb dL_law_1034 (by decide) ?_
  refine lv_iadd hx hb dL_law_1035 ?_
  refine va_sld hx hb hXs hbl hbA hw.2.2.1 (i := (i + (3 : Int32))) hv3 dL_law_1036 ?_
  refine M_calli hw (LZ_MA hw) (va_runV (own := "LeastreaderLaw") (As := [.int (xs (i + (1 : Int32)).toNatClampNeg), .int (xs (i + (2 : Int32)).toNatClampNeg), .int (xs (i + (3 : Int32)).toNatClampNeg)]) (rest := []) ⟨hx, hb, hml, hown, ht⟩ (c_X11_takes ν H.size (xs (i + (1 : Int32)).toNatClampNeg) (xs (i + (2 : Int32)).toNatClampNeg) (xs (i + (3 : Int32)).toNatClampNeg) hq1) (cwV 3 ht (G_V q_1506 q_1507 q_1508 q_56 q_1509) rfl rfl rfl ⟨rfl, vd_59⟩ ⟨Nat.le_of_ble_eq_true rfl, Nat.le_of_ble_eq_true rfl⟩) ⟨MB.blind, M_recv hg.2.1 hw, MB.pre hg.2.1 hJ hw va_P0 ne0⟩ rfl rfl hl.1 rfl (lv_room (Nat.le_of_ble_eq_true rfl)) dL_law_1037 ⟨show cv + 3 + 0 ≤ 600128 by omega, show sv + 18 + 0 ≤ 7301098 by omega⟩) (fun r2 ν2 H locs hf2 hw => ?_)
  refine lv_istore (lv' := [(6, .int r2), (5, .int r1), (0, .ref b), (1, .ref (ad 0)), (2, .ref (bd 0)), (3, .ref q), (4, .int i)]) hx hb dL_law_1040 hl (by decide) rfl (fun ls hl => ?_)
  refine lv_goto (tgt := 1572) hx hb dL_law_1042 (by decide) ?_
  refine W.widen (show cv + 3 + 0 ≤ cv + 2000 by omega) (show sv + 18 + 0 ≤ sv + 112000 by omega) ?_
  exact hJ3 μ1 ν2 nv1 sw1 H locs ls hf2 hw (lv_sub hl [2, 3, 4, 5, 6] rfl)
set_option maxHeartbeats 4000000 in
set_option maxRecDepth 100000 in
theorem law_16 {p : Program} {l : Launch} {e : Env} {s : State} {m : MethodId} {b : Nat} {below : List Frame} {meth : Method} {c : Code} {L : Nat} {xs : Nat → Int32} {D : va_G} {ad bd : Nat → Nat} {cI cL cM cB : ClassId} {q : Nat} {Z : State → Prop} {JI : TMem → TMem → Prop} {i : Int32} {cv sv : Nat} (hRI : ∀ {μ ν : TMem}, JI μ ν → RI ν) (hGM : GM_after JI) (C0 : LC p l s m b c L xs D ad bd cI cL cM cB) (hi : 0 ≤ i.toInt) (hiL : i.toInt + 6 ≤ L) (hcv : cv + 2000 ≤ 600128) (hsv : sv + 112000 ≤ 7301098) (hJ3 : LJ p l e s m b below meth c D ad bd cI cM q Z JI i (cv + 2000) (sv + 112000) 1572) : LJ p l e s m b below meth c D ad bd cI cM q Z JI i cv sv 1045 := by
  obtain ⟨hx, hb, hml, hown, ht, hg, hI, hJ, hXs, hbl, hst, hL⟩ := C0
  have hN : NW s := hg.2.2.2.2.1
  have hbA : ¬ SA s.heap.size b := Nat.not_le.mpr hbl
  intro μ ν nv sw H locs ls hJI hw hl
  have hi1 : (i + (1 : Int32)).toInt = i.toInt + 1 := ii_a rfl (show (1 : Int32).toInt = 1 from rfl) (by omega) (by omega)
  have hi2 : (i + (2 : Int32)).toInt = i.toInt + 2 := ii_a rfl (show (2 : Int32).toInt = 2 from rfl) (by omega) (by omega)
  have hi3 : (i + (3 : Int32)).toInt = i.toInt + 3 := ii_a rfl (show (3 : Int32).toInt = 3 from rfl) (by omega) (by omega)
  have hi4 : (i + (4 : Int32)).toInt = i.toInt + 4 := ii_a rfl (show (4 : Int32).toInt = 4 from rfl) (by omega) (by omega)
  have hi5 : (i + (5 : Int32)).toInt = i.toInt + 5 := ii_a rfl (show (5 : Int32).toInt = 5 from rfl) (by omega) (by omega)
  have hv0 : vp_in i L := vin (by omega)
  have hv1 : vp_in (i + (1 : Int32)) L := vin (by omega)
  have hv2 : vp_in (i + (2 : Int32)) L := vin (by omega)
  have hv3 : vp_in (i + (3 : Int32)) L := vin (by omega)
  have hv4 : vp_in (i + (4 : Int32)) L := vin (by omega)
  have hv5 : vp_in (i + (5 : Int32)) L := vin (by omega)
  refine lv_aload_n hx hb dL_law_1045 rfl (lv_at hl 1 rfl) ?_
  refine lv_aload_n hx hb dL_law_1046 rfl (lv_at hl 0 rfl) ?_
  refine lv_iload hx hb dL_law_1047 (lv_at hl 4 rfl) ?_
  refine lv_iconst (v := (1 : Int32)) hx hb dL_law_1049 (by decide) ?_
  refine lv_iadd hx hb dL_law_1050 ?_
  refine va_sld hx hb hXs hbl hbA hw.2.2.1 (i := (i + (1 : Int32))) hv1 dL_law_1051 ?_
  refine lv_aload_n hx hb dL_law_1052 rfl (lv_at hl 0 rfl) ?_
  refine lv_iload hx hb dL_law_1053 (lv_at hl 4 rfl) ?_
  refine lv_iconst (v := (2 : Int32)) hx hb dL_law_1055 (by decide) ?_
  refine lv_iadd hx hb dL_law_1056 ?_
  refine va_sld hx hb hXs hbl hbA hw.2.2.1 (i := (i + (2 : Int32))) hv2 dL_law_1057 ?_
  refine lv_aload_n hx hb dL_law_1058 rfl (lv_at hl 0 rfl) ?_
  refine lv_iload hx hb dL_law_1059 (lv_at hl 4 rfl) ?_
  refine lv_iconst (v := (3 : Int32)) hx hb dL_law_1061 (by decide) ?_
  refine lv_iadd hx hb dL_law_1062 ?_
  refine va_sld hx hb hXs hbl hbA hw.2.2.1 (i := (i + (3 : Int32))) hv3 dL_law_1063 ?_
  refine lv_aload_n hx hb dL_law_1064 rfl (lv_at hl 0 rfl) ?_
  refine lv_iload hx hb dL_law_1065 (lv_at hl 4 rfl) ?_
  refine lv_iconst (v := (4 : Int32)) hx hb dL_law_1067 (by decide) ?_
  refine lv_iadd hx hb dL_law_1068 ?_
  refine va_sld hx hb hXs hbl hbA hw.2.2.1 (i := (i + (4 : Int32))) hv4 dL_law_1069 ?_
  refine lv_aload_n hx hb dL_law_1070 rfl (lv_at hl 3 rfl) ?_
  refine LL_call hw hI (vx_runSX (own := "LeastreaderLaw") (As := [.ref (ad 0), .int (xs (i + (1 : Int32)).toNatClampNeg), .int (xs (i + (2 : Int32)).toNatClampNeg), .int (xs (i + (3 : Int32)).toNatClampNeg), .int (xs (i + (4 : Int32)).toNatClampNeg), .ref q]) (rest := []) ⟨hx, hb, hml, hown, ht⟩ (c_L_after hst q nv sw μ H.size (xs (i + (1 : Int32)).toNatClampNeg) (xs (i + (2 : Int32)).toNatClampNeg) (xs (i + (3 : Int32)).toNatClampNeg) (xs (i + (4 : Int32)).toNatClampNeg) (PW := fun k u => RW_after JI ν (xs (i + (1 : Int32)).toNatClampNeg) (xs (i + (2 : Int32)).toNatClampNeg) (xs (i + (3 : Int32)).toNatClampNeg) (xs (i + (4 : Int32)).toNatClampNeg) k u.2.1 u.1) (hGM μ ν nv (xs (i + (1 : Int32)).toNatClampNeg) (xs (i + (2 : Int32)).toNatClampNeg) (xs (i + (3 : Int32)).toNatClampNeg) (xs (i + (4 : Int32)).toNatClampNeg) hJI)) (vx_cwSW 6 ht (G_S q_845 q_846 q_45 q_847) rfl rfl rfl vd_60 ⟨Nat.le_of_ble_eq_true rfl, Nat.le_of_ble_eq_true rfl⟩) ⟨LB.blind, hg.lb hI hw⟩ rfl rfl hl.1 rfl (lv_room (Nat.le_of_ble_eq_true rfl)) dL_law_1071 ⟨show cv + 5 ≤ 600128 by omega, show sv + 30 ≤ 7301098 by omega⟩) (fun r1 μ1 nv1 sw1 H locs hq1 hw => ?_)
  refine lv_istore (lv' := [(5, .int r1), (0, .ref b), (1, .ref (ad 0)), (2, .ref (bd 0)), (3, .ref q), (4, .int i)]) hx hb dL_law_1074 hl (by decide) rfl (fun ls hl => ?_)
  refine lv_aload_n hx hb dL_law_1076 rfl (lv_at hl 3 rfl) ?_
  refine lv_aload_n hx hb dL_law_1077 rfl (lv_at hl 1 rfl) ?_
  refine lv_iload hx hb dL_law_1078 (lv_at hl 5 rfl) ?_
  refine lv_iconst (v := (1 : Int32)) hx hb dL_law_1080 (by decide) ?_
  refine lv_iadd hx hb dL_law_1081 ?_
  refine va_sld hx hb hXs hbl hbA hw.2.2.1 (i := (i + (1 : Int32))) hv1 dL_law_1082 ?_
  refine lv_aload_n hx hb dL_law_1083 rfl (lv_at hl 1 rfl) ?_
  refine lv_iload hx hb dL_law_1084 (lv_at hl 5 rfl) ?_
  refine lv_iconst (v := (2 : Int32)) hx hb dL_law_1086 (by decide) ?_
  refine lv_iadd hx hb dL_law_1087 ?_
  refine va_sld hx hb hXs hbl hbA hw.2.2.1 (i := (i + (2 : Int32))) hv2 dL_law_1088 ?_
  refine lv_aload_n hx hb dL_law_1089 rfl (lv_at hl 1 rfl) ?_
  refine lv_iload hx hb dL_law_1090 (lv_at hl 5 rfl) ?_
  refine lv_iconst (v := (3 : Int32)) hx hb dL_law_1092 (by decide) ?_
  refine lv_iadd hx hb dL_law_1093 ?_
  refine va_sld hx hb hXs hbl hbA hw.2.2.1 (i := (i + (3 : Int32))) hv3 dL_law_1094 ?_
  refine lv_aload_n hx hb dL_law_1095 rfl (lv_at hl 1 rfl) ?_
  refine lv_iload hx hb dL_law_1096 (lv_at hl 5 rfl) ?_
  refine lv_iconst (v := (4 : Int32)) hx hb dL_law_1098 (by decide) ?_
  refine lv_iadd hx hb dL_law_1099 ?_
  refine va_sld hx hb hXs hbl hbA hw.2.2.1 (i := (i + (4 : Int32))) hv4 dL_law_1100 ?_
  refine M_calli hw (LZ_MA hw) (va_runV (own := "LeastreaderLaw") (As := [.int (xs (i + (1 : Int32)).toNatClampNeg), .int (xs (i + (2 : Int32)).toNatClampNeg), .int (xs (i + (3 : Int32)).toNatClampNeg), .int (xs (i + (4 : Int32)).toNatClampNeg)]) (rest := []) ⟨hx, hb, hml, hown, ht⟩ (c_X11_after ν H.size (xs (i + (1 : Int32)).toNatClampNeg) (xs (i + (2 : Int32)).toNatClampNeg) (xs (i + (3 : Int32)).toNatClampNeg) (xs (i + (4 : Int32)).toNatClampNeg) hq1) (cwV 4 ht (G_V q_1520 q_1521 q_1522 q_56 q_1523) rfl rfl rfl ⟨rfl, vd_61⟩ ⟨Nat.le_of_ble_eq_true rfl, Nat.le_of_ble_eq_true rfl⟩) ⟨MB.blind, M_recv hg.2.1 hw, MB.pre hg.2.1 hJ hw va_P0 ne0⟩ rfl rfl hl.1 rfl (lv_room (Nat.le_of_ble_eq_true rfl)) dL_law_1101 ⟨show cv + 5 + 41 ≤ 600128 by omega, show sv + 30 + 1685 ≤ 7301098 by omega⟩) (fun r2 ν2 H locs hf2 hw => ?_)
  refine lv_istore (lv' := [(6, .int r2), (5, .int r1), (0, .ref b), (1, .ref (ad 0)), (2, .ref (bd 0)), (3, .ref q), (4, .int i)]) hx hb dL_law_1104 hl (by decide) rfl (fun ls hl => ?_)
  refine lv_goto (tgt := 1572) hx hb dL_law_1106 (by decide) ?_
  refine W.widen (show cv + 5 + 41 ≤ cv + 2000 by omega) (show sv + 30 + 1685 ≤ sv + 112000 by omega) ?_
  exact hJ3 μ1 ν2 nv1 sw1 H locs ls hf2 hw (lv_sub hl [2, 3, 4, 5, 6] rfl)
set_option maxHeartbeats 4000000 in
set_option maxRecDepth 100000 in
theorem law_17 {p : Program} {l : Launch} {e : Env} {s : State} {m : MethodId} {b : Nat} {below : List Frame} {meth : Method} {c : Code} {L : Nat} {xs : Nat → Int32} {D : va_G} {ad bd : Nat → Nat} {cI cL cM cB : ClassId} {q : Nat} {Z : State → Prop} {JI : TMem → TMem → Prop} {i : Int32} {cv sv : Nat} (hRI : ∀ {μ ν : TMem}, JI μ ν → RI ν) (hGM : GM_size JI) (C0 : LC p l s m b c L xs D ad bd cI cL cM cB) (hi : 0 ≤ i.toInt) (hiL : i.toInt + 6 ≤ L) (hcv : cv + 2000 ≤ 600128) (hsv : sv + 112000 ≤ 7301098) (hJ3 : LJ p l e s m b below meth c D ad bd cI cM q Z JI i (cv + 2000) (sv + 112000) 1572) : LJ p l e s m b below meth c D ad bd cI cM q Z JI i cv sv 1109 := by
  obtain ⟨hx, hb, hml, hown, ht, hg, hI, hJ, hXs, hbl, hst, hL⟩ := C0
  have hN : NW s := hg.2.2.2.2.1
  have hbA : ¬ SA s.heap.size b := Nat.not_le.mpr hbl
  intro μ ν nv sw H locs ls hJI hw hl
  have hi1 : (i + (1 : Int32)).toInt = i.toInt + 1 := ii_a rfl (show (1 : Int32).toInt = 1 from rfl) (by omega) (by omega)
  have hi2 : (i + (2 : Int32)).toInt = i.toInt + 2 := ii_a rfl (show (2 : Int32).toInt = 2 from rfl) (by omega) (by omega)
  have hi3 : (i + (3 : Int32)).toInt = i.toInt + 3 := ii_a rfl (show (3 : Int32).toInt = 3 from rfl) (by omega) (by omega)
  have hi4 : (i + (4 : Int32)).toInt = i.toInt + 4 := ii_a rfl (show (4 : Int32).toInt = 4 from rfl) (by omega) (by omega)
  have hi5 : (i + (5 : Int32)).toInt = i.toInt + 5 := ii_a rfl (show (5 : Int32).toInt = 5 from rfl) (by omega) (by omega)
  have hv0 : vp_in i L := vin (by omega)
  have hv1 : vp_in (i + (1 : Int32)) L := vin (by omega)
  have hv2 : vp_in (i + (2 : Int32)) L := vin (by omega)
  have hv3 : vp_in (i + (3 : Int32)) L := vin (by omega)
  have hv4 : vp_in (i + (4 : Int32)) L := vin (by omega)
  have hv5 : vp_in (i + (5 : Int32)) L := vin (by omega)
  refine lv_aload_n hx hb dL_law_1109 rfl (lv_at hl 1 rfl) ?_
  refine lv_aload_n hx hb dL_law_1110 rfl (lv_at hl 0 rfl) ?_
  refine lv_iload hx hb dL_law_1111 (lv_at hl 4 rfl) ?_
  refine lv_iconst (v := (1 : Int32)) hx hb dL_law_1113 (by decide) ?_
  refine lv_iadd hx hb dL_law_1114 ?_
  refine va_sld hx hb hXs hbl hbA hw.2.2.1 (i := (i + (1 : Int32))) hv1 dL_law_1115 ?_
  refine lv_aload_n hx hb dL_law_1116 rfl (lv_at hl 0 rfl) ?_
  refine lv_iload hx hb dL_law_1117 (lv_at hl 4 rfl) ?_
  refine lv_iconst (v := (2 : Int32)) hx hb dL_law_1119 (by decide) ?_
  refine lv_iadd hx hb dL_law_1120 ?_
  refine va_sld hx hb hXs hbl hbA hw.2.2.1 (i := (i + (2 : Int32))) hv2 dL_law_1121 ?_
  refine lv_aload_n hx hb dL_law_1122 rfl (lv_at hl 3 rfl) ?_
  refine LL_call hw hI (vx_runSX (own := "LeastreaderLaw") (As := [.ref (ad 0), .int (xs (i + (1 : Int32)).toNatClampNeg), .int (xs (i + (2 : Int32)).toNatClampNeg), .ref q]) (rest := []) ⟨hx, hb, hml, hown, ht⟩ (c_L_size hst q nv sw μ H.size (xs (i + (1 : Int32)).toNatClampNeg) (xs (i + (2 : Int32)).toNatClampNeg) (PW := fun k u => RW_size JI ν (xs (i + (1 : Int32)).toNatClampNeg) (xs (i + (2 : Int32)).toNatClampNeg) k u.2.1 u.1) (hGM μ ν nv (xs (i + (1 : Int32)).toNatClampNeg) (xs (i + (2 : Int32)).toNatClampNeg) hJI)) (vx_cwSW 4 ht (G_S q_874 q_875 q_45 q_876) rfl rfl rfl vd_62 ⟨Nat.le_of_ble_eq_true rfl, Nat.le_of_ble_eq_true rfl⟩) ⟨LB.blind, hg.lb hI hw⟩ rfl rfl hl.1 rfl (lv_room (Nat.le_of_ble_eq_true rfl)) dL_law_1123 ⟨show cv + 3 ≤ 600128 by omega, show sv + 18 ≤ 7301098 by omega⟩) (fun r1 μ1 nv1 sw1 H locs hq1 hw => ?_)
  refine lv_istore (lv' := [(5, .int r1), (0, .ref b), (1, .ref (ad 0)), (2, .ref (bd 0)), (3, .ref q), (4, .int i)]) hx hb dL_law_1126 hl (by decide) rfl (fun ls hl => ?_)
  refine lv_aload_n hx hb dL_law_1128 rfl (lv_at hl 3 rfl) ?_
  refine lv_aload_n hx hb dL_law_1129 rfl (lv_at hl 1 rfl) ?_
  refine lv_iload hx hb dL_law_1130 (lv_at hl 5 rfl) ?_
  refine lv_iconst (v := (1 : Int32)) hx hb dL_law_1132 (by decide) ?_
  refine lv_iadd hx hb dL_law_1133 ?_
  refine va_sld hx hb hXs hbl hbA hw.2.2.1 (i := (i + (1 : Int32))) hv1 dL_law_1134 ?_
  refine lv_aload_n hx hb dL_law_1135 rfl (lv_at hl 1 rfl) ?_
  refine lv_iload hx hb dL_law_1136 (lv_at hl 5 rfl) ?_
  refine lv_iconst (v := (2 : Int32)) hx hb dL_law_1138 (by decide) ?_
  refine lv_iadd hx hb dL_law_1139 ?_
  refine va_sld hx hb hXs hbl hbA hw.2.2.1 (i := (i + (2 : Int32))) hv2 dL_law_1140 ?_
  refine M_calli hw (LZ_MA hw) (va_runV (own := "LeastreaderLaw") (As := [.int (xs (i + (1 : Int32)).toNatClampNeg), .int (xs (i + (2 : Int32)).toNatClampNeg)]) (rest := []) ⟨hx, hb, hml, hown, ht⟩ (c_X11_size ν H.size (xs (i + (1 : Int32)).toNatClampNeg) (xs (i + (2 : Int32)).toNatClampNeg) hq1) (cwV 2 ht (G_V q_1528 q_1529 q_1530 q_56 q_1531) rfl rfl rfl ⟨rfl, vd_63⟩ ⟨Nat.le_of_ble_eq_true rfl, Nat.le_of_ble_eq_true rfl⟩) ⟨MB.blind, M_recv hg.2.1 hw, MB.pre hg.2.1 hJ hw va_P0 ne0⟩ rfl rfl hl.1 rfl (lv_room (Nat.le_of_ble_eq_true rfl)) dL_law_1141 ⟨show cv + 3 + 41 ≤ 600128 by omega, show sv + 18 + 1685 ≤ 7301098 by omega⟩) (fun r2 ν2 H locs hf2 hw => ?_)
  refine lv_istore (lv' := [(6, .int r2), (5, .int r1), (0, .ref b), (1, .ref (ad 0)), (2, .ref (bd 0)), (3, .ref q), (4, .int i)]) hx hb dL_law_1144 hl (by decide) rfl (fun ls hl => ?_)
  refine lv_goto (tgt := 1572) hx hb dL_law_1146 (by decide) ?_
  refine W.widen (show cv + 3 + 41 ≤ cv + 2000 by omega) (show sv + 18 + 1685 ≤ sv + 112000 by omega) ?_
  exact hJ3 μ1 ν2 nv1 sw1 H locs ls hf2 hw (lv_sub hl [2, 3, 4, 5, 6] rfl)
set_option maxHeartbeats 4000000 in
set_option maxRecDepth 100000 in
theorem law_18 {p : Program} {l : Launch} {e : Env} {s : State} {m : MethodId} {b : Nat} {below : List Frame} {meth : Method} {c : Code} {L : Nat} {xs : Nat → Int32} {D : va_G} {ad bd : Nat → Nat} {cI cL cM cB : ClassId} {q : Nat} {Z : State → Prop} {JI : TMem → TMem → Prop} {i : Int32} {cv sv : Nat} (hRI : ∀ {μ ν : TMem}, JI μ ν → RI ν) (hGM : GM_text JI) (C0 : LC p l s m b c L xs D ad bd cI cL cM cB) (hi : 0 ≤ i.toInt) (hiL : i.toInt + 6 ≤ L) (hcv : cv + 2000 ≤ 600128) (hsv : sv + 112000 ≤ 7301098) (hJ3 : LJ p l e s m b below meth c D ad bd cI cM q Z JI i (cv + 2000) (sv + 112000) 1572) : LJ p l e s m b below meth c D ad bd cI cM q Z JI i cv sv 1149 := by
  obtain ⟨hx, hb, hml, hown, ht, hg, hI, hJ, hXs, hbl, hst, hL⟩ := C0
  have hN : NW s := hg.2.2.2.2.1
  have hbA : ¬ SA s.heap.size b := Nat.not_le.mpr hbl
  intro μ ν nv sw H locs ls hJI hw hl
  have hi1 : (i + (1 : Int32)).toInt = i.toInt + 1 := ii_a rfl (show (1 : Int32).toInt = 1 from rfl) (by omega) (by omega)
  have hi2 : (i + (2 : Int32)).toInt = i.toInt + 2 := ii_a rfl (show (2 : Int32).toInt = 2 from rfl) (by omega) (by omega)
  have hi3 : (i + (3 : Int32)).toInt = i.toInt + 3 := ii_a rfl (show (3 : Int32).toInt = 3 from rfl) (by omega) (by omega)
  have hi4 : (i + (4 : Int32)).toInt = i.toInt + 4 := ii_a rfl (show (4 : Int32).toInt = 4 from rfl) (by omega) (by omega)
  have hi5 : (i + (5 : Int32)).toInt = i.toInt + 5 := ii_a rfl (show (5 : Int32).toInt = 5 from rfl) (by omega) (by omega)
  have hv0 : vp_in i L := vin (by omega)
  have hv1 : vp_in (i + (1 : Int32)) L := vin (by omega)
  have hv2 : vp_in (i + (2 : Int32)) L := vin (by omega)
  have hv3 : vp_in (i + (3 : Int32)) L := vin (by omega)
  have hv4 : vp_in (i + (4 : Int32)) L := vin (by omega)
  have hv5 : vp_in (i + (5 : Int32)) L := vin (by omega)
  refine lv_aload_n hx hb dL_law_1149 rfl (lv_at hl 1 rfl) ?_
  refine lv_aload_n hx hb dL_law_1150 rfl (lv_at hl 0 rfl) ?_
  refine lv_iload hx hb dL_law_1151 (lv_at hl 4 rfl) ?_
  refine lv_iconst (v := (1 : Int32)) hx hb dL_law_1153 (by decide) ?_
  refine lv_iadd hx hb dL_law_1154 ?_
  refine va_sld hx hb hXs hbl hbA hw.2.2.1 (i := (i + (1 : Int32))) hv1 dL_law_1155 ?_
  refine lv_aload_n hx hb dL_law_1156 rfl (lv_at hl 0 rfl) ?_
  refine lv_iload hx hb dL_law_1157 (lv_at hl 4 rfl) ?_
  refine lv_iconst (v := (2 : Int32)) hx hb dL_law_1159 (by decide) ?_
  refine lv_iadd hx hb dL_law_1160 ?_
  refine va_sld hx hb hXs hbl hbA hw.2.2.1 (i := (i + (2 : Int32))) hv2 dL_law_1161 ?_
  refine lv_aload_n hx hb dL_law_1162 rfl (lv_at hl 3 rfl) ?_
  refine LL_call hw hI (vx_runSX (own := "LeastreaderLaw") (As := [.ref (ad 0), .int (xs (i + (1 : Int32)).toNatClampNeg), .int (xs (i + (2 : Int32)).toNatClampNeg), .ref q]) (rest := []) ⟨hx, hb, hml, hown, ht⟩ (c_L_text hst q nv sw μ H.size (xs (i + (1 : Int32)).toNatClampNeg) (xs (i + (2 : Int32)).toNatClampNeg) (PW := fun _ u => RW_text JI ν u.1) (hGM μ ν (xs (i + (1 : Int32)).toNatClampNeg) (xs (i + (2 : Int32)).toNatClampNeg) hJI)) (vx_cwSW 4 ht (G_S q_881 q_882 q_45 q_883) rfl rfl rfl vd_64 ⟨Nat.le_of_ble_eq_true rfl, Nat.le_of_ble_eq_true rfl⟩) ⟨LB.blind, hg.lb hI hw⟩ rfl rfl hl.1 rfl (lv_room (Nat.le_of_ble_eq_true rfl)) dL_law_1163 ⟨show cv + 503 ≤ 600128 by omega, show sv + 20018 ≤ 7301098 by omega⟩) (fun r1 μ1 nv1 sw1 H locs hq1 hw => ?_)
  refine lv_istore (lv' := [(5, .int r1), (0, .ref b), (1, .ref (ad 0)), (2, .ref (bd 0)), (3, .ref q), (4, .int i)]) hx hb dL_law_1166 hl (by decide) rfl (fun ls hl => ?_)
  refine lv_aload_n hx hb dL_law_1168 rfl (lv_at hl 3 rfl) ?_
  refine lv_aload_n hx hb dL_law_1169 rfl (lv_at hl 1 rfl) ?_
  refine lv_iload hx hb dL_law_1170 (lv_at hl 5 rfl) ?_
  refine lv_iconst (v := (1 : Int32)) hx hb dL_law_1172 (by decide) ?_
  refine lv_iadd hx hb dL_law_1173 ?_
  refine va_sld hx hb hXs hbl hbA hw.2.2.1 (i := (i + (1 : Int32))) hv1 dL_law_1174 ?_
  refine lv_aload_n hx hb dL_law_1175 rfl (lv_at hl 1 rfl) ?_
  refine lv_iload hx hb dL_law_1176 (lv_at hl 5 rfl) ?_
  refine lv_iconst (v := (2 : Int32)) hx hb dL_law_1178 (by decide) ?_
  refine lv_iadd hx hb dL_law_1179 ?_
  refine va_sld hx hb hXs hbl hbA hw.2.2.1 (i := (i + (2 : Int32))) hv2 dL_law_1180 ?_
  refine MS_callr hw (va_runV (own := "LeastreaderLaw") (As := [.int (xs (i + (1 : Int32)).toNatClampNeg), .int (xs (i + (2 : Int32)).toNatClampNeg)]) (rest := []) ⟨hx, hb, hml, hown, ht⟩ (c_X11_text ν H.size (xs (i + (1 : Int32)).toNatClampNeg) (xs (i + (2 : Int32)).toNatClampNeg) (hRI hJI)) (cwV 2 ht (G_V q_1532 q_1533 q_1534 q_56 q_1535) rfl rfl rfl ⟨rfl, vd_65⟩ ⟨Nat.le_of_ble_eq_true rfl, Nat.le_of_ble_eq_true rfl⟩) ⟨MBS.blind, M_recv hg.2.1 hw, hg.pS hJ hw⟩ rfl rfl hl.1 rfl (lv_room (Nat.le_of_ble_eq_true rfl)) dL_law_1181 ⟨show cv + 503 + 500 ≤ 600128 by omega, show sv + 20018 + 20000 ≤ 7301098 by omega⟩) (fun r2 ν2 H locs hf2 hw => ?_)
  refine lv_astore (lv' := [(6, .ref r2), (5, .int r1), (0, .ref b), (1, .ref (ad 0)), (2, .ref (bd 0)), (3, .ref q), (4, .int i)]) hx hb dL_law_1184 hl (by decide) rfl (fun ls hl => ?_)
  refine lv_goto (tgt := 1572) hx hb dL_law_1186 (by decide) ?_
  refine W.widen (show cv + 503 + 500 ≤ cv + 2000 by omega) (show sv + 20018 + 20000 ≤ sv + 112000 by omega) ?_
  exact hJ3 μ1 ν2 nv1 sw1 H locs ls (hq1 _ hf2) hw (lv_sub hl [2, 3, 4, 5, 6] rfl)
set_option maxHeartbeats 4000000 in
set_option maxRecDepth 100000 in
theorem law_19 {p : Program} {l : Launch} {e : Env} {s : State} {m : MethodId} {b : Nat} {below : List Frame} {meth : Method} {c : Code} {L : Nat} {xs : Nat → Int32} {D : va_G} {ad bd : Nat → Nat} {cI cL cM cB : ClassId} {q : Nat} {Z : State → Prop} {JI : TMem → TMem → Prop} {i : Int32} {cv sv : Nat} (hRI : ∀ {μ ν : TMem}, JI μ ν → RI ν) (hGM : GM_kind JI) (C0 : LC p l s m b c L xs D ad bd cI cL cM cB) (hi : 0 ≤ i.toInt) (hiL : i.toInt + 6 ≤ L) (hcv : cv + 2000 ≤ 600128) (hsv : sv + 112000 ≤ 7301098) (hJ3 : LJ p l e s m b below meth c D ad bd cI cM q Z JI i (cv + 2000) (sv + 112000) 1572) : LJ p l e s m b below meth c D ad bd cI cM q Z JI i cv sv 1189 := by
  obtain ⟨hx, hb, hml, hown, ht, hg, hI, hJ, hXs, hbl, hst, hL⟩ := C0
  have hN : NW s := hg.2.2.2.2.1
  have hbA : ¬ SA s.heap.size b := Nat.not_le.mpr hbl
  intro μ ν nv sw H locs ls hJI hw hl
  have hi1 : (i + (1 : Int32)).toInt = i.toInt + 1 := ii_a rfl (show (1 : Int32).toInt = 1 from rfl) (by omega) (by omega)
  have hi2 : (i + (2 : Int32)).toInt = i.toInt + 2 := ii_a rfl (show (2 : Int32).toInt = 2 from rfl) (by omega) (by omega)
  have hi3 : (i + (3 : Int32)).toInt = i.toInt + 3 := ii_a rfl (show (3 : Int32).toInt = 3 from rfl) (by omega) (by omega)
  have hi4 : (i + (4 : Int32)).toInt = i.toInt + 4 := ii_a rfl (show (4 : Int32).toInt = 4 from rfl) (by omega) (by omega)
  have hi5 : (i + (5 : Int32)).toInt = i.toInt + 5 := ii_a rfl (show (5 : Int32).toInt = 5 from rfl) (by omega) (by omega)
  have hv0 : vp_in i L := vin (by omega)
  have hv1 : vp_in (i + (1 : Int32)) L := vin (by omega)
  have hv2 : vp_in (i + (2 : Int32)) L := vin (by omega)
  have hv3 : vp_in (i + (3 : Int32)) L := vin (by omega)
  have hv4 : vp_in (i + (4 : Int32)) L := vin (by omega)
  have hv5 : vp_in (i + (5 : Int32)) L := vin (by omega)
  refine lv_aload_n hx hb dL_law_1189 rfl (lv_at hl 1 rfl) ?_
  refine lv_aload_n hx hb dL_law_1190 rfl (lv_at hl 0 rfl) ?_
  refine lv_iload hx hb dL_law_1191 (lv_at hl 4 rfl) ?_
  refine lv_iconst (v := (1 : Int32)) hx hb dL_law_1193 (by decide) ?_
  refine lv_iadd hx hb dL_law_1194 ?_
  refine va_sld hx hb hXs hbl hbA hw.2.2.1 (i := (i + (1 : Int32))) hv1 dL_law_1195 ?_
  refine lv_aload_n hx hb dL_law_1196 rfl (lv_at hl 3 rfl) ?_
  refine LL_call hw hI (vx_runSX (own := "LeastreaderLaw") (As := [.ref (ad 0), .int (xs (i + (1 : Int32)).toNatClampNeg), .ref q]) (rest := []) ⟨hx, hb, hml, hown, ht⟩ (c_L_kind hst q nv sw μ H.size (xs (i + (1 : Int32)).toNatClampNeg) (PW := fun k u => RW_kind JI ν (xs (i + (1 : Int32)).toNatClampNeg) k u.2.1 u.1) (hGM μ ν nv (xs (i + (1 : Int32)).toNatClampNeg) hJI)) (vx_cwSW 3 ht (G_S q_1158 q_1159 q_45 q_1160) rfl rfl rfl vd_66 ⟨Nat.le_of_ble_eq_true rfl, Nat.le_of_ble_eq_true rfl⟩) ⟨LB.blind, hg.lb hI hw⟩ rfl rfl hl.1 rfl (lv_room (Nat.le_of_ble_eq_true rfl)) dL_law_1197 ⟨show cv + 2 ≤ 600128 by omega, show sv + 12 ≤ 7301098 by omega⟩) (fun r1 μ1 nv1 sw1 H locs hq1 hw => ?_)
  refine lv_istore (lv' := [(5, .int r1), (0, .ref b), (1, .ref (ad 0)), (2, .ref (bd 0)), (3, .ref q), (4, .int i)]) hx hb dL_law_1200 hl (by decide) rfl (fun ls hl => ?_)
  refine lv_aload_n hx hb dL_law_1202 rfl (lv_at hl 3 rfl) ?_
  refine lv_aload_n hx hb dL_law_1203 rfl (lv_at hl 1 rfl) ?_
  refine lv_iload hx hb dL_law_1204 (lv_at hl 5 rfl) ?_
  refine lv_iconst (v := (1 : Int32)) hx hb dL_law_1206 (by decide) ?_
  refine lv_iadd hx hb dL_law_1207 ?_
  refine va_sld hx hb hXs hbl hbA hw.2.2.1 (i := (i + (1 : Int32))) hv1 dL_law_1208 ?_
  refine M_calli hw (LZ_MA hw) (va_runV (own := "LeastreaderLaw") (As := [.int (xs (i + (1 : Int32)).toNatClampNeg)]) (rest := []) ⟨hx, hb, hml, hown, ht⟩ (c_X11_kind ν H.size (xs (i + (1 : Int32)).toNatClampNeg) hq1) (cwV 1 ht (G_V q_1545 q_1546 q_1547 q_56 q_1548) rfl rfl rfl ⟨rfl, vd_67⟩ ⟨Nat.le_of_ble_eq_true rfl, Nat.le_of_ble_eq_true rfl⟩) ⟨MB.blind, M_recv hg.2.1 hw, MB.pre hg.2.1 hJ hw va_P0 ne0⟩ rfl rfl hl.1 rfl (lv_room (Nat.le_of_ble_eq_true rfl)) dL_law_1209 ⟨show cv + 2 + 41 ≤ 600128 by omega, show sv + 12 + 1685 ≤ 7301098 by omega⟩) (fun r2 ν2 H locs hf2 hw => ?_)
  refine lv_istore (lv' := [(6, .int r2), (5, .int r1), (0, .ref b), (1, .ref (ad 0)), (2, .ref (bd 0)), (3, .ref q), (4, .int i)]) hx hb dL_law_1212 hl (by decide) rfl (fun ls hl => ?_)
  refine lv_goto (tgt := 1572) hx hb dL_law_1214 (by decide) ?_
  refine W.widen (show cv + 2 + 41 ≤ cv + 2000 by omega) (show sv + 12 + 1685 ≤ sv + 112000 by omega) ?_
  exact hJ3 μ1 ν2 nv1 sw1 H locs ls hf2 hw (lv_sub hl [2, 3, 4, 5, 6] rfl)
set_option maxHeartbeats 4000000 in
set_option maxRecDepth 100000 in
theorem law_20 {p : Program} {l : Launch} {e : Env} {s : State} {m : MethodId} {b : Nat} {below : List Frame} {meth : Method} {c : Code} {L : Nat} {xs : Nat → Int32} {D : va_G} {ad bd : Nat → Nat} {cI cL cM cB : ClassId} {q : Nat} {Z : State → Prop} {JI : TMem → TMem → Prop} {i : Int32} {cv sv : Nat} (hRI : ∀ {μ ν : TMem}, JI μ ν → RI ν) (hGM : GM_many JI) (C0 : LC p l s m b c L xs D ad bd cI cL cM cB) (hi : 0 ≤ i.toInt) (hiL : i.toInt + 6 ≤ L) (hcv : cv + 2000 ≤ 600128) (hsv : sv + 112000 ≤ 7301098) (hJ3 : LJ p l e s m b below meth c D ad bd cI cM q Z JI i (cv + 2000) (sv + 112000) 1572) : LJ p l e s m b below meth c D ad bd cI cM q Z JI i cv sv 1217 := by
  obtain ⟨hx, hb, hml, hown, ht, hg, hI, hJ, hXs, hbl, hst, hL⟩ := C0
  have hN : NW s := hg.2.2.2.2.1
  have hbA : ¬ SA s.heap.size b := Nat.not_le.mpr hbl
  intro μ ν nv sw H locs ls hJI hw hl
  have hi1 : (i + (1 : Int32)).toInt = i.toInt + 1 := ii_a rfl (show (1 : Int32).toInt = 1 from rfl) (by omega) (by omega)
  have hi2 : (i + (2 : Int32)).toInt = i.toInt + 2 := ii_a rfl (show (2 : Int32).toInt = 2 from rfl) (by omega) (by omega)
  have hi3 : (i + (3 : Int32)).toInt = i.toInt + 3 := ii_a rfl (show (3 : Int32).toInt = 3 from rfl) (by omega) (by omega)
  have hi4 : (i + (4 : Int32)).toInt = i.toInt + 4 := ii_a rfl (show (4 : Int32).toInt = 4 from rfl) (by omega) (by omega)
  have hi5 : (i + (5 : Int32)).toInt = i.toInt + 5 := ii_a rfl (show (5 : Int32).toInt = 5 from rfl) (by omega) (by omega)
  have hv0 : vp_in i L := vin (by omega)
  have hv1 : vp_in (i + (1 : Int32)) L := vin (by omega)
  have hv2 : vp_in (i + (2 : Int32)) L := vin (by omega)
  have hv3 : vp_in (i + (3 : Int32)) L := vin (by omega)
  have hv4 : vp_in (i + (4 : Int32)) L := vin (by omega)
  have hv5 : vp_in (i + (5 : Int32)) L := vin (by omega)
  refine lv_aload_n hx hb dL_law_1217 rfl (lv_at hl 1 rfl) ?_
  refine lv_aload_n hx hb dL_law_1218 rfl (lv_at hl 0 rfl) ?_
  refine lv_iload hx hb dL_law_1219 (lv_at hl 4 rfl) ?_
  refine lv_iconst (v := (1 : Int32)) hx hb dL_law_1221 (by decide) ?_
  refine lv_iadd hx hb dL_law_1222 ?_
  refine va_sld hx hb hXs hbl hbA hw.2.2.1 (i := (i + (1 : Int32))) hv1 dL_law_1223 ?_
  refine lv_aload_n hx hb dL_law_1224 rfl (lv_at hl 0 rfl) ?_
  refine lv_iload hx hb dL_law_1225 (lv_at hl 4 rfl) ?_
  refine lv_iconst (v := (2 : Int32)) hx hb dL_law_1227 (by decide) ?_
  refine lv_iadd hx hb dL_law_1228 ?_
  refine va_sld hx hb hXs hbl hbA hw.2.2.1 (i := (i + (2 : Int32))) hv2 dL_law_1229 ?_
  refine lv_aload_n hx hb dL_law_1230 rfl (lv_at hl 0 rfl) ?_
  refine lv_iload hx hb dL_law_1231 (lv_at hl 4 rfl) ?_
  refine lv_iconst (v := (3 : Int32)) hx hb dL_law_1233 (by decide) ?_
  refine lv_iadd hx hb dL_law_1234 ?_
  refine va_sld hx hb hXs hbl hbA hw.2.2.1 (i := (i + (3 : Int32))) hv3 dL_law_1235 ?_
  refine lv_aload_n hx hb dL_law_1236 rfl (lv_at hl 3 rfl) ?_
  refine LL_call hw hI (vx_runSX (own := "LeastreaderLaw") (As := [.ref (ad 0), .int (xs (i + (1 : Int32)).toNatClampNeg), .int (xs (i + (2 : Int32)).toNatClampNeg), .int (xs (i + (3 : Int32)).toNatClampNeg), .ref q]) (rest := []) ⟨hx, hb, hml, hown, ht⟩ (c_L_many hst q nv sw μ H.size (xs (i + (1 : Int32)).toNatClampNeg) (xs (i + (2 : Int32)).toNatClampNeg) (xs (i + (3 : Int32)).toNatClampNeg) (PW := fun k u => RW_many JI ν (xs (i + (1 : Int32)).toNatClampNeg) (xs (i + (2 : Int32)).toNatClampNeg) (xs (i + (3 : Int32)).toNatClampNeg) k u.2.1 u.1) (hGM μ ν nv (xs (i + (1 : Int32)).toNatClampNeg) (xs (i + (2 : Int32)).toNatClampNeg) (xs (i + (3 : Int32)).toNatClampNeg) hJI)) (vx_cwSW 5 ht (G_S q_1173 q_1174 q_45 q_1175) rfl rfl rfl vd_68 ⟨Nat.le_of_ble_eq_true rfl, Nat.le_of_ble_eq_true rfl⟩) ⟨LB.blind, hg.lb hI hw⟩ rfl rfl hl.1 rfl (lv_room (Nat.le_of_ble_eq_true rfl)) dL_law_1237 ⟨show cv + 4 ≤ 600128 by omega, show sv + 24 ≤ 7301098 by omega⟩) (fun r1 μ1 nv1 sw1 H locs hq1 hw => ?_)
  refine lv_istore (lv' := [(5, .int r1), (0, .ref b), (1, .ref (ad 0)), (2, .ref (bd 0)), (3, .ref q), (4, .int i)]) hx hb dL_law_1240 hl (by decide) rfl (fun ls hl => ?_)
  refine lv_aload_n hx hb dL_law_1242 rfl (lv_at hl 3 rfl) ?_
  refine lv_aload_n hx hb dL_law_1243 rfl (lv_at hl 1 rfl) ?_
  refine lv_iload hx hb dL_law_1244 (lv_at hl 5 rfl) ?_
  refine lv_iconst (v := (1 : Int32)) hx hb dL_law_1246 (by decide) ?_
  refine lv_iadd hx hb dL_law_1247 ?_
  refine va_sld hx hb hXs hbl hbA hw.2.2.1 (i := (i + (1 : Int32))) hv1 dL_law_1248 ?_
  refine lv_aload_n hx hb dL_law_1249 rfl (lv_at hl 1 rfl) ?_
  refine lv_iload hx hb dL_law_1250 (lv_at hl 5 rfl) ?_
  refine lv_iconst (v := (2 : Int32)) hx hb dL_law_1252 (by decide) ?_
  refine lv_iadd hx hb dL_law_1253 ?_
  refine va_sld hx hb hXs hbl hbA hw.2.2.1 (i := (i + (2 : Int32))) hv2 dL_law_1254 ?_
  refine lv_aload_n hx hb dL_law_1255 rfl (lv_at hl 1 rfl) ?_
  refine lv_iload hx hb dL_law_1256 (lv_at hl 5 rfl) ?_
  refine lv_iconst (v := (3 : Int32)) hx hb dL_law_1258 (by decide) ?_
  refine lv_iadd hx hb dL_law_1259 ?_
  refine va_sld hx hb hXs hbl hbA hw.2.2.1 (i := (i + (3 : Int32))) hv3 dL_law_1260 ?_
  refine M_calli hw (LZ_MA hw) (va_runV (own := "LeastreaderLaw") (As := [.int (xs (i + (1 : Int32)).toNatClampNeg), .int (xs (i + (2 : Int32)).toNatClampNeg), .int (xs (i + (3 : Int32)).toNatClampNeg)]) (rest := []) ⟨hx, hb, hml, hown, ht⟩ (c_X11_many ν H.size (xs (i + (1 : Int32)).toNatClampNeg) (xs (i + (2 : Int32)).toNatClampNeg) (xs (i + (3 : Int32)).toNatClampNeg) hq1) (cwV 3 ht (G_V q_1552 q_1553 q_1554 q_56 q_1555) rfl rfl rfl ⟨rfl, vd_69⟩ ⟨Nat.le_of_ble_eq_true rfl, Nat.le_of_ble_eq_true rfl⟩) ⟨MB.blind, M_recv hg.2.1 hw, MB.pre hg.2.1 hJ hw va_P0 ne0⟩ rfl rfl hl.1 rfl (lv_room (Nat.le_of_ble_eq_true rfl)) dL_law_1261 ⟨show cv + 4 + 42 ≤ 600128 by omega, show sv + 24 + 2101 ≤ 7301098 by omega⟩) (fun r2 ν2 H locs hf2 hw => ?_)
  refine lv_istore (lv' := [(6, .int r2), (5, .int r1), (0, .ref b), (1, .ref (ad 0)), (2, .ref (bd 0)), (3, .ref q), (4, .int i)]) hx hb dL_law_1264 hl (by decide) rfl (fun ls hl => ?_)
  refine lv_goto (tgt := 1572) hx hb dL_law_1266 (by decide) ?_
  refine W.widen (show cv + 4 + 42 ≤ cv + 2000 by omega) (show sv + 24 + 2101 ≤ sv + 112000 by omega) ?_
  exact hJ3 μ1 ν2 nv1 sw1 H locs ls hf2 hw (lv_sub hl [2, 3, 4, 5, 6] rfl)
end
/-! part 9p.law3 -/
section
set_option maxHeartbeats 4000000 in
set_option maxRecDepth 100000 in
theorem law_21 {p : Program} {l : Launch} {e : Env} {s : State} {m : MethodId} {b : Nat} {below : List Frame} {meth : Method} {c : Code} {L : Nat} {xs : Nat → Int32} {D : va_G} {ad bd : Nat → Nat} {cI cL cM cB : ClassId} {q : Nat} {Z : State → Prop} {JI : TMem → TMem → Prop} {i : Int32} {cv sv : Nat} (hRI : ∀ {μ ν : TMem}, JI μ ν → RI ν) (hGM : GM_word JI) (C0 : LC p l s m b c L xs D ad bd cI cL cM cB) (hi : 0 ≤ i.toInt) (hiL : i.toInt + 6 ≤ L) (hcv : cv + 2000 ≤ 600128) (hsv : sv + 112000 ≤ 7301098) (hJ3 : LJ p l e s m b below meth c D ad bd cI cM q Z JI i (cv + 2000) (sv + 112000) 1572) : LJ p l e s m b below meth c D ad bd cI cM q Z JI i cv sv 1269 := by
  obtain ⟨hx, hb, hml, hown, ht, hg, hI, hJ, hXs, hbl, hst, hL⟩ := C0
  have hN : NW s := hg.2.2.2.2.1
  have hbA : ¬ SA s.heap.size b := Nat.not_le.mpr hbl
  intro μ ν nv sw H locs ls hJI hw hl
  have hi1 : (i + (1 : Int32)).toInt = i.toInt + 1 := ii_a rfl (show (1 : Int32).toInt = 1 from rfl) (by omega) (by omega)
  have hi2 : (i + (2 : Int32)).toInt = i.toInt + 2 := ii_a rfl (show (2 : Int32).toInt = 2 from rfl) (by omega) (by omega)
  have hi3 : (i + (3 : Int32)).toInt = i.toInt + 3 := ii_a rfl (show (3 : Int32).toInt = 3 from rfl) (by omega) (by omega)
  have hi4 : (i + (4 : Int32)).toInt = i.toInt + 4 := ii_a rfl (show (4 : Int32).toInt = 4 from rfl) (by omega) (by omega)
  have hi5 : (i + (5 : Int32)).toInt = i.toInt + 5 := ii_a rfl (show (5 : Int32).toInt = 5 from rfl) (by omega) (by omega)
  have hv0 : vp_in i L := vin (by omega)
  have hv1 : vp_in (i + (1 : Int32)) L := vin (by omega)
  have hv2 : vp_in (i + (2 : Int32)) L := vin (by omega)
  have hv3 : vp_in (i + (3 : Int32)) L := vin (by omega)
  have hv4 : vp_in (i + (4 : Int32)) L := vin (by omega)
  have hv5 : vp_in (i + (5 : Int32)) L := vin (by omega)
  refine lv_aload_n hx hb dL_law_1269 rfl (lv_at hl 1 rfl) ?_
  refine lv_aload_n hx hb dL_law_1270 rfl (lv_at hl 0 rfl) ?_
  refine lv_iload hx hb dL_law_1271 (lv_at hl 4 rfl) ?_
  refine lv_iconst (v := (1 : Int32)) hx hb dL_law_1273 (by decide) ?_
  refine lv_iadd hx hb dL_law_1274 ?_
  refine va_sld hx hb hXs hbl hbA hw.2.2.1 (i := (i + (1 : Int32))) hv1 dL_law_1275 ?_
  refine lv_aload_n hx hb dL_law_1276 rfl (lv_at hl 0 rfl) ?_
  refine lv_iload hx hb dL_law_1277 (lv_at hl 4 rfl) ?_
  refine lv_iconst (v := (2 : Int32)) hx hb dL_law_1279 (by decide) ?_
  refine lv_iadd hx hb dL_law_1280 ?_
  refine va_sld hx hb hXs hbl hbA hw.2.2.1 (i := (i + (2 : Int32))) hv2 dL_law_1281 ?_
  refine lv_aload_n hx hb dL_law_1282 rfl (lv_at hl 3 rfl) ?_
  refine LL_call hw hI (vx_runSX (own := "LeastreaderLaw") (As := [.ref (ad 0), .int (xs (i + (1 : Int32)).toNatClampNeg), .int (xs (i + (2 : Int32)).toNatClampNeg), .ref q]) (rest := []) ⟨hx, hb, hml, hown, ht⟩ (c_L_word hst q nv sw μ H.size (xs (i + (1 : Int32)).toNatClampNeg) (xs (i + (2 : Int32)).toNatClampNeg) (PW := fun _ u => RW_word JI ν u.1) (hGM μ ν (xs (i + (1 : Int32)).toNatClampNeg) (xs (i + (2 : Int32)).toNatClampNeg) hJI)) (vx_cwSW 4 ht (G_S q_1203 q_1204 q_45 q_1205) rfl rfl rfl vd_70 ⟨Nat.le_of_ble_eq_true rfl, Nat.le_of_ble_eq_true rfl⟩) ⟨LB.blind, hg.lb hI hw⟩ rfl rfl hl.1 rfl (lv_room (Nat.le_of_ble_eq_true rfl)) dL_law_1283 ⟨show cv + 504 ≤ 600128 by omega, show sv + 20019 ≤ 7301098 by omega⟩) (fun r1 μ1 nv1 sw1 H locs hq1 hw => ?_)
  refine lv_istore (lv' := [(5, .int r1), (0, .ref b), (1, .ref (ad 0)), (2, .ref (bd 0)), (3, .ref q), (4, .int i)]) hx hb dL_law_1286 hl (by decide) rfl (fun ls hl => ?_)
  refine lv_aload_n hx hb dL_law_1288 rfl (lv_at hl 3 rfl) ?_
  refine lv_aload_n hx hb dL_law_1289 rfl (lv_at hl 1 rfl) ?_
  refine lv_iload hx hb dL_law_1290 (lv_at hl 5 rfl) ?_
  refine lv_iconst (v := (1 : Int32)) hx hb dL_law_1292 (by decide) ?_
  refine lv_iadd hx hb dL_law_1293 ?_
  refine va_sld hx hb hXs hbl hbA hw.2.2.1 (i := (i + (1 : Int32))) hv1 dL_law_1294 ?_
  refine lv_aload_n hx hb dL_law_1295 rfl (lv_at hl 1 rfl) ?_
  refine lv_iload hx hb dL_law_1296 (lv_at hl 5 rfl) ?_
  refine lv_iconst (v := (2 : Int32)) hx hb dL_law_1298 (by decide) ?_
  refine lv_iadd hx hb dL_law_1299 ?_
  refine va_sld hx hb hXs hbl hbA hw.2.2.1 (i := (i + (2 : Int32))) hv2 dL_law_1300 ?_
  refine MS_callr hw (va_runV (own := "LeastreaderLaw") (As := [.int (xs (i + (1 : Int32)).toNatClampNeg), .int (xs (i + (2 : Int32)).toNatClampNeg)]) (rest := []) ⟨hx, hb, hml, hown, ht⟩ (c_X11_word ν H.size (xs (i + (1 : Int32)).toNatClampNeg) (xs (i + (2 : Int32)).toNatClampNeg) (hRI hJI)) (cwV 2 ht (G_V q_1559 q_1560 q_1561 q_56 q_1562) rfl rfl rfl ⟨rfl, vd_71⟩ ⟨Nat.le_of_ble_eq_true rfl, Nat.le_of_ble_eq_true rfl⟩) ⟨MBS.blind, M_recv hg.2.1 hw, hg.pS hJ hw⟩ rfl rfl hl.1 rfl (lv_room (Nat.le_of_ble_eq_true rfl)) dL_law_1301 ⟨show cv + 504 + 500 ≤ 600128 by omega, show sv + 20019 + 20000 ≤ 7301098 by omega⟩) (fun r2 ν2 H locs hf2 hw => ?_)
  refine lv_astore (lv' := [(6, .ref r2), (5, .int r1), (0, .ref b), (1, .ref (ad 0)), (2, .ref (bd 0)), (3, .ref q), (4, .int i)]) hx hb dL_law_1304 hl (by decide) rfl (fun ls hl => ?_)
  refine lv_goto (tgt := 1572) hx hb dL_law_1306 (by decide) ?_
  refine W.widen (show cv + 504 + 500 ≤ cv + 2000 by omega) (show sv + 20019 + 20000 ≤ sv + 112000 by omega) ?_
  exact hJ3 μ1 ν2 nv1 sw1 H locs ls (hq1 _ hf2) hw (lv_sub hl [2, 3, 4, 5, 6] rfl)
set_option maxHeartbeats 4000000 in
set_option maxRecDepth 100000 in
theorem law_22 {p : Program} {l : Launch} {e : Env} {s : State} {m : MethodId} {b : Nat} {below : List Frame} {meth : Method} {c : Code} {L : Nat} {xs : Nat → Int32} {D : va_G} {ad bd : Nat → Nat} {cI cL cM cB : ClassId} {q : Nat} {Z : State → Prop} {JI : TMem → TMem → Prop} {i : Int32} {cv sv : Nat} (hRI : ∀ {μ ν : TMem}, JI μ ν → RI ν) (hGM : GM_isAlike JI) (C0 : LC p l s m b c L xs D ad bd cI cL cM cB) (hi : 0 ≤ i.toInt) (hiL : i.toInt + 6 ≤ L) (hcv : cv + 2000 ≤ 600128) (hsv : sv + 112000 ≤ 7301098) (hJ3 : LJ p l e s m b below meth c D ad bd cI cM q Z JI i (cv + 2000) (sv + 112000) 1572) : LJ p l e s m b below meth c D ad bd cI cM q Z JI i cv sv 1309 := by
  obtain ⟨hx, hb, hml, hown, ht, hg, hI, hJ, hXs, hbl, hst, hL⟩ := C0
  have hN : NW s := hg.2.2.2.2.1
  have hbA : ¬ SA s.heap.size b := Nat.not_le.mpr hbl
  intro μ ν nv sw H locs ls hJI hw hl
  have hi1 : (i + (1 : Int32)).toInt = i.toInt + 1 := ii_a rfl (show (1 : Int32).toInt = 1 from rfl) (by omega) (by omega)
  have hi2 : (i + (2 : Int32)).toInt = i.toInt + 2 := ii_a rfl (show (2 : Int32).toInt = 2 from rfl) (by omega) (by omega)
  have hi3 : (i + (3 : Int32)).toInt = i.toInt + 3 := ii_a rfl (show (3 : Int32).toInt = 3 from rfl) (by omega) (by omega)
  have hi4 : (i + (4 : Int32)).toInt = i.toInt + 4 := ii_a rfl (show (4 : Int32).toInt = 4 from rfl) (by omega) (by omega)
  have hi5 : (i + (5 : Int32)).toInt = i.toInt + 5 := ii_a rfl (show (5 : Int32).toInt = 5 from rfl) (by omega) (by omega)
  have hv0 : vp_in i L := vin (by omega)
  have hv1 : vp_in (i + (1 : Int32)) L := vin (by omega)
  have hv2 : vp_in (i + (2 : Int32)) L := vin (by omega)
  have hv3 : vp_in (i + (3 : Int32)) L := vin (by omega)
  have hv4 : vp_in (i + (4 : Int32)) L := vin (by omega)
  have hv5 : vp_in (i + (5 : Int32)) L := vin (by omega)
  refine lv_aload_n hx hb dL_law_1309 rfl (lv_at hl 1 rfl) ?_
  refine lv_aload_n hx hb dL_law_1310 rfl (lv_at hl 0 rfl) ?_
  refine lv_iload hx hb dL_law_1311 (lv_at hl 4 rfl) ?_
  refine lv_iconst (v := (1 : Int32)) hx hb dL_law_1313 (by decide) ?_
  refine lv_iadd hx hb dL_law_1314 ?_
  refine va_sld hx hb hXs hbl hbA hw.2.2.1 (i := (i + (1 : Int32))) hv1 dL_law_1315 ?_
  refine lv_aload_n hx hb dL_law_1316 rfl (lv_at hl 0 rfl) ?_
  refine lv_iload hx hb dL_law_1317 (lv_at hl 4 rfl) ?_
  refine lv_iconst (v := (2 : Int32)) hx hb dL_law_1319 (by decide) ?_
  refine lv_iadd hx hb dL_law_1320 ?_
  refine va_sld hx hb hXs hbl hbA hw.2.2.1 (i := (i + (2 : Int32))) hv2 dL_law_1321 ?_
  refine lv_aload_n hx hb dL_law_1322 rfl (lv_at hl 0 rfl) ?_
  refine lv_iload hx hb dL_law_1323 (lv_at hl 4 rfl) ?_
  refine lv_iconst (v := (3 : Int32)) hx hb dL_law_1325 (by decide) ?_
  refine lv_iadd hx hb dL_law_1326 ?_
  refine va_sld hx hb hXs hbl hbA hw.2.2.1 (i := (i + (3 : Int32))) hv3 dL_law_1327 ?_
  refine lv_aload_n hx hb dL_law_1328 rfl (lv_at hl 3 rfl) ?_
  refine LL_call hw hI (vx_runSX (own := "LeastreaderLaw") (As := [.ref (ad 0), .int (xs (i + (1 : Int32)).toNatClampNeg), .int (xs (i + (2 : Int32)).toNatClampNeg), .int (xs (i + (3 : Int32)).toNatClampNeg), .ref q]) (rest := []) ⟨hx, hb, hml, hown, ht⟩ (c_L_isAlike hst q nv sw μ H.size (xs (i + (1 : Int32)).toNatClampNeg) (xs (i + (2 : Int32)).toNatClampNeg) (xs (i + (3 : Int32)).toNatClampNeg) (PW := fun k u => RW_isAlike JI ν (xs (i + (1 : Int32)).toNatClampNeg) (xs (i + (2 : Int32)).toNatClampNeg) (xs (i + (3 : Int32)).toNatClampNeg) k u.2.1 u.1) (hGM μ ν nv (xs (i + (1 : Int32)).toNatClampNeg) (xs (i + (2 : Int32)).toNatClampNeg) (xs (i + (3 : Int32)).toNatClampNeg) hJI)) (vx_cwSW 5 ht (G_S q_1227 q_1228 q_45 q_1229) rfl rfl rfl vd_72 ⟨Nat.le_of_ble_eq_true rfl, Nat.le_of_ble_eq_true rfl⟩) ⟨LB.blind, hg.lb hI hw⟩ rfl rfl hl.1 rfl (lv_room (Nat.le_of_ble_eq_true rfl)) dL_law_1329 ⟨show cv + 6 ≤ 600128 by omega, show sv + 36 ≤ 7301098 by omega⟩) (fun r1 μ1 nv1 sw1 H locs hq1 hw => ?_)
  refine lv_istore (lv' := [(5, .int r1), (0, .ref b), (1, .ref (ad 0)), (2, .ref (bd 0)), (3, .ref q), (4, .int i)]) hx hb dL_law_1332 hl (by decide) rfl (fun ls hl => ?_)
  refine lv_aload_n hx hb dL_law_1334 rfl (lv_at hl 3 rfl) ?_
  refine lv_aload_n hx hb dL_law_1335 rfl (lv_at hl 1 rfl) ?_
  refine lv_iload hx hb dL_law_1336 (lv_at hl 5 rfl) ?_
  refine lv_iconst (v := (1 : Int32)) hx hb dL_law_1338 (by decide) ?_
  refine lv_iadd hx hb dL_law_1339 ?_
  refine va_sld hx hb hXs hbl hbA hw.2.2.1 (i := (i + (1 : Int32))) hv1 dL_law_1340 ?_
  refine lv_aload_n hx hb dL_law_1341 rfl (lv_at hl 1 rfl) ?_
  refine lv_iload hx hb dL_law_1342 (lv_at hl 5 rfl) ?_
  refine lv_iconst (v := (2 : Int32)) hx hb dL_law_1344 (by decide) ?_
  refine lv_iadd hx hb dL_law_1345 ?_
  refine va_sld hx hb hXs hbl hbA hw.2.2.1 (i := (i + (2 : Int32))) hv2 dL_law_1346 ?_
  refine lv_aload_n hx hb dL_law_1347 rfl (lv_at hl 1 rfl) ?_
  refine lv_iload hx hb dL_law_1348 (lv_at hl 5 rfl) ?_
  refine lv_iconst (v := (3 : Int32)) hx hb dL_law_1350 (by decide) ?_
  refine lv_iadd hx hb dL_law_1351 ?_
  refine va_sld hx hb hXs hbl hbA hw.2.2.1 (i := (i + (3 : Int32))) hv3 dL_law_1352 ?_
  refine M_calli hw (LZ_MA hw) (va_runV (own := "LeastreaderLaw") (As := [.int (xs (i + (1 : Int32)).toNatClampNeg), .int (xs (i + (2 : Int32)).toNatClampNeg), .int (xs (i + (3 : Int32)).toNatClampNeg)]) (rest := []) ⟨hx, hb, hml, hown, ht⟩ (c_X11_isAlike ν H.size (xs (i + (1 : Int32)).toNatClampNeg) (xs (i + (2 : Int32)).toNatClampNeg) (xs (i + (3 : Int32)).toNatClampNeg) hq1) (cwV 3 ht (G_V q_1563 q_1564 q_1565 q_56 q_1566) rfl rfl rfl ⟨rfl, vd_73⟩ ⟨Nat.le_of_ble_eq_true rfl, Nat.le_of_ble_eq_true rfl⟩) ⟨MB.blind, M_recv hg.2.1 hw, MB.pre hg.2.1 hJ hw va_P0 ne0⟩ rfl rfl hl.1 rfl (lv_room (Nat.le_of_ble_eq_true rfl)) dL_law_1353 ⟨show cv + 6 + 82 ≤ 600128 by omega, show sv + 36 + 3370 ≤ 7301098 by omega⟩) (fun r2 ν2 H locs hf2 hw => ?_)
  refine lv_istore (lv' := [(6, .int r2), (5, .int r1), (0, .ref b), (1, .ref (ad 0)), (2, .ref (bd 0)), (3, .ref q), (4, .int i)]) hx hb dL_law_1356 hl (by decide) rfl (fun ls hl => ?_)
  refine lv_goto (tgt := 1572) hx hb dL_law_1358 (by decide) ?_
  refine W.widen (show cv + 6 + 82 ≤ cv + 2000 by omega) (show sv + 36 + 3370 ≤ sv + 112000 by omega) ?_
  exact hJ3 μ1 ν2 nv1 sw1 H locs ls hf2 hw (lv_sub hl [2, 3, 4, 5, 6] rfl)
set_option maxHeartbeats 4000000 in
set_option maxRecDepth 100000 in
theorem law_23 {p : Program} {l : Launch} {e : Env} {s : State} {m : MethodId} {b : Nat} {below : List Frame} {meth : Method} {c : Code} {L : Nat} {xs : Nat → Int32} {D : va_G} {ad bd : Nat → Nat} {cI cL cM cB : ClassId} {q : Nat} {Z : State → Prop} {JI : TMem → TMem → Prop} {i : Int32} {cv sv : Nat} (hRI : ∀ {μ ν : TMem}, JI μ ν → RI ν) (hGM : GM_apart JI) (C0 : LC p l s m b c L xs D ad bd cI cL cM cB) (hi : 0 ≤ i.toInt) (hiL : i.toInt + 6 ≤ L) (hcv : cv + 2000 ≤ 600128) (hsv : sv + 112000 ≤ 7301098) (hJ3 : LJ p l e s m b below meth c D ad bd cI cM q Z JI i (cv + 2000) (sv + 112000) 1572) : LJ p l e s m b below meth c D ad bd cI cM q Z JI i cv sv 1361 := by
  obtain ⟨hx, hb, hml, hown, ht, hg, hI, hJ, hXs, hbl, hst, hL⟩ := C0
  have hN : NW s := hg.2.2.2.2.1
  have hbA : ¬ SA s.heap.size b := Nat.not_le.mpr hbl
  intro μ ν nv sw H locs ls hJI hw hl
  have hi1 : (i + (1 : Int32)).toInt = i.toInt + 1 := ii_a rfl (show (1 : Int32).toInt = 1 from rfl) (by omega) (by omega)
  have hi2 : (i + (2 : Int32)).toInt = i.toInt + 2 := ii_a rfl (show (2 : Int32).toInt = 2 from rfl) (by omega) (by omega)
  have hi3 : (i + (3 : Int32)).toInt = i.toInt + 3 := ii_a rfl (show (3 : Int32).toInt = 3 from rfl) (by omega) (by omega)
  have hi4 : (i + (4 : Int32)).toInt = i.toInt + 4 := ii_a rfl (show (4 : Int32).toInt = 4 from rfl) (by omega) (by omega)
  have hi5 : (i + (5 : Int32)).toInt = i.toInt + 5 := ii_a rfl (show (5 : Int32).toInt = 5 from rfl) (by omega) (by omega)
  have hv0 : vp_in i L := vin (by omega)
  have hv1 : vp_in (i + (1 : Int32)) L := vin (by omega)
  have hv2 : vp_in (i + (2 : Int32)) L := vin (by omega)
  have hv3 : vp_in (i + (3 : Int32)) L := vin (by omega)
  have hv4 : vp_in (i + (4 : Int32)) L := vin (by omega)
  have hv5 : vp_in (i + (5 : Int32)) L := vin (by omega)
  refine lv_aload_n hx hb dL_law_1361 rfl (lv_at hl 1 rfl) ?_
  refine lv_aload_n hx hb dL_law_1362 rfl (lv_at hl 0 rfl) ?_
  refine lv_iload hx hb dL_law_1363 (lv_at hl 4 rfl) ?_
  refine lv_iconst (v := (1 : Int32)) hx hb dL_law_1365 (by decide) ?_
  refine lv_iadd hx hb dL_law_1366 ?_
  refine va_sld hx hb hXs hbl hbA hw.2.2.1 (i := (i + (1 : Int32))) hv1 dL_law_1367 ?_
  refine lv_aload_n hx hb dL_law_1368 rfl (lv_at hl 0 rfl) ?_
  refine lv_iload hx hb dL_law_1369 (lv_at hl 4 rfl) ?_
  refine lv_iconst (v := (2 : Int32)) hx hb dL_law_1371 (by decide) ?_
  refine lv_iadd hx hb dL_law_1372 ?_
  refine va_sld hx hb hXs hbl hbA hw.2.2.1 (i := (i + (2 : Int32))) hv2 dL_law_1373 ?_
  refine lv_aload_n hx hb dL_law_1374 rfl (lv_at hl 3 rfl) ?_
  refine LL_call hw hI (vx_runSX (own := "LeastreaderLaw") (As := [.ref (ad 0), .int (xs (i + (1 : Int32)).toNatClampNeg), .int (xs (i + (2 : Int32)).toNatClampNeg), .ref q]) (rest := []) ⟨hx, hb, hml, hown, ht⟩ (c_L_apart hst q nv sw μ H.size (xs (i + (1 : Int32)).toNatClampNeg) (xs (i + (2 : Int32)).toNatClampNeg) (PW := fun _ u => RW_apart JI ν u.1) (hGM μ ν (xs (i + (1 : Int32)).toNatClampNeg) (xs (i + (2 : Int32)).toNatClampNeg) hJI)) (vx_cwSW 4 ht (G_S q_1238 q_1239 q_45 q_1240) rfl rfl rfl vd_74 ⟨Nat.le_of_ble_eq_true rfl, Nat.le_of_ble_eq_true rfl⟩) ⟨LB.blind, hg.lb hI hw⟩ rfl rfl hl.1 rfl (lv_room (Nat.le_of_ble_eq_true rfl)) dL_law_1375 ⟨show cv + 503 ≤ 600128 by omega, show sv + 20018 ≤ 7301098 by omega⟩) (fun r1 μ1 nv1 sw1 H locs hq1 hw => ?_)
  refine lv_istore (lv' := [(5, .int r1), (0, .ref b), (1, .ref (ad 0)), (2, .ref (bd 0)), (3, .ref q), (4, .int i)]) hx hb dL_law_1378 hl (by decide) rfl (fun ls hl => ?_)
  refine lv_aload_n hx hb dL_law_1380 rfl (lv_at hl 3 rfl) ?_
  refine lv_aload_n hx hb dL_law_1381 rfl (lv_at hl 1 rfl) ?_
  refine lv_iload hx hb dL_law_1382 (lv_at hl 5 rfl) ?_
  refine lv_iconst (v := (1 : Int32)) hx hb dL_law_1384 (by decide) ?_
  refine lv_iadd hx hb dL_law_1385 ?_
  refine va_sld hx hb hXs hbl hbA hw.2.2.1 (i := (i + (1 : Int32))) hv1 dL_law_1386 ?_
  refine lv_aload_n hx hb dL_law_1387 rfl (lv_at hl 1 rfl) ?_
  refine lv_iload hx hb dL_law_1388 (lv_at hl 5 rfl) ?_
  refine lv_iconst (v := (2 : Int32)) hx hb dL_law_1390 (by decide) ?_
  refine lv_iadd hx hb dL_law_1391 ?_
  refine va_sld hx hb hXs hbl hbA hw.2.2.1 (i := (i + (2 : Int32))) hv2 dL_law_1392 ?_
  refine MS_callr hw (va_runV (own := "LeastreaderLaw") (As := [.int (xs (i + (1 : Int32)).toNatClampNeg), .int (xs (i + (2 : Int32)).toNatClampNeg)]) (rest := []) ⟨hx, hb, hml, hown, ht⟩ (c_X11_apart ν H.size (xs (i + (1 : Int32)).toNatClampNeg) (xs (i + (2 : Int32)).toNatClampNeg) (hRI hJI)) (cwV 2 ht (G_V q_1575 q_1576 q_1577 q_56 q_1578) rfl rfl rfl ⟨rfl, vd_75⟩ ⟨Nat.le_of_ble_eq_true rfl, Nat.le_of_ble_eq_true rfl⟩) ⟨MBS.blind, M_recv hg.2.1 hw, hg.pS hJ hw⟩ rfl rfl hl.1 rfl (lv_room (Nat.le_of_ble_eq_true rfl)) dL_law_1393 ⟨show cv + 503 + 1400 ≤ 600128 by omega, show sv + 20018 + 91500 ≤ 7301098 by omega⟩) (fun r2 ν2 H locs hf2 hw => ?_)
  refine lv_astore (lv' := [(6, .ref r2), (5, .int r1), (0, .ref b), (1, .ref (ad 0)), (2, .ref (bd 0)), (3, .ref q), (4, .int i)]) hx hb dL_law_1396 hl (by decide) rfl (fun ls hl => ?_)
  refine lv_goto (tgt := 1572) hx hb dL_law_1398 (by decide) ?_
  refine W.widen (show cv + 503 + 1400 ≤ cv + 2000 by omega) (show sv + 20018 + 91500 ≤ sv + 112000 by omega) ?_
  exact hJ3 μ1 ν2 nv1 sw1 H locs ls (hq1 _ hf2) hw (lv_sub hl [2, 3, 4, 5, 6] rfl)
set_option maxHeartbeats 4000000 in
set_option maxRecDepth 100000 in
theorem law_24 {p : Program} {l : Launch} {e : Env} {s : State} {m : MethodId} {b : Nat} {below : List Frame} {meth : Method} {c : Code} {L : Nat} {xs : Nat → Int32} {D : va_G} {ad bd : Nat → Nat} {cI cL cM cB : ClassId} {q : Nat} {Z : State → Prop} {JI : TMem → TMem → Prop} {i : Int32} {cv sv : Nat} (hRI : ∀ {μ ν : TMem}, JI μ ν → RI ν) (hGM : GM_pairs JI) (C0 : LC p l s m b c L xs D ad bd cI cL cM cB) (hi : 0 ≤ i.toInt) (hiL : i.toInt + 6 ≤ L) (hcv : cv + 2000 ≤ 600128) (hsv : sv + 112000 ≤ 7301098) (hJ3 : LJ p l e s m b below meth c D ad bd cI cM q Z JI i (cv + 2000) (sv + 112000) 1572) : LJ p l e s m b below meth c D ad bd cI cM q Z JI i cv sv 1401 := by
  obtain ⟨hx, hb, hml, hown, ht, hg, hI, hJ, hXs, hbl, hst, hL⟩ := C0
  have hN : NW s := hg.2.2.2.2.1
  have hbA : ¬ SA s.heap.size b := Nat.not_le.mpr hbl
  intro μ ν nv sw H locs ls hJI hw hl
  have hi1 : (i + (1 : Int32)).toInt = i.toInt + 1 := ii_a rfl (show (1 : Int32).toInt = 1 from rfl) (by omega) (by omega)
  have hi2 : (i + (2 : Int32)).toInt = i.toInt + 2 := ii_a rfl (show (2 : Int32).toInt = 2 from rfl) (by omega) (by omega)
  have hi3 : (i + (3 : Int32)).toInt = i.toInt + 3 := ii_a rfl (show (3 : Int32).toInt = 3 from rfl) (by omega) (by omega)
  have hi4 : (i + (4 : Int32)).toInt = i.toInt + 4 := ii_a rfl (show (4 : Int32).toInt = 4 from rfl) (by omega) (by omega)
  have hi5 : (i + (5 : Int32)).toInt = i.toInt + 5 := ii_a rfl (show (5 : Int32).toInt = 5 from rfl) (by omega) (by omega)
  have hv0 : vp_in i L := vin (by omega)
  have hv1 : vp_in (i + (1 : Int32)) L := vin (by omega)
  have hv2 : vp_in (i + (2 : Int32)) L := vin (by omega)
  have hv3 : vp_in (i + (3 : Int32)) L := vin (by omega)
  have hv4 : vp_in (i + (4 : Int32)) L := vin (by omega)
  have hv5 : vp_in (i + (5 : Int32)) L := vin (by omega)
  refine lv_aload_n hx hb dL_law_1401 rfl (lv_at hl 1 rfl) ?_
  refine lv_aload_n hx hb dL_law_1402 rfl (lv_at hl 0 rfl) ?_
  refine lv_iload hx hb dL_law_1403 (lv_at hl 4 rfl) ?_
  refine lv_iconst (v := (1 : Int32)) hx hb dL_law_1405 (by decide) ?_
  refine lv_iadd hx hb dL_law_1406 ?_
  refine va_sld hx hb hXs hbl hbA hw.2.2.1 (i := (i + (1 : Int32))) hv1 dL_law_1407 ?_
  refine lv_aload_n hx hb dL_law_1408 rfl (lv_at hl 0 rfl) ?_
  refine lv_iload hx hb dL_law_1409 (lv_at hl 4 rfl) ?_
  refine lv_iconst (v := (2 : Int32)) hx hb dL_law_1411 (by decide) ?_
  refine lv_iadd hx hb dL_law_1412 ?_
  refine va_sld hx hb hXs hbl hbA hw.2.2.1 (i := (i + (2 : Int32))) hv2 dL_law_1413 ?_
  refine lv_aload_n hx hb dL_law_1414 rfl (lv_at hl 3 rfl) ?_
  refine LL_call hw hI (vx_runSX (own := "LeastreaderLaw") (As := [.ref (ad 0), .int (xs (i + (1 : Int32)).toNatClampNeg), .int (xs (i + (2 : Int32)).toNatClampNeg), .ref q]) (rest := []) ⟨hx, hb, hml, hown, ht⟩ (c_L_pairs hst q nv sw μ H.size (xs (i + (1 : Int32)).toNatClampNeg) (xs (i + (2 : Int32)).toNatClampNeg) (PW := fun k u => RW_pairs JI ν (xs (i + (1 : Int32)).toNatClampNeg) (xs (i + (2 : Int32)).toNatClampNeg) k u.2.1 u.1) (hGM μ ν nv (xs (i + (1 : Int32)).toNatClampNeg) (xs (i + (2 : Int32)).toNatClampNeg) hJI)) (vx_cwSW 4 ht (G_S q_1286 q_1287 q_45 q_1288) rfl rfl rfl vd_76 ⟨Nat.le_of_ble_eq_true rfl, Nat.le_of_ble_eq_true rfl⟩) ⟨LB.blind, hg.lb hI hw⟩ rfl rfl hl.1 rfl (lv_room (Nat.le_of_ble_eq_true rfl)) dL_law_1415 ⟨show cv + 3 ≤ 600128 by omega, show sv + 18 ≤ 7301098 by omega⟩) (fun r1 μ1 nv1 sw1 H locs hq1 hw => ?_)
  refine lv_istore (lv' := [(5, .int r1), (0, .ref b), (1, .ref (ad 0)), (2, .ref (bd 0)), (3, .ref q), (4, .int i)]) hx hb dL_law_1418 hl (by decide) rfl (fun ls hl => ?_)
  refine lv_aload_n hx hb dL_law_1420 rfl (lv_at hl 3 rfl) ?_
  refine lv_aload_n hx hb dL_law_1421 rfl (lv_at hl 1 rfl) ?_
  refine lv_iload hx hb dL_law_1422 (lv_at hl 5 rfl) ?_
  refine lv_iconst (v := (1 : Int32)) hx hb dL_law_1424 (by decide) ?_
  refine lv_iadd hx hb dL_law_1425 ?_
  refine va_sld hx hb hXs hbl hbA hw.2.2.1 (i := (i + (1 : Int32))) hv1 dL_law_1426 ?_
  refine lv_aload_n hx hb dL_law_1427 rfl (lv_at hl 1 rfl) ?_
  refine lv_iload hx hb dL_law_1428 (lv_at hl 5 rfl) ?_
  refine lv_iconst (v := (2 : Int32)) hx hb dL_law_1430 (by decide) ?_
  refine lv_iadd hx hb dL_law_1431 ?_
  refine va_sld hx hb hXs hbl hbA hw.2.2.1 (i := (i + (2 : Int32))) hv2 dL_law_1432 ?_
  refine M_calli hw (LZ_MA hw) (va_runV (own := "LeastreaderLaw") (As := [.int (xs (i + (1 : Int32)).toNatClampNeg), .int (xs (i + (2 : Int32)).toNatClampNeg)]) (rest := []) ⟨hx, hb, hml, hown, ht⟩ (c_X11_pairs ν H.size (xs (i + (1 : Int32)).toNatClampNeg) (xs (i + (2 : Int32)).toNatClampNeg) hq1) (cwV 2 ht (G_V q_1580 q_1581 q_1582 q_56 q_1583) rfl rfl rfl ⟨rfl, vd_77⟩ ⟨Nat.le_of_ble_eq_true rfl, Nat.le_of_ble_eq_true rfl⟩) ⟨MB.blind, M_recv hg.2.1 hw, MB.pre hg.2.1 hJ hw va_P0 ne0⟩ rfl rfl hl.1 rfl (lv_room (Nat.le_of_ble_eq_true rfl)) dL_law_1433 ⟨show cv + 3 + 9 ≤ 600128 by omega, show sv + 18 + 1222 ≤ 7301098 by omega⟩) (fun r2 ν2 H locs hf2 hw => ?_)
  refine lv_istore (lv' := [(6, .int r2), (5, .int r1), (0, .ref b), (1, .ref (ad 0)), (2, .ref (bd 0)), (3, .ref q), (4, .int i)]) hx hb dL_law_1436 hl (by decide) rfl (fun ls hl => ?_)
  refine lv_goto (tgt := 1572) hx hb dL_law_1438 (by decide) ?_
  refine W.widen (show cv + 3 + 9 ≤ cv + 2000 by omega) (show sv + 18 + 1222 ≤ sv + 112000 by omega) ?_
  exact hJ3 μ1 ν2 nv1 sw1 H locs ls hf2 hw (lv_sub hl [2, 3, 4, 5, 6] rfl)
set_option maxHeartbeats 4000000 in
set_option maxRecDepth 100000 in
theorem law_25 {p : Program} {l : Launch} {e : Env} {s : State} {m : MethodId} {b : Nat} {below : List Frame} {meth : Method} {c : Code} {L : Nat} {xs : Nat → Int32} {D : va_G} {ad bd : Nat → Nat} {cI cL cM cB : ClassId} {q : Nat} {Z : State → Prop} {JI : TMem → TMem → Prop} {i : Int32} {cv sv : Nat} (hRI : ∀ {μ ν : TMem}, JI μ ν → RI ν) (hGM : GM_together JI) (C0 : LC p l s m b c L xs D ad bd cI cL cM cB) (hi : 0 ≤ i.toInt) (hiL : i.toInt + 6 ≤ L) (hcv : cv + 2000 ≤ 600128) (hsv : sv + 112000 ≤ 7301098) (hJ3 : LJ p l e s m b below meth c D ad bd cI cM q Z JI i (cv + 2000) (sv + 112000) 1572) : LJ p l e s m b below meth c D ad bd cI cM q Z JI i cv sv 1441 := by
  obtain ⟨hx, hb, hml, hown, ht, hg, hI, hJ, hXs, hbl, hst, hL⟩ := C0
  have hN : NW s := hg.2.2.2.2.1
  have hbA : ¬ SA s.heap.size b := Nat.not_le.mpr hbl
  intro μ ν nv sw H locs ls hJI hw hl
  have hi1 : (i + (1 : Int32)).toInt = i.toInt + 1 := ii_a rfl (show (1 : Int32).toInt = 1 from rfl) (by omega) (by omega)
  have hi2 : (i + (2 : Int32)).toInt = i.toInt + 2 := ii_a rfl (show (2 : Int32).toInt = 2 from rfl) (by omega) (by omega)
  have hi3 : (i + (3 : Int32)).toInt = i.toInt + 3 := ii_a rfl (show (3 : Int32).toInt = 3 from rfl) (by omega) (by omega)
  have hi4 : (i + (4 : Int32)).toInt = i.toInt + 4 := ii_a rfl (show (4 : Int32).toInt = 4 from rfl) (by omega) (by omega)
  have hi5 : (i + (5 : Int32)).toInt = i.toInt + 5 := ii_a rfl (show (5 : Int32).toInt = 5 from rfl) (by omega) (by omega)
  have hv0 : vp_in i L := vin (by omega)
  have hv1 : vp_in (i + (1 : Int32)) L := vin (by omega)
  have hv2 : vp_in (i + (2 : Int32)) L := vin (by omega)
  have hv3 : vp_in (i + (3 : Int32)) L := vin (by omega)
  have hv4 : vp_in (i + (4 : Int32)) L := vin (by omega)
  have hv5 : vp_in (i + (5 : Int32)) L := vin (by omega)
  refine lv_aload_n hx hb dL_law_1441 rfl (lv_at hl 1 rfl) ?_
  refine lv_aload_n hx hb dL_law_1442 rfl (lv_at hl 0 rfl) ?_
  refine lv_iload hx hb dL_law_1443 (lv_at hl 4 rfl) ?_
  refine lv_iconst (v := (1 : Int32)) hx hb dL_law_1445 (by decide) ?_
  refine lv_iadd hx hb dL_law_1446 ?_
  refine va_sld hx hb hXs hbl hbA hw.2.2.1 (i := (i + (1 : Int32))) hv1 dL_law_1447 ?_
  refine lv_aload_n hx hb dL_law_1448 rfl (lv_at hl 0 rfl) ?_
  refine lv_iload hx hb dL_law_1449 (lv_at hl 4 rfl) ?_
  refine lv_iconst (v := (2 : Int32)) hx hb dL_law_1451 (by decide) ?_
  refine lv_iadd hx hb dL_law_1452 ?_
  refine va_sld hx hb hXs hbl hbA hw.2.2.1 (i := (i + (2 : Int32))) hv2 dL_law_1453 ?_
  refine lv_aload_n hx hb dL_law_1454 rfl (lv_at hl 0 rfl) ?_
  refine lv_iload hx hb dL_law_1455 (lv_at hl 4 rfl) ?_
  refine lv_iconst (v := (3 : Int32)) hx hb dL_law_1457 (by decide) ?_
  refine lv_iadd hx hb dL_law_1458 ?_
  refine va_sld hx hb hXs hbl hbA hw.2.2.1 (i := (i + (3 : Int32))) hv3 dL_law_1459 ?_
  refine lv_aload_n hx hb dL_law_1460 rfl (lv_at hl 0 rfl) ?_
  refine lv_iload hx hb dL_law_1461 (lv_at hl 4 rfl) ?_
  refine lv_iconst (v := (4 : Int32)) hx hb dL_law_1463 (by decide) ?_
  refine lv_iadd hx hb dL_law_1464 ?_
  refine va_sld hx hb hXs hbl hbA hw.2.2.1 (i := (i + (4 : Int32))) hv4 dL_law_1465 ?_
  refine lv_aload_n hx hb dL_law_1466 rfl (lv_at hl 3 rfl) ?_
  refine LL_call hw hI (vx_runSX (own := "LeastreaderLaw") (As := [.ref (ad 0), .int (xs (i + (1 : Int32)).toNatClampNeg), .int (xs (i + (2 : Int32)).toNatClampNeg), .int (xs (i + (3 : Int32)).toNatClampNeg), .int (xs (i + (4 : Int32)).toNatClampNeg), .ref q]) (rest := []) ⟨hx, hb, hml, hown, ht⟩ (c_L_together hst q nv sw μ H.size (xs (i + (1 : Int32)).toNatClampNeg) (xs (i + (2 : Int32)).toNatClampNeg) (xs (i + (3 : Int32)).toNatClampNeg) (xs (i + (4 : Int32)).toNatClampNeg) (PW := fun k u => RW_together JI ν (xs (i + (1 : Int32)).toNatClampNeg) (xs (i + (2 : Int32)).toNatClampNeg) (xs (i + (3 : Int32)).toNatClampNeg) (xs (i + (4 : Int32)).toNatClampNeg) k u.2.1 u.1) (hGM μ ν nv (xs (i + (1 : Int32)).toNatClampNeg) (xs (i + (2 : Int32)).toNatClampNeg) (xs (i + (3 : Int32)).toNatClampNeg) (xs (i + (4 : Int32)).toNatClampNeg) hJI)) (vx_cwSW 6 ht (G_S q_1293 q_1294 q_45 q_1295) rfl rfl rfl vd_78 ⟨Nat.le_of_ble_eq_true rfl, Nat.le_of_ble_eq_true rfl⟩) ⟨LB.blind, hg.lb hI hw⟩ rfl rfl hl.1 rfl (lv_room (Nat.le_of_ble_eq_true rfl)) dL_law_1467 ⟨show cv + 5 ≤ 600128 by omega, show sv + 30 ≤ 7301098 by omega⟩) (fun r1 μ1 nv1 sw1 H locs hq1 hw => ?_)
  refine lv_istore (lv' := [(5, .int r1), (0, .ref b), (1, .ref (ad 0)), (2, .ref (bd 0)), (3, .ref q), (4, .int i)]) hx hb dL_law_1470 hl (by decide) rfl (fun ls hl => ?_)
  refine lv_aload_n hx hb dL_law_1472 rfl (lv_at hl 3 rfl) ?_
  refine lv_aload_n hx hb dL_law_1473 rfl (lv_at hl 1 rfl) ?_
  refine lv_iload hx hb dL_law_1474 (lv_at hl 5 rfl) ?_
  refine lv_iconst (v := (1 : Int32)) hx hb dL_law_1476 (by decide) ?_
  refine lv_iadd hx hb dL_law_1477 ?_
  refine va_sld hx hb hXs hbl hbA hw.2.2.1 (i := (i + (1 : Int32))) hv1 dL_law_1478 ?_
  refine lv_aload_n hx hb dL_law_1479 rfl (lv_at hl 1 rfl) ?_
  refine lv_iload hx hb dL_law_1480 (lv_at hl 5 rfl) ?_
  refine lv_iconst (v := (2 : Int32)) hx hb dL_law_1482 (by decide) ?_
  refine lv_iadd hx hb dL_law_1483 ?_
  refine va_sld hx hb hXs hbl hbA hw.2.2.1 (i := (i + (2 : Int32))) hv2 dL_law_1484 ?_
  refine lv_aload_n hx hb dL_law_1485 rfl (lv_at hl 1 rfl) ?_
  refine lv_iload hx hb dL_law_1486 (lv_at hl 5 rfl) ?_
  refine lv_iconst (v := (3 : Int32)) hx hb dL_law_1488 (by decide) ?_
  refine lv_iadd hx hb dL_law_1489 ?_
  refine va_sld hx hb hXs hbl hbA hw.2.2.1 (i := (i + (3 : Int32))) hv3 dL_law_1490 ?_
  refine lv_aload_n hx hb dL_law_1491 rfl (lv_at hl 1 rfl) ?_
  refine lv_iload hx hb dL_law_1492 (lv_at hl 5 rfl) ?_
  refine lv_iconst (v := (4 : Int32)) hx hb dL_law_1494 (by decide) ?_
  refine lv_iadd hx hb dL_law_1495 ?_
  refine va_sld hx hb hXs hbl hbA hw.2.2.1 (i := (i + (4 : Int32))) hv4 dL_law_1496 ?_
  refine M_calli hw (LZ_MA hw) (va_runV (own := "LeastreaderLaw") (As := [.int (xs (i + (1 : Int32)).toNatClampNeg), .int (xs (i + (2 : Int32)).toNatClampNeg), .int (xs (i + (3 : Int32)).toNatClampNeg), .int (xs (i + (4 : Int32)).toNatClampNeg)]) (rest := []) ⟨hx, hb, hml, hown, ht⟩ (c_X11_together ν H.size (xs (i + (1 : Int32)).toNatClampNeg) (xs (i + (2 : Int32)).toNatClampNeg) (xs (i + (3 : Int32)).toNatClampNeg) (xs (i + (4 : Int32)).toNatClampNeg) hq1) (cwV 4 ht (G_V q_1584 q_1585 q_1586 q_56 q_1587) rfl rfl rfl ⟨rfl, vd_79⟩ ⟨Nat.le_of_ble_eq_true rfl, Nat.le_of_ble_eq_true rfl⟩) ⟨MB.blind, M_recv hg.2.1 hw, MB.pre hg.2.1 hJ hw va_P0 ne0⟩ rfl rfl hl.1 rfl (lv_room (Nat.le_of_ble_eq_true rfl)) dL_law_1497 ⟨show cv + 5 + 48 ≤ 600128 by omega, show sv + 30 + 3142 ≤ 7301098 by omega⟩) (fun r2 ν2 H locs hf2 hw => ?_)
  refine lv_istore (lv' := [(6, .int r2), (5, .int r1), (0, .ref b), (1, .ref (ad 0)), (2, .ref (bd 0)), (3, .ref q), (4, .int i)]) hx hb dL_law_1500 hl (by decide) rfl (fun ls hl => ?_)
  refine lv_goto (tgt := 1572) hx hb dL_law_1502 (by decide) ?_
  refine W.widen (show cv + 5 + 48 ≤ cv + 2000 by omega) (show sv + 30 + 3142 ≤ sv + 112000 by omega) ?_
  exact hJ3 μ1 ν2 nv1 sw1 H locs ls hf2 hw (lv_sub hl [2, 3, 4, 5, 6] rfl)
set_option maxHeartbeats 4000000 in
set_option maxRecDepth 100000 in
theorem law_26 {p : Program} {l : Launch} {e : Env} {s : State} {m : MethodId} {b : Nat} {below : List Frame} {meth : Method} {c : Code} {L : Nat} {xs : Nat → Int32} {D : va_G} {ad bd : Nat → Nat} {cI cL cM cB : ClassId} {q : Nat} {Z : State → Prop} {JI : TMem → TMem → Prop} {i : Int32} {cv sv : Nat} (hRI : ∀ {μ ν : TMem}, JI μ ν → RI ν) (hGM : GM_house JI) (C0 : LC p l s m b c L xs D ad bd cI cL cM cB) (hi : 0 ≤ i.toInt) (hiL : i.toInt + 6 ≤ L) (hcv : cv + 2000 ≤ 600128) (hsv : sv + 112000 ≤ 7301098) (hJ3 : LJ p l e s m b below meth c D ad bd cI cM q Z JI i (cv + 2000) (sv + 112000) 1572) : LJ p l e s m b below meth c D ad bd cI cM q Z JI i cv sv 1505 := by
  obtain ⟨hx, hb, hml, hown, ht, hg, hI, hJ, hXs, hbl, hst, hL⟩ := C0
  have hN : NW s := hg.2.2.2.2.1
  have hbA : ¬ SA s.heap.size b := Nat.not_le.mpr hbl
  intro μ ν nv sw H locs ls hJI hw hl
  have hi1 : (i + (1 : Int32)).toInt = i.toInt + 1 := ii_a rfl (show (1 : Int32).toInt = 1 from rfl) (by omega) (by omega)
  have hi2 : (i + (2 : Int32)).toInt = i.toInt + 2 := ii_a rfl (show (2 : Int32).toInt = 2 from rfl) (by omega) (by omega)
  have hi3 : (i + (3 : Int32)).toInt = i.toInt + 3 := ii_a rfl (show (3 : Int32).toInt = 3 from rfl) (by omega) (by omega)
  have hi4 : (i + (4 : Int32)).toInt = i.toInt + 4 := ii_a rfl (show (4 : Int32).toInt = 4 from rfl) (by omega) (by omega)
  have hi5 : (i + (5 : Int32)).toInt = i.toInt + 5 := ii_a rfl (show (5 : Int32).toInt = 5 from rfl) (by omega) (by omega)
  have hv0 : vp_in i L := vin (by omega)
  have hv1 : vp_in (i + (1 : Int32)) L := vin (by omega)
  have hv2 : vp_in (i + (2 : Int32)) L := vin (by omega)
  have hv3 : vp_in (i + (3 : Int32)) L := vin (by omega)
  have hv4 : vp_in (i + (4 : Int32)) L := vin (by omega)
  have hv5 : vp_in (i + (5 : Int32)) L := vin (by omega)
  refine lv_aload_n hx hb dL_law_1505 rfl (lv_at hl 1 rfl) ?_
  refine lv_aload_n hx hb dL_law_1506 rfl (lv_at hl 0 rfl) ?_
  refine lv_iload hx hb dL_law_1507 (lv_at hl 4 rfl) ?_
  refine lv_iconst (v := (1 : Int32)) hx hb dL_law_1509 (by decide) ?_
  refine lv_iadd hx hb dL_law_1510 ?_
  refine va_sld hx hb hXs hbl hbA hw.2.2.1 (i := (i + (1 : Int32))) hv1 dL_law_1511 ?_
  refine lv_aload_n hx hb dL_law_1512 rfl (lv_at hl 3 rfl) ?_
  refine LL_call hw hI (vx_runSX (own := "LeastreaderLaw") (As := [.ref (ad 0), .int (xs (i + (1 : Int32)).toNatClampNeg), .ref q]) (rest := []) ⟨hx, hb, hml, hown, ht⟩ (c_L_house hst q nv sw μ H.size (xs (i + (1 : Int32)).toNatClampNeg) (PW := fun k u => RW_house JI ν (xs (i + (1 : Int32)).toNatClampNeg) k u.2.1 u.1) (hGM μ ν nv (xs (i + (1 : Int32)).toNatClampNeg) hJI)) (vx_cwSW 3 ht (G_S q_1300 q_1301 q_45 q_1302) rfl rfl rfl vd_80 ⟨Nat.le_of_ble_eq_true rfl, Nat.le_of_ble_eq_true rfl⟩) ⟨LB.blind, hg.lb hI hw⟩ rfl rfl hl.1 rfl (lv_room (Nat.le_of_ble_eq_true rfl)) dL_law_1513 ⟨show cv + 1 ≤ 600128 by omega, show sv + 6 ≤ 7301098 by omega⟩) (fun r1 μ1 nv1 sw1 H locs hq1 hw => ?_)
  refine lv_istore (lv' := [(5, .int r1), (0, .ref b), (1, .ref (ad 0)), (2, .ref (bd 0)), (3, .ref q), (4, .int i)]) hx hb dL_law_1516 hl (by decide) rfl (fun ls hl => ?_)
  refine lv_aload_n hx hb dL_law_1518 rfl (lv_at hl 3 rfl) ?_
  refine lv_aload_n hx hb dL_law_1519 rfl (lv_at hl 1 rfl) ?_
  refine lv_iload hx hb dL_law_1520 (lv_at hl 5 rfl) ?_
  refine lv_iconst (v := (1 : Int32)) hx hb dL_law_1522 (by decide) ?_
  refine lv_iadd hx hb dL_law_1523 ?_
  refine va_sld hx hb hXs hbl hbA hw.2.2.1 (i := (i + (1 : Int32))) hv1 dL_law_1524 ?_
  refine M_calli hw (LZ_MA hw) (va_runV (own := "LeastreaderLaw") (As := [.int (xs (i + (1 : Int32)).toNatClampNeg)]) (rest := []) ⟨hx, hb, hml, hown, ht⟩ (c_X11_house ν H.size (xs (i + (1 : Int32)).toNatClampNeg) hq1) (cwV 1 ht (G_V q_1588 q_1589 q_1590 q_56 q_1591) rfl rfl rfl ⟨rfl, vd_81⟩ ⟨Nat.le_of_ble_eq_true rfl, Nat.le_of_ble_eq_true rfl⟩) ⟨MB.blind, M_recv hg.2.1 hw, MB.pre hg.2.1 hJ hw va_P0 ne0⟩ rfl rfl hl.1 rfl (lv_room (Nat.le_of_ble_eq_true rfl)) dL_law_1525 ⟨show cv + 1 + 0 ≤ 600128 by omega, show sv + 6 + 0 ≤ 7301098 by omega⟩) (fun r2 ν2 H locs hf2 hw => ?_)
  refine lv_istore (lv' := [(6, .int r2), (5, .int r1), (0, .ref b), (1, .ref (ad 0)), (2, .ref (bd 0)), (3, .ref q), (4, .int i)]) hx hb dL_law_1528 hl (by decide) rfl (fun ls hl => ?_)
  refine lv_goto (tgt := 1572) hx hb dL_law_1530 (by decide) ?_
  refine W.widen (show cv + 1 + 0 ≤ cv + 2000 by omega) (show sv + 6 + 0 ≤ sv + 112000 by omega) ?_
  exact hJ3 μ1 ν2 nv1 sw1 H locs ls hf2 hw (lv_sub hl [2, 3, 4, 5, 6] rfl)
set_option maxHeartbeats 4000000 in
set_option maxRecDepth 100000 in
theorem law_27 {p : Program} {l : Launch} {e : Env} {s : State} {m : MethodId} {b : Nat} {below : List Frame} {meth : Method} {c : Code} {L : Nat} {xs : Nat → Int32} {D : va_G} {ad bd : Nat → Nat} {cI cL cM cB : ClassId} {q : Nat} {Z : State → Prop} {JI : TMem → TMem → Prop} {i : Int32} {cv sv : Nat} (hRI : ∀ {μ ν : TMem}, JI μ ν → RI ν) (hGM : GM_knock JI) (C0 : LC p l s m b c L xs D ad bd cI cL cM cB) (hi : 0 ≤ i.toInt) (hiL : i.toInt + 6 ≤ L) (hcv : cv + 2000 ≤ 600128) (hsv : sv + 112000 ≤ 7301098) (hJ3 : LJ p l e s m b below meth c D ad bd cI cM q Z JI i (cv + 2000) (sv + 112000) 1572) : LJ p l e s m b below meth c D ad bd cI cM q Z JI i cv sv 1533 := by
  obtain ⟨hx, hb, hml, hown, ht, hg, hI, hJ, hXs, hbl, hst, hL⟩ := C0
  have hN : NW s := hg.2.2.2.2.1
  have hbA : ¬ SA s.heap.size b := Nat.not_le.mpr hbl
  intro μ ν nv sw H locs ls hJI hw hl
  have hi1 : (i + (1 : Int32)).toInt = i.toInt + 1 := ii_a rfl (show (1 : Int32).toInt = 1 from rfl) (by omega) (by omega)
  have hi2 : (i + (2 : Int32)).toInt = i.toInt + 2 := ii_a rfl (show (2 : Int32).toInt = 2 from rfl) (by omega) (by omega)
  have hi3 : (i + (3 : Int32)).toInt = i.toInt + 3 := ii_a rfl (show (3 : Int32).toInt = 3 from rfl) (by omega) (by omega)
  have hi4 : (i + (4 : Int32)).toInt = i.toInt + 4 := ii_a rfl (show (4 : Int32).toInt = 4 from rfl) (by omega) (by omega)
  have hi5 : (i + (5 : Int32)).toInt = i.toInt + 5 := ii_a rfl (show (5 : Int32).toInt = 5 from rfl) (by omega) (by omega)
  have hv0 : vp_in i L := vin (by omega)
  have hv1 : vp_in (i + (1 : Int32)) L := vin (by omega)
  have hv2 : vp_in (i + (2 : Int32)) L := vin (by omega)
  have hv3 : vp_in (i + (3 : Int32)) L := vin (by omega)
  have hv4 : vp_in (i + (4 : Int32)) L := vin (by omega)
  have hv5 : vp_in (i + (5 : Int32)) L := vin (by omega)
  refine lv_aload_n hx hb dL_law_1533 rfl (lv_at hl 1 rfl) ?_
  refine LL_ti hw hI (va_runV (own := "LeastreaderLaw") (As := []) (rest := []) ⟨hx, hb, hml, hown, ht⟩ (c_X9_knock μ H.size (hGM μ ν hJI)) (cwV 0 ht (G_V q_306 q_307 q_308 q_46 q_309) rfl rfl rfl ⟨rfl, vd_82⟩ ⟨Nat.le_of_ble_eq_true rfl, Nat.le_of_ble_eq_true rfl⟩) ⟨TB.blind, LL_rv hg hw, hg.pT hI hw⟩ rfl rfl hl.1 rfl (lv_room (Nat.le_of_ble_eq_true rfl)) dL_law_1534 ⟨show cv + 0 ≤ 600128 by omega, show sv + 0 ≤ 7301098 by omega⟩) (fun r1 μ1 H locs hq1 hw => ?_)
  refine lv_pop hx hb dL_law_1537 rfl ?_
  refine lv_aload_n hx hb dL_law_1538 rfl (lv_at hl 2 rfl) ?_
  refine M_calli hw (LZ_MA hw) (va_runV (own := "LeastreaderLaw") (As := []) (rest := []) ⟨hx, hb, hml, hown, ht⟩ (c_X11_knock ν H.size  hq1) (cwV 0 ht (G_V q_1592 q_1593 q_1594 q_56 q_1595) rfl rfl rfl ⟨rfl, vd_83⟩ ⟨Nat.le_of_ble_eq_true rfl, Nat.le_of_ble_eq_true rfl⟩) ⟨MB.blind, M_recv hg.2.1 hw, MB.pre hg.2.1 hJ hw va_P0 ne0⟩ rfl rfl hl.1 rfl (lv_room (Nat.le_of_ble_eq_true rfl)) dL_law_1539 ⟨show cv + 0 + 0 ≤ 600128 by omega, show sv + 0 + 0 ≤ 7301098 by omega⟩) (fun r2 ν2 H locs hf2 hw => ?_)
  refine lv_pop hx hb dL_law_1542 rfl ?_
  refine lv_goto (tgt := 1572) hx hb dL_law_1543 (by decide) ?_
  refine W.widen (show cv + 0 + 0 ≤ cv + 2000 by omega) (show sv + 0 + 0 ≤ sv + 112000 by omega) ?_
  exact hJ3 μ1 ν2 nv sw H locs ls hf2 hw (lv_sub hl [0, 1, 2, 3, 4] rfl)
set_option maxHeartbeats 4000000 in
set_option maxRecDepth 100000 in
theorem law_28 {p : Program} {l : Launch} {e : Env} {s : State} {m : MethodId} {b : Nat} {below : List Frame} {meth : Method} {c : Code} {L : Nat} {xs : Nat → Int32} {D : va_G} {ad bd : Nat → Nat} {cI cL cM cB : ClassId} {q : Nat} {Z : State → Prop} {JI : TMem → TMem → Prop} {i : Int32} {cv sv : Nat} (hRI : ∀ {μ ν : TMem}, JI μ ν → RI ν) (hGM : GM_isSound JI) (C0 : LC p l s m b c L xs D ad bd cI cL cM cB) (hi : 0 ≤ i.toInt) (hiL : i.toInt + 6 ≤ L) (hcv : cv + 2000 ≤ 600128) (hsv : sv + 112000 ≤ 7301098) (hJ3 : LJ p l e s m b below meth c D ad bd cI cM q Z JI i (cv + 2000) (sv + 112000) 1572) : LJ p l e s m b below meth c D ad bd cI cM q Z JI i cv sv 1546 := by
  obtain ⟨hx, hb, hml, hown, ht, hg, hI, hJ, hXs, hbl, hst, hL⟩ := C0
  have hN : NW s := hg.2.2.2.2.1
  have hbA : ¬ SA s.heap.size b := Nat.not_le.mpr hbl
  intro μ ν nv sw H locs ls hJI hw hl
  have hi1 : (i + (1 : Int32)).toInt = i.toInt + 1 := ii_a rfl (show (1 : Int32).toInt = 1 from rfl) (by omega) (by omega)
  have hi2 : (i + (2 : Int32)).toInt = i.toInt + 2 := ii_a rfl (show (2 : Int32).toInt = 2 from rfl) (by omega) (by omega)
  have hi3 : (i + (3 : Int32)).toInt = i.toInt + 3 := ii_a rfl (show (3 : Int32).toInt = 3 from rfl) (by omega) (by omega)
  have hi4 : (i + (4 : Int32)).toInt = i.toInt + 4 := ii_a rfl (show (4 : Int32).toInt = 4 from rfl) (by omega) (by omega)
  have hi5 : (i + (5 : Int32)).toInt = i.toInt + 5 := ii_a rfl (show (5 : Int32).toInt = 5 from rfl) (by omega) (by omega)
  have hv0 : vp_in i L := vin (by omega)
  have hv1 : vp_in (i + (1 : Int32)) L := vin (by omega)
  have hv2 : vp_in (i + (2 : Int32)) L := vin (by omega)
  have hv3 : vp_in (i + (3 : Int32)) L := vin (by omega)
  have hv4 : vp_in (i + (4 : Int32)) L := vin (by omega)
  have hv5 : vp_in (i + (5 : Int32)) L := vin (by omega)
  refine lv_aload_n hx hb dL_law_1546 rfl (lv_at hl 1 rfl) ?_
  refine LL_xi (X := fun _ _ => False) (fun _ _ h => h) hw hI (vx_runV (own := "LeastreaderLaw") (As := []) (rest := []) ⟨hx, hb, hml, hown, ht⟩ (c_X9_isSound hst μ H.size (hGM μ ν hJI)) (cwV 0 ht (G_V q_310 q_311 q_312 q_46 q_313) rfl rfl rfl ⟨rfl, vd_84⟩ ⟨Nat.le_of_ble_eq_true rfl, Nat.le_of_ble_eq_true rfl⟩) ⟨TBX.blind, LL_rv hg hw, hg.pX hI hw⟩ rfl rfl hl.1 rfl (lv_room (Nat.le_of_ble_eq_true rfl)) dL_law_1547 ⟨show cv + 1 ≤ 600128 by omega, show sv + 6 ≤ 7301098 by omega⟩) (fun r1 μ1 H locs hq1 hw => ?_)
  refine lv_pop hx hb dL_law_1550 rfl ?_
  refine lv_aload_n hx hb dL_law_1551 rfl (lv_at hl 2 rfl) ?_
  refine M_calli hw (LZ_MA hw) (va_runV (own := "LeastreaderLaw") (As := []) (rest := []) ⟨hx, hb, hml, hown, ht⟩ (c_X11_isSound ν H.size  hq1) (cwV 0 ht (G_V q_1596 q_1597 q_1598 q_56 q_1599) rfl rfl rfl ⟨rfl, vd_85⟩ ⟨Nat.le_of_ble_eq_true rfl, Nat.le_of_ble_eq_true rfl⟩) ⟨MB.blind, M_recv hg.2.1 hw, MB.pre hg.2.1 hJ hw va_P0 ne0⟩ rfl rfl hl.1 rfl (lv_room (Nat.le_of_ble_eq_true rfl)) dL_law_1552 ⟨show cv + 1 + 0 ≤ 600128 by omega, show sv + 6 + 0 ≤ 7301098 by omega⟩) (fun r2 ν2 H locs hf2 hw => ?_)
  refine lv_pop hx hb dL_law_1555 rfl ?_
  refine lv_goto (tgt := 1572) hx hb dL_law_1556 (by decide) ?_
  refine W.widen (show cv + 1 + 0 ≤ cv + 2000 by omega) (show sv + 6 + 0 ≤ sv + 112000 by omega) ?_
  exact hJ3 μ1 ν2 nv sw H locs ls hf2 hw (lv_sub hl [0, 1, 2, 3, 4] rfl)
set_option maxHeartbeats 4000000 in
set_option maxRecDepth 100000 in
theorem law_29 {p : Program} {l : Launch} {e : Env} {s : State} {m : MethodId} {b : Nat} {below : List Frame} {meth : Method} {c : Code} {L : Nat} {xs : Nat → Int32} {D : va_G} {ad bd : Nat → Nat} {cI cL cM cB : ClassId} {q : Nat} {Z : State → Prop} {JI : TMem → TMem → Prop} {i : Int32} {cv sv : Nat} (hRI : ∀ {μ ν : TMem}, JI μ ν → RI ν) (hGM : GM_digest JI) (C0 : LC p l s m b c L xs D ad bd cI cL cM cB) (hi : 0 ≤ i.toInt) (hiL : i.toInt + 6 ≤ L) (hcv : cv + 2000 ≤ 600128) (hsv : sv + 112000 ≤ 7301098) (hJ3 : LJ p l e s m b below meth c D ad bd cI cM q Z JI i (cv + 2000) (sv + 112000) 1572) : LJ p l e s m b below meth c D ad bd cI cM q Z JI i cv sv 1559 := by
  obtain ⟨hx, hb, hml, hown, ht, hg, hI, hJ, hXs, hbl, hst, hL⟩ := C0
  have hN : NW s := hg.2.2.2.2.1
  have hbA : ¬ SA s.heap.size b := Nat.not_le.mpr hbl
  intro μ ν nv sw H locs ls hJI hw hl
  have hi1 : (i + (1 : Int32)).toInt = i.toInt + 1 := ii_a rfl (show (1 : Int32).toInt = 1 from rfl) (by omega) (by omega)
  have hi2 : (i + (2 : Int32)).toInt = i.toInt + 2 := ii_a rfl (show (2 : Int32).toInt = 2 from rfl) (by omega) (by omega)
  have hi3 : (i + (3 : Int32)).toInt = i.toInt + 3 := ii_a rfl (show (3 : Int32).toInt = 3 from rfl) (by omega) (by omega)
  have hi4 : (i + (4 : Int32)).toInt = i.toInt + 4 := ii_a rfl (show (4 : Int32).toInt = 4 from rfl) (by omega) (by omega)
  have hi5 : (i + (5 : Int32)).toInt = i.toInt + 5 := ii_a rfl (show (5 : Int32).toInt = 5 from rfl) (by omega) (by omega)
  have hv0 : vp_in i L := vin (by omega)
  have hv1 : vp_in (i + (1 : Int32)) L := vin (by omega)
  have hv2 : vp_in (i + (2 : Int32)) L := vin (by omega)
  have hv3 : vp_in (i + (3 : Int32)) L := vin (by omega)
  have hv4 : vp_in (i + (4 : Int32)) L := vin (by omega)
  have hv5 : vp_in (i + (5 : Int32)) L := vin (by omega)
  refine lv_aload_n hx hb dL_law_1559 rfl (lv_at hl 1 rfl) ?_
  refine LL_xl (X := fun _ _ => False) (fun _ _ h => h) hw hI (vx_runV (own := "LeastreaderLaw") (As := []) (rest := []) ⟨hx, hb, hml, hown, ht⟩ (c_X9_digest hst μ H.size (hGM μ ν hJI)) (cwV 0 ht (G_V q_550 q_551 q_552 q_46 q_553) rfl rfl rfl ⟨rfl, vd_86⟩ ⟨Nat.le_of_ble_eq_true rfl, Nat.le_of_ble_eq_true rfl⟩) ⟨TBX.blind, LL_rv hg hw, hg.pX hI hw⟩ rfl rfl hl.1 rfl (lv_room (Nat.le_of_ble_eq_true rfl)) dL_law_1560 ⟨show cv + 1 ≤ 600128 by omega, show sv + 6 ≤ 7301098 by omega⟩) (fun r1 μ1 H locs hq1 hw => ?_)
  refine lv_pop2_2 hx hb dL_law_1563 rfl ?_
  refine lv_aload_n hx hb dL_law_1564 rfl (lv_at hl 2 rfl) ?_
  refine M_calll hw (LZ_MA hw) (va_runV (own := "LeastreaderLaw") (As := []) (rest := []) ⟨hx, hb, hml, hown, ht⟩ (c_X11_digest ν H.size  hq1) (cwV 0 ht (G_V q_1600 q_1601 q_1602 q_56 q_1603) rfl rfl rfl ⟨rfl, vd_87⟩ ⟨Nat.le_of_ble_eq_true rfl, Nat.le_of_ble_eq_true rfl⟩) ⟨MB.blind, M_recv hg.2.1 hw, MB.pre hg.2.1 hJ hw va_P0 ne0⟩ rfl rfl hl.1 rfl (lv_room (Nat.le_of_ble_eq_true rfl)) dL_law_1565 ⟨show cv + 1 + 0 ≤ 600128 by omega, show sv + 6 + 0 ≤ 7301098 by omega⟩) (fun r2 ν2 H locs hf2 hw => ?_)
  refine lv_pop2_2 hx hb dL_law_1568 rfl ?_
  refine lv_goto (tgt := 1572) hx hb dL_law_1569 (by decide) ?_
  refine W.widen (show cv + 1 + 0 ≤ cv + 2000 by omega) (show sv + 6 + 0 ≤ sv + 112000 by omega) ?_
  exact hJ3 μ1 ν2 nv sw H locs ls hf2 hw (lv_sub hl [0, 1, 2, 3, 4] rfl)
end
/-! part 9q.lawloop -/
section
section LLP
theorem and31 (x : Int32) : 0 ≤ (x &&& (31 : Int32)).toInt ∧ (x &&& (31 : Int32)).toInt ≤ 31 := by
  have h : (x &&& (31 : Int32)).toBitVec.toNat ≤ 31 := by
    rw [Int32.toBitVec_and, BitVec.toNat_and]
    exact Nat.and_le_right
  have e : (x &&& (31 : Int32)).toInt = ((x &&& (31 : Int32)).toBitVec.toNat : Int) := by
    rw [← Int32.toInt_toBitVec]
    exact BitVec.toInt_eq_toNat_of_lt (by omega)
  omega
set_option maxHeartbeats 4000000 in
set_option maxRecDepth 100000 in
theorem law_loop {p : Program} {l : Launch} {e : Env} {s : State} {m : MethodId} {b : Nat} {below : List Frame} {meth : Method} {c : Code} {L : Nat} {xs : Nat → Int32} {D : va_G} {ad bd : Nat → Nat} {cI cL cM cB : ClassId} {q : Nat} {Z : State → Prop} {JI : TMem → TMem → Prop} (hRI : ∀ {μ ν : TMem}, JI μ ν → RI ν) (hm0 : GM_begin JI) (hm1 : GM_arrow JI) (hm2 : GM_lead JI) (hm3 : GM_mark JI) (hm4 : GM_sow JI) (hm5 : GM_copy JI) (hm6 : GM_swap JI) (hm7 : GM_turn JI) (hm8 : GM_other JI) (hm9 : GM_grow JI) (hm10 : GM_drop JI) (hm11 : GM_make JI) (hm12 : GM_combine JI) (hm13 : GM_tell JI) (hm14 : GM_arrows JI) (hm15 : GM_takes JI) (hm16 : GM_after JI) (hm17 : GM_size JI) (hm18 : GM_text JI) (hm19 : GM_kind JI) (hm20 : GM_many JI) (hm21 : GM_word JI) (hm22 : GM_isAlike JI) (hm23 : GM_apart JI) (hm24 : GM_pairs JI) (hm25 : GM_together JI) (hm26 : GM_house JI) (hm27 : GM_knock JI) (hm28 : GM_isSound JI) (hm29 : GM_digest JI) (C0 : LC p l s m b c L xs D ad bd cI cL cM cB) (hE : ∀ (H : Heap) (ls : Array Slot), W p l e room_1 s m #[.ref b] below meth c H [] 600128 7301098 Z (F0 m 1579 ls [.int 1])) :
    ∀ (n t : Nat) (i : Int32), 65 - t < n → t ≤ 64 → i.toInt = 6 * (t : Int) → LJ p l e s m b below meth c D ad bd cI cM q Z JI i (100 + 2000 * t) (6000 + 112000 * t) 27 := by
  intro n
  induction n with
  | zero => intro t i hk; exact absurd hk (Nat.not_lt_zero _)
  | succ n ih =>
    intro t i hk ht64 hi μ ν nv sw H locs ls hJI hw hl
    obtain ⟨hx, hb, hml, hown, ht, hg, hI, hJ, hXs, hbl, hst, hL⟩ := id C0
    have hbA : ¬ SA s.heap.size b := Nat.not_le.mpr hbl
    have eL : (Int32.ofNat L).toInt = (L : Int) := ii_nI (by omega)
    refine lv_iload hx hb dL_law_27 (lv_at hl 4 rfl) ?_
    refine lv_aload_n hx hb dL_law_29 rfl (lv_at hl 0 rfl) ?_
    refine va_slen hx hb hXs hbl hbA hw.2.2.1 dL_law_30 ?_
    refine lv_bipush (v := (6 : Int32)) hx hb dL_law_31 (by decide) ?_
    refine lv_isub hx hb dL_law_33 ?_
    have e6 : (Int32.ofNat L - (6 : Int32)).toInt = (L : Int) - 6 := ii_s eL (show (6 : Int32).toInt = 6 from rfl) (by omega) (by omega)
    refine lv_icmp_gt (tgt := 1578) hx hb dL_law_34 (by decide) (fun c1 => ?_) (fun c1 => ?_)
    · refine lv_iconst (v := (1 : Int32)) hx hb dL_law_1578 (by decide) ?_
      refine W.widen (show 100 + 2000 * t ≤ 600128 by omega) (show 6000 + 112000 * t ≤ 7301098 by omega) ?_
      exact va_forget (fun x hx => hw.2.2.1.2.2 x hx) (hE H ls)
    have hiL : i.toInt + 6 ≤ L := by
      rw [l_lt, e6] at c1
      omega
    have hv0 : vp_in i L := vin (by omega)
    have ei : (i + (6 : Int32)).toInt = i.toInt + 6 := ii_a rfl (show (6 : Int32).toInt = 6 from rfl) (by omega) (by omega)
    have J3 : LJ p l e s m b below meth c D ad bd cI cM q Z JI i (100 + 2000 * t + 2000) (6000 + 112000 * t + 112000) 1572 := by
      intro μ ν nv sw H locs ls hJI hw hl
      have J := ih (t + 1) (i + (6 : Int32)) (by omega) (by omega) (by omega)
      rw [show 100 + 2000 * (t + 1) = 100 + 2000 * t + 2000 by omega, show 6000 + 112000 * (t + 1) = 6000 + 112000 * t + 112000 by omega] at J
      refine lv_iinc (v := (i + (6 : Int32))) (lv' := [(4, .int (i + (6 : Int32))), (0, .ref b), (1, .ref (ad 0)), (2, .ref (bd 0)), (3, .ref q)]) hx hb dL_law_1572 hl (k := 4) rfl rfl (by decide) rfl (fun ls hl => ?_)
      refine lv_goto (tgt := 27) hx hb dL_law_1575 (by decide) ?_
      exact J μ ν nv sw H locs ls hJI hw (lv_sub hl [1, 2, 3, 4, 0] rfl)
    have hcv : 100 + 2000 * t + 2000 ≤ 600128 := by omega
    have hsv : 6000 + 112000 * t + 112000 ≤ 7301098 := by omega
    refine lv_aload_n hx hb dL_law_37 rfl (lv_at hl 0 rfl) ?_
    refine lv_iload hx hb dL_law_38 (lv_at hl 4 rfl) ?_
    refine va_sld hx hb hXs hbl hbA hw.2.2.1 (i := i) hv0 dL_law_40 ?_
    refine lv_bipush (v := (31 : Int32)) hx hb dL_law_41 (by decide) ?_
    refine lv_iand hx hb dL_law_43 ?_
    obtain ⟨h0, h31⟩ := and31 (xs i.toNatClampNeg)
    generalize (xs i.toNatClampNeg) &&& (31 : Int32) = v at h0 h31 ⊢
    have hi0 : 0 ≤ i.toInt := by omega
    by_cases hv : 29 < v.toInt
    · refine lv_tableOut (tgt := 1572) hx hb dL_law_44 (Or.inr hv) (by decide) ?_
      exact W.widen (show 100 + 2000 * t ≤ 100 + 2000 * t + 2000 by omega) (show 6000 + 112000 * t ≤ 6000 + 112000 * t + 112000 by omega) (J3 μ ν nv sw H locs ls hJI hw hl)
    rcases (show v.toInt = 0 ∨ v.toInt = 1 ∨ v.toInt = 2 ∨ v.toInt = 3 ∨ v.toInt = 4 ∨ v.toInt = 5 ∨ v.toInt = 6 ∨ v.toInt = 7 ∨ v.toInt = 8 ∨ v.toInt = 9 ∨ v.toInt = 10 ∨ v.toInt = 11 ∨ v.toInt = 12 ∨ v.toInt = 13 ∨ v.toInt = 14 ∨ v.toInt = 15 ∨ v.toInt = 16 ∨ v.toInt = 17 ∨ v.toInt = 18 ∨ v.toInt = 19 ∨ v.toInt = 20 ∨ v.toInt = 21 ∨ v.toInt = 22 ∨ v.toInt = 23 ∨ v.toInt = 24 ∨ v.toInt = 25 ∨ v.toInt = 26 ∨ v.toInt = 27 ∨ v.toInt = 28 ∨ v.toInt = 29 by omega) with hk9 | hk9 | hk9 | hk9 | hk9 | hk9 | hk9 | hk9 | hk9 | hk9 | hk9 | hk9 | hk9 | hk9 | hk9 | hk9 | hk9 | hk9 | hk9 | hk9 | hk9 | hk9 | hk9 | hk9 | hk9 | hk9 | hk9 | hk9 | hk9 | hk9
    · exact lv_tableIn (tgt := 180) hx hb dL_law_44 (by rw [hk9]; decide) (by rw [hk9]; decide) (by rw [hk9]; rfl) (by decide) (law_0 hRI hm0 C0 hi0 hiL hcv hsv J3 μ ν nv sw H locs ls hJI hw hl)
    · exact lv_tableIn (tgt := 220) hx hb dL_law_44 (by rw [hk9]; decide) (by rw [hk9]; decide) (by rw [hk9]; rfl) (by decide) (law_1 hRI hm1 C0 hi0 hiL hcv hsv J3 μ ν nv sw H locs ls hJI hw hl)
    · exact lv_tableIn (tgt := 312) hx hb dL_law_44 (by rw [hk9]; decide) (by rw [hk9]; decide) (by rw [hk9]; rfl) (by decide) (law_2 hRI hm2 C0 hi0 hiL hcv hsv J3 μ ν nv sw H locs ls hJI hw hl)
    · exact lv_tableIn (tgt := 376) hx hb dL_law_44 (by rw [hk9]; decide) (by rw [hk9]; decide) (by rw [hk9]; rfl) (by decide) (law_3 hRI hm3 C0 hi0 hiL hcv hsv J3 μ ν nv sw H locs ls hJI hw hl)
    · exact lv_tableIn (tgt := 472) hx hb dL_law_44 (by rw [hk9]; decide) (by rw [hk9]; decide) (by rw [hk9]; rfl) (by decide) (law_4 hRI hm4 C0 hi0 hiL hcv hsv J3 μ ν nv sw H locs ls hJI hw hl)
    · exact lv_tableIn (tgt := 536) hx hb dL_law_44 (by rw [hk9]; decide) (by rw [hk9]; decide) (by rw [hk9]; rfl) (by decide) (law_5 hRI hm5 C0 hi0 hiL hcv hsv J3 μ ν nv sw H locs ls hJI hw hl)
    · exact lv_tableIn (tgt := 576) hx hb dL_law_44 (by rw [hk9]; decide) (by rw [hk9]; decide) (by rw [hk9]; rfl) (by decide) (law_6 hRI hm6 C0 hi0 hiL hcv hsv J3 μ ν nv sw H locs ls hJI hw hl)
    · exact lv_tableIn (tgt := 616) hx hb dL_law_44 (by rw [hk9]; decide) (by rw [hk9]; decide) (by rw [hk9]; rfl) (by decide) (law_7 hRI hm7 C0 hi0 hiL hcv hsv J3 μ ν nv sw H locs ls hJI hw hl)
    · exact lv_tableIn (tgt := 673) hx hb dL_law_44 (by rw [hk9]; decide) (by rw [hk9]; decide) (by rw [hk9]; rfl) (by decide) (law_8 hRI hm8 C0 hi0 hiL hcv hsv J3 μ ν nv sw H locs ls hJI hw hl)
    · exact lv_tableIn (tgt := 701) hx hb dL_law_44 (by rw [hk9]; decide) (by rw [hk9]; decide) (by rw [hk9]; rfl) (by decide) (law_9 hRI hm9 C0 hi0 hiL hcv hsv J3 μ ν nv sw H locs ls hJI hw hl)
    · exact lv_tableIn (tgt := 729) hx hb dL_law_44 (by rw [hk9]; decide) (by rw [hk9]; decide) (by rw [hk9]; rfl) (by decide) (law_10 hRI hm10 C0 hi0 hiL hcv hsv J3 μ ν nv sw H locs ls hJI hw hl)
    · exact lv_tableIn (tgt := 769) hx hb dL_law_44 (by rw [hk9]; decide) (by rw [hk9]; decide) (by rw [hk9]; rfl) (by decide) (law_11 hRI hm11 C0 hi0 hiL hcv hsv J3 μ ν nv sw H locs ls hJI hw hl)
    · exact lv_tableIn (tgt := 837) hx hb dL_law_44 (by rw [hk9]; decide) (by rw [hk9]; decide) (by rw [hk9]; rfl) (by decide) (law_12 hRI hm12 C0 hi0 hiL hcv hsv J3 μ ν nv sw H locs ls hJI hw hl)
    · exact lv_tableIn (tgt := 901) hx hb dL_law_44 (by rw [hk9]; decide) (by rw [hk9]; decide) (by rw [hk9]; rfl) (by decide) (law_13 hRI hm13 C0 hi0 hiL hcv hsv J3 μ ν nv sw H locs ls hJI hw hl)
    · exact lv_tableIn (tgt := 941) hx hb dL_law_44 (by rw [hk9]; decide) (by rw [hk9]; decide) (by rw [hk9]; rfl) (by decide) (law_14 hRI hm14 C0 hi0 hiL hcv hsv J3 μ ν nv sw H locs ls hJI hw hl)
    · exact lv_tableIn (tgt := 993) hx hb dL_law_44 (by rw [hk9]; decide) (by rw [hk9]; decide) (by rw [hk9]; rfl) (by decide) (law_15 hRI hm15 C0 hi0 hiL hcv hsv J3 μ ν nv sw H locs ls hJI hw hl)
    · exact lv_tableIn (tgt := 1045) hx hb dL_law_44 (by rw [hk9]; decide) (by rw [hk9]; decide) (by rw [hk9]; rfl) (by decide) (law_16 hRI hm16 C0 hi0 hiL hcv hsv J3 μ ν nv sw H locs ls hJI hw hl)
    · exact lv_tableIn (tgt := 1109) hx hb dL_law_44 (by rw [hk9]; decide) (by rw [hk9]; decide) (by rw [hk9]; rfl) (by decide) (law_17 hRI hm17 C0 hi0 hiL hcv hsv J3 μ ν nv sw H locs ls hJI hw hl)
    · exact lv_tableIn (tgt := 1149) hx hb dL_law_44 (by rw [hk9]; decide) (by rw [hk9]; decide) (by rw [hk9]; rfl) (by decide) (law_18 hRI hm18 C0 hi0 hiL hcv hsv J3 μ ν nv sw H locs ls hJI hw hl)
    · exact lv_tableIn (tgt := 1189) hx hb dL_law_44 (by rw [hk9]; decide) (by rw [hk9]; decide) (by rw [hk9]; rfl) (by decide) (law_19 hRI hm19 C0 hi0 hiL hcv hsv J3 μ ν nv sw H locs ls hJI hw hl)
    · exact lv_tableIn (tgt := 1217) hx hb dL_law_44 (by rw [hk9]; decide) (by rw [hk9]; decide) (by rw [hk9]; rfl) (by decide) (law_20 hRI hm20 C0 hi0 hiL hcv hsv J3 μ ν nv sw H locs ls hJI hw hl)
    · exact lv_tableIn (tgt := 1269) hx hb dL_law_44 (by rw [hk9]; decide) (by rw [hk9]; decide) (by rw [hk9]; rfl) (by decide) (law_21 hRI hm21 C0 hi0 hiL hcv hsv J3 μ ν nv sw H locs ls hJI hw hl)
    · exact lv_tableIn (tgt := 1309) hx hb dL_law_44 (by rw [hk9]; decide) (by rw [hk9]; decide) (by rw [hk9]; rfl) (by decide) (law_22 hRI hm22 C0 hi0 hiL hcv hsv J3 μ ν nv sw H locs ls hJI hw hl)
    · exact lv_tableIn (tgt := 1361) hx hb dL_law_44 (by rw [hk9]; decide) (by rw [hk9]; decide) (by rw [hk9]; rfl) (by decide) (law_23 hRI hm23 C0 hi0 hiL hcv hsv J3 μ ν nv sw H locs ls hJI hw hl)
    · exact lv_tableIn (tgt := 1401) hx hb dL_law_44 (by rw [hk9]; decide) (by rw [hk9]; decide) (by rw [hk9]; rfl) (by decide) (law_24 hRI hm24 C0 hi0 hiL hcv hsv J3 μ ν nv sw H locs ls hJI hw hl)
    · exact lv_tableIn (tgt := 1441) hx hb dL_law_44 (by rw [hk9]; decide) (by rw [hk9]; decide) (by rw [hk9]; rfl) (by decide) (law_25 hRI hm25 C0 hi0 hiL hcv hsv J3 μ ν nv sw H locs ls hJI hw hl)
    · exact lv_tableIn (tgt := 1505) hx hb dL_law_44 (by rw [hk9]; decide) (by rw [hk9]; decide) (by rw [hk9]; rfl) (by decide) (law_26 hRI hm26 C0 hi0 hiL hcv hsv J3 μ ν nv sw H locs ls hJI hw hl)
    · exact lv_tableIn (tgt := 1533) hx hb dL_law_44 (by rw [hk9]; decide) (by rw [hk9]; decide) (by rw [hk9]; rfl) (by decide) (law_27 hRI hm27 C0 hi0 hiL hcv hsv J3 μ ν nv sw H locs ls hJI hw hl)
    · exact lv_tableIn (tgt := 1546) hx hb dL_law_44 (by rw [hk9]; decide) (by rw [hk9]; decide) (by rw [hk9]; rfl) (by decide) (law_28 hRI hm28 C0 hi0 hiL hcv hsv J3 μ ν nv sw H locs ls hJI hw hl)
    · exact lv_tableIn (tgt := 1559) hx hb dL_law_44 (by rw [hk9]; decide) (by rw [hk9]; decide) (by rw [hk9]; rfl) (by decide) (law_29 hRI hm29 C0 hi0 hiL hcv hsv J3 μ ν nv sw H locs ls hJI hw hl)
end LLP
end

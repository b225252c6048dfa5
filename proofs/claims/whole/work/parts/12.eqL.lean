noncomputable def rf_j_L_law_18 (d : Nat) (l0 : Option Nat) (l1 : Option Nat) (l2 : Option Nat) (l3 : Int) (h : rf_H) : Option rf_R := rf_den (rf_call d) rf_m_L_law (18, [some (.inr (.inr l0)), some (.inr (.inr l1)), some (.inr (.inr l2)), some (.inl l3)], [], h)
noncomputable def rf_j_L_law_1204 (d : Nat) (l0 : Option Nat) (l1 : Option Nat) (l2 : Option Nat) (l3 : Int) (h : rf_H) : Option rf_R := rf_den (rf_call d) rf_m_L_law (1204, [some (.inr (.inr l0)), some (.inr (.inr l1)), some (.inr (.inr l2)), some (.inl l3)], [], h)
theorem rf_u_L_law : rf_mt 197 = rf_m_L_law := rfl
theorem rf_f_L_law_18 : rf_Fb rf_m_L_law 18 19 (.iload_n 3) 0 0 0 0 [] [] = true := by decide +kernel
theorem rf_f_L_law_19 : rf_Fb rf_m_L_law 19 20 (.aload_n 0) 0 0 0 0 [] [] = true := by decide +kernel
theorem rf_f_L_law_20 : rf_Fb rf_m_L_law 20 21 (.arraylength) 0 0 0 0 [] [] = true := by decide +kernel
theorem rf_f_L_law_21 : rf_Fb rf_m_L_law 21 23 (.bipush 6) 0 0 0 0 [] [] = true := by decide +kernel
theorem rf_f_L_law_23 : rf_Fb rf_m_L_law 23 24 (.isub) 0 0 0 0 [] [] = true := by decide +kernel
theorem rf_f_L_law_24 : rf_Fb rf_m_L_law 24 27 (.if_icmp .gt 1186) 1210 0 0 0 [] [] = true := by decide +kernel
theorem rf_f_L_law_27 : rf_Fb rf_m_L_law 27 28 (.aload_n 0) 0 0 0 0 [] [] = true := by decide +kernel
theorem rf_f_L_law_28 : rf_Fb rf_m_L_law 28 29 (.iload_n 3) 0 0 0 0 [] [] = true := by decide +kernel
theorem rf_f_L_law_29 : rf_Fb rf_m_L_law 29 30 (.iaload) 0 0 0 0 [] [] = true := by decide +kernel
theorem rf_f_L_law_30 : rf_Fb rf_m_L_law 30 32 (.bipush 63) 0 0 0 0 [] [] = true := by decide +kernel
theorem rf_f_L_law_32 : rf_Fb rf_m_L_law 32 33 (.iand) 0 0 0 0 [] [] = true := by decide +kernel
theorem rf_f_L_law_33 : rf_Fb rf_m_L_law 33 204 (.tableswitch 1171 0 38 #[171, 204, 247, 280, 303, 366, 389, 422, 465, 488, 511, 544, 577, 600, 623, 646, 669, 692, 705, 728, 741, 764, 777, 800, 833, 856, 879, 892, 935, 958, 991, 1024, 1057, 1070, 1084, 1098, 1121, 1134, 1157]) 1204 0 0 0 [204, 237, 280, 313, 336, 399, 422, 455, 498, 521, 544, 577, 610, 633, 656, 679, 702, 725, 738, 761, 774, 797, 810, 833, 866, 889, 912, 925, 968, 991, 1024, 1057, 1090, 1103, 1117, 1131, 1154, 1167, 1190] [] = true := by decide +kernel
theorem rf_f_L_law_204 : rf_Fb rf_m_L_law 204 205 (.aload_n 1) 0 0 0 0 [] [] = true := by decide +kernel
theorem rf_f_L_law_205 : rf_Fb rf_m_L_law 205 206 (.aload_n 0) 0 0 0 0 [] [] = true := by decide +kernel
theorem rf_f_L_law_206 : rf_Fb rf_m_L_law 206 207 (.iload_n 3) 0 0 0 0 [] [] = true := by decide +kernel
theorem rf_f_L_law_207 : rf_Fb rf_m_L_law 207 208 (.iconst 1) 0 0 0 0 [] [] = true := by decide +kernel
theorem rf_f_L_law_208 : rf_Fb rf_m_L_law 208 209 (.iadd) 0 0 0 0 [] [] = true := by decide +kernel
theorem rf_f_L_law_209 : rf_Fb rf_m_L_law 209 210 (.iaload) 0 0 0 0 [] [] = true := by decide +kernel
theorem rf_f_L_law_210 : rf_Fb rf_m_L_law 210 211 (.aload_n 0) 0 0 0 0 [] [] = true := by decide +kernel
theorem rf_f_L_law_211 : rf_Fb rf_m_L_law 211 212 (.iload_n 3) 0 0 0 0 [] [] = true := by decide +kernel
theorem rf_f_L_law_212 : rf_Fb rf_m_L_law 212 213 (.iconst 2) 0 0 0 0 [] [] = true := by decide +kernel
theorem rf_f_L_law_213 : rf_Fb rf_m_L_law 213 214 (.iadd) 0 0 0 0 [] [] = true := by decide +kernel
theorem rf_f_L_law_214 : rf_Fb rf_m_L_law 214 215 (.iaload) 0 0 0 0 [] [] = true := by decide +kernel
theorem rf_f_L_law_215 : rf_Fb rf_m_L_law 215 218 (.invokevirtual 13) 54 2 0 4 [] [] = true := by decide +kernel
theorem rf_f_L_law_218 : rf_Fb rf_m_L_law 218 219 (.aload_n 2) 0 0 0 0 [] [] = true := by decide +kernel
theorem rf_f_L_law_219 : rf_Fb rf_m_L_law 219 220 (.aload_n 0) 0 0 0 0 [] [] = true := by decide +kernel
theorem rf_f_L_law_220 : rf_Fb rf_m_L_law 220 221 (.iload_n 3) 0 0 0 0 [] [] = true := by decide +kernel
theorem rf_f_L_law_221 : rf_Fb rf_m_L_law 221 222 (.iconst 1) 0 0 0 0 [] [] = true := by decide +kernel
theorem rf_f_L_law_222 : rf_Fb rf_m_L_law 222 223 (.iadd) 0 0 0 0 [] [] = true := by decide +kernel
theorem rf_f_L_law_223 : rf_Fb rf_m_L_law 223 224 (.iaload) 0 0 0 0 [] [] = true := by decide +kernel
theorem rf_f_L_law_224 : rf_Fb rf_m_L_law 224 225 (.aload_n 0) 0 0 0 0 [] [] = true := by decide +kernel
theorem rf_f_L_law_225 : rf_Fb rf_m_L_law 225 226 (.iload_n 3) 0 0 0 0 [] [] = true := by decide +kernel
theorem rf_f_L_law_226 : rf_Fb rf_m_L_law 226 227 (.iconst 2) 0 0 0 0 [] [] = true := by decide +kernel
theorem rf_f_L_law_227 : rf_Fb rf_m_L_law 227 228 (.iadd) 0 0 0 0 [] [] = true := by decide +kernel
theorem rf_f_L_law_228 : rf_Fb rf_m_L_law 228 229 (.iaload) 0 0 0 0 [] [] = true := by decide +kernel
theorem rf_f_L_law_229 : rf_Fb rf_m_L_law 229 232 (.invokevirtual 17) 116 2 0 5 [] [] = true := by decide +kernel
theorem rf_f_L_law_232 : rf_Fb rf_m_L_law 232 235 (.if_icmp .eq 972) 1204 0 0 0 [] [] = true := by decide +kernel
theorem rf_f_L_law_235 : rf_Fb rf_m_L_law 235 236 (.iconst 0) 0 0 0 0 [] [] = true := by decide +kernel
theorem rf_f_L_law_236 : rf_Fb rf_m_L_law 236 237 (.ireturn) 0 0 1 0 [] [] = true := by decide +kernel
theorem rf_f_L_law_237 : rf_Fb rf_m_L_law 237 238 (.aload_n 1) 0 0 0 0 [] [] = true := by decide +kernel
theorem rf_f_L_law_238 : rf_Fb rf_m_L_law 238 239 (.aload_n 0) 0 0 0 0 [] [] = true := by decide +kernel
theorem rf_f_L_law_239 : rf_Fb rf_m_L_law 239 240 (.iload_n 3) 0 0 0 0 [] [] = true := by decide +kernel
theorem rf_f_L_law_240 : rf_Fb rf_m_L_law 240 241 (.iconst 1) 0 0 0 0 [] [] = true := by decide +kernel
theorem rf_f_L_law_241 : rf_Fb rf_m_L_law 241 242 (.iadd) 0 0 0 0 [] [] = true := by decide +kernel
theorem rf_f_L_law_242 : rf_Fb rf_m_L_law 242 243 (.iaload) 0 0 0 0 [] [] = true := by decide +kernel
theorem rf_f_L_law_243 : rf_Fb rf_m_L_law 243 244 (.aload_n 0) 0 0 0 0 [] [] = true := by decide +kernel
theorem rf_f_L_law_244 : rf_Fb rf_m_L_law 244 245 (.iload_n 3) 0 0 0 0 [] [] = true := by decide +kernel
theorem rf_f_L_law_245 : rf_Fb rf_m_L_law 245 246 (.iconst 2) 0 0 0 0 [] [] = true := by decide +kernel
theorem rf_f_L_law_246 : rf_Fb rf_m_L_law 246 247 (.iadd) 0 0 0 0 [] [] = true := by decide +kernel
theorem rf_f_L_law_247 : rf_Fb rf_m_L_law 247 248 (.iaload) 0 0 0 0 [] [] = true := by decide +kernel
theorem rf_f_L_law_248 : rf_Fb rf_m_L_law 248 249 (.aload_n 0) 0 0 0 0 [] [] = true := by decide +kernel
theorem rf_f_L_law_249 : rf_Fb rf_m_L_law 249 250 (.iload_n 3) 0 0 0 0 [] [] = true := by decide +kernel
theorem rf_f_L_law_250 : rf_Fb rf_m_L_law 250 251 (.iconst 3) 0 0 0 0 [] [] = true := by decide +kernel
theorem rf_f_L_law_251 : rf_Fb rf_m_L_law 251 252 (.iadd) 0 0 0 0 [] [] = true := by decide +kernel
theorem rf_f_L_law_252 : rf_Fb rf_m_L_law 252 253 (.iaload) 0 0 0 0 [] [] = true := by decide +kernel
theorem rf_f_L_law_253 : rf_Fb rf_m_L_law 253 256 (.invokevirtual 18) 58 3 0 4 [] [] = true := by decide +kernel
theorem rf_f_L_law_256 : rf_Fb rf_m_L_law 256 257 (.aload_n 2) 0 0 0 0 [] [] = true := by decide +kernel
theorem rf_f_L_law_257 : rf_Fb rf_m_L_law 257 258 (.aload_n 0) 0 0 0 0 [] [] = true := by decide +kernel
theorem rf_f_L_law_258 : rf_Fb rf_m_L_law 258 259 (.iload_n 3) 0 0 0 0 [] [] = true := by decide +kernel
theorem rf_f_L_law_259 : rf_Fb rf_m_L_law 259 260 (.iconst 1) 0 0 0 0 [] [] = true := by decide +kernel
theorem rf_f_L_law_260 : rf_Fb rf_m_L_law 260 261 (.iadd) 0 0 0 0 [] [] = true := by decide +kernel
theorem rf_f_L_law_261 : rf_Fb rf_m_L_law 261 262 (.iaload) 0 0 0 0 [] [] = true := by decide +kernel
theorem rf_f_L_law_262 : rf_Fb rf_m_L_law 262 263 (.aload_n 0) 0 0 0 0 [] [] = true := by decide +kernel
theorem rf_f_L_law_263 : rf_Fb rf_m_L_law 263 264 (.iload_n 3) 0 0 0 0 [] [] = true := by decide +kernel
theorem rf_f_L_law_264 : rf_Fb rf_m_L_law 264 265 (.iconst 2) 0 0 0 0 [] [] = true := by decide +kernel
theorem rf_f_L_law_265 : rf_Fb rf_m_L_law 265 266 (.iadd) 0 0 0 0 [] [] = true := by decide +kernel
theorem rf_f_L_law_266 : rf_Fb rf_m_L_law 266 267 (.iaload) 0 0 0 0 [] [] = true := by decide +kernel
theorem rf_f_L_law_267 : rf_Fb rf_m_L_law 267 268 (.aload_n 0) 0 0 0 0 [] [] = true := by decide +kernel
theorem rf_f_L_law_268 : rf_Fb rf_m_L_law 268 269 (.iload_n 3) 0 0 0 0 [] [] = true := by decide +kernel
theorem rf_f_L_law_269 : rf_Fb rf_m_L_law 269 270 (.iconst 3) 0 0 0 0 [] [] = true := by decide +kernel
theorem rf_f_L_law_270 : rf_Fb rf_m_L_law 270 271 (.iadd) 0 0 0 0 [] [] = true := by decide +kernel
theorem rf_f_L_law_271 : rf_Fb rf_m_L_law 271 272 (.iaload) 0 0 0 0 [] [] = true := by decide +kernel
theorem rf_f_L_law_272 : rf_Fb rf_m_L_law 272 275 (.invokevirtual 22) 120 3 0 5 [] [] = true := by decide +kernel
theorem rf_f_L_law_275 : rf_Fb rf_m_L_law 275 278 (.if_icmp .eq 929) 1204 0 0 0 [] [] = true := by decide +kernel
theorem rf_f_L_law_278 : rf_Fb rf_m_L_law 278 279 (.iconst 0) 0 0 0 0 [] [] = true := by decide +kernel
theorem rf_f_L_law_279 : rf_Fb rf_m_L_law 279 280 (.ireturn) 0 0 1 0 [] [] = true := by decide +kernel
theorem rf_f_L_law_280 : rf_Fb rf_m_L_law 280 281 (.aload_n 1) 0 0 0 0 [] [] = true := by decide +kernel
theorem rf_f_L_law_281 : rf_Fb rf_m_L_law 281 282 (.aload_n 0) 0 0 0 0 [] [] = true := by decide +kernel
theorem rf_f_L_law_282 : rf_Fb rf_m_L_law 282 283 (.iload_n 3) 0 0 0 0 [] [] = true := by decide +kernel
theorem rf_f_L_law_283 : rf_Fb rf_m_L_law 283 284 (.iconst 1) 0 0 0 0 [] [] = true := by decide +kernel
theorem rf_f_L_law_284 : rf_Fb rf_m_L_law 284 285 (.iadd) 0 0 0 0 [] [] = true := by decide +kernel
theorem rf_f_L_law_285 : rf_Fb rf_m_L_law 285 286 (.iaload) 0 0 0 0 [] [] = true := by decide +kernel
theorem rf_f_L_law_286 : rf_Fb rf_m_L_law 286 287 (.aload_n 0) 0 0 0 0 [] [] = true := by decide +kernel
theorem rf_f_L_law_287 : rf_Fb rf_m_L_law 287 288 (.iload_n 3) 0 0 0 0 [] [] = true := by decide +kernel
theorem rf_f_L_law_288 : rf_Fb rf_m_L_law 288 289 (.iconst 2) 0 0 0 0 [] [] = true := by decide +kernel
theorem rf_f_L_law_289 : rf_Fb rf_m_L_law 289 290 (.iadd) 0 0 0 0 [] [] = true := by decide +kernel
theorem rf_f_L_law_290 : rf_Fb rf_m_L_law 290 291 (.iaload) 0 0 0 0 [] [] = true := by decide +kernel
theorem rf_f_L_law_291 : rf_Fb rf_m_L_law 291 294 (.invokevirtual 23) 61 2 0 4 [] [] = true := by decide +kernel
theorem rf_f_L_law_294 : rf_Fb rf_m_L_law 294 295 (.aload_n 2) 0 0 0 0 [] [] = true := by decide +kernel
theorem rf_f_L_law_295 : rf_Fb rf_m_L_law 295 296 (.aload_n 0) 0 0 0 0 [] [] = true := by decide +kernel
theorem rf_f_L_law_296 : rf_Fb rf_m_L_law 296 297 (.iload_n 3) 0 0 0 0 [] [] = true := by decide +kernel
theorem rf_f_L_law_297 : rf_Fb rf_m_L_law 297 298 (.iconst 1) 0 0 0 0 [] [] = true := by decide +kernel
theorem rf_f_L_law_298 : rf_Fb rf_m_L_law 298 299 (.iadd) 0 0 0 0 [] [] = true := by decide +kernel
theorem rf_f_L_law_299 : rf_Fb rf_m_L_law 299 300 (.iaload) 0 0 0 0 [] [] = true := by decide +kernel
theorem rf_f_L_law_300 : rf_Fb rf_m_L_law 300 301 (.aload_n 0) 0 0 0 0 [] [] = true := by decide +kernel
theorem rf_f_L_law_301 : rf_Fb rf_m_L_law 301 302 (.iload_n 3) 0 0 0 0 [] [] = true := by decide +kernel
theorem rf_f_L_law_302 : rf_Fb rf_m_L_law 302 303 (.iconst 2) 0 0 0 0 [] [] = true := by decide +kernel
theorem rf_f_L_law_303 : rf_Fb rf_m_L_law 303 304 (.iadd) 0 0 0 0 [] [] = true := by decide +kernel
theorem rf_f_L_law_304 : rf_Fb rf_m_L_law 304 305 (.iaload) 0 0 0 0 [] [] = true := by decide +kernel
theorem rf_f_L_law_305 : rf_Fb rf_m_L_law 305 308 (.invokevirtual 26) 122 2 0 5 [] [] = true := by decide +kernel
theorem rf_f_L_law_308 : rf_Fb rf_m_L_law 308 311 (.if_icmp .eq 896) 1204 0 0 0 [] [] = true := by decide +kernel
theorem rf_f_L_law_311 : rf_Fb rf_m_L_law 311 312 (.iconst 0) 0 0 0 0 [] [] = true := by decide +kernel
theorem rf_f_L_law_312 : rf_Fb rf_m_L_law 312 313 (.ireturn) 0 0 1 0 [] [] = true := by decide +kernel
theorem rf_f_L_law_313 : rf_Fb rf_m_L_law 313 314 (.aload_n 1) 0 0 0 0 [] [] = true := by decide +kernel
theorem rf_f_L_law_314 : rf_Fb rf_m_L_law 314 315 (.aload_n 0) 0 0 0 0 [] [] = true := by decide +kernel
theorem rf_f_L_law_315 : rf_Fb rf_m_L_law 315 316 (.iload_n 3) 0 0 0 0 [] [] = true := by decide +kernel
theorem rf_f_L_law_316 : rf_Fb rf_m_L_law 316 317 (.iconst 1) 0 0 0 0 [] [] = true := by decide +kernel
theorem rf_f_L_law_317 : rf_Fb rf_m_L_law 317 318 (.iadd) 0 0 0 0 [] [] = true := by decide +kernel
theorem rf_f_L_law_318 : rf_Fb rf_m_L_law 318 319 (.iaload) 0 0 0 0 [] [] = true := by decide +kernel
theorem rf_f_L_law_319 : rf_Fb rf_m_L_law 319 322 (.invokevirtual 27) 62 1 0 4 [] [] = true := by decide +kernel
theorem rf_f_L_law_322 : rf_Fb rf_m_L_law 322 323 (.aload_n 2) 0 0 0 0 [] [] = true := by decide +kernel
theorem rf_f_L_law_323 : rf_Fb rf_m_L_law 323 324 (.aload_n 0) 0 0 0 0 [] [] = true := by decide +kernel
theorem rf_f_L_law_324 : rf_Fb rf_m_L_law 324 325 (.iload_n 3) 0 0 0 0 [] [] = true := by decide +kernel
theorem rf_f_L_law_325 : rf_Fb rf_m_L_law 325 326 (.iconst 1) 0 0 0 0 [] [] = true := by decide +kernel
theorem rf_f_L_law_326 : rf_Fb rf_m_L_law 326 327 (.iadd) 0 0 0 0 [] [] = true := by decide +kernel
theorem rf_f_L_law_327 : rf_Fb rf_m_L_law 327 328 (.iaload) 0 0 0 0 [] [] = true := by decide +kernel
theorem rf_f_L_law_328 : rf_Fb rf_m_L_law 328 331 (.invokevirtual 31) 123 1 0 5 [] [] = true := by decide +kernel
theorem rf_f_L_law_331 : rf_Fb rf_m_L_law 331 334 (.if_icmp .eq 873) 1204 0 0 0 [] [] = true := by decide +kernel
theorem rf_f_L_law_334 : rf_Fb rf_m_L_law 334 335 (.iconst 0) 0 0 0 0 [] [] = true := by decide +kernel
theorem rf_f_L_law_335 : rf_Fb rf_m_L_law 335 336 (.ireturn) 0 0 1 0 [] [] = true := by decide +kernel
theorem rf_f_L_law_336 : rf_Fb rf_m_L_law 336 337 (.aload_n 1) 0 0 0 0 [] [] = true := by decide +kernel
theorem rf_f_L_law_337 : rf_Fb rf_m_L_law 337 338 (.aload_n 0) 0 0 0 0 [] [] = true := by decide +kernel
theorem rf_f_L_law_338 : rf_Fb rf_m_L_law 338 339 (.iload_n 3) 0 0 0 0 [] [] = true := by decide +kernel
theorem rf_f_L_law_339 : rf_Fb rf_m_L_law 339 340 (.iconst 1) 0 0 0 0 [] [] = true := by decide +kernel
theorem rf_f_L_law_340 : rf_Fb rf_m_L_law 340 341 (.iadd) 0 0 0 0 [] [] = true := by decide +kernel
theorem rf_f_L_law_341 : rf_Fb rf_m_L_law 341 342 (.iaload) 0 0 0 0 [] [] = true := by decide +kernel
theorem rf_f_L_law_342 : rf_Fb rf_m_L_law 342 343 (.aload_n 0) 0 0 0 0 [] [] = true := by decide +kernel
theorem rf_f_L_law_343 : rf_Fb rf_m_L_law 343 344 (.iload_n 3) 0 0 0 0 [] [] = true := by decide +kernel
theorem rf_f_L_law_344 : rf_Fb rf_m_L_law 344 345 (.iconst 2) 0 0 0 0 [] [] = true := by decide +kernel
theorem rf_f_L_law_345 : rf_Fb rf_m_L_law 345 346 (.iadd) 0 0 0 0 [] [] = true := by decide +kernel
theorem rf_f_L_law_346 : rf_Fb rf_m_L_law 346 347 (.iaload) 0 0 0 0 [] [] = true := by decide +kernel
theorem rf_f_L_law_347 : rf_Fb rf_m_L_law 347 348 (.aload_n 0) 0 0 0 0 [] [] = true := by decide +kernel
theorem rf_f_L_law_348 : rf_Fb rf_m_L_law 348 349 (.iload_n 3) 0 0 0 0 [] [] = true := by decide +kernel
theorem rf_f_L_law_349 : rf_Fb rf_m_L_law 349 350 (.iconst 3) 0 0 0 0 [] [] = true := by decide +kernel
theorem rf_f_L_law_350 : rf_Fb rf_m_L_law 350 351 (.iadd) 0 0 0 0 [] [] = true := by decide +kernel
theorem rf_f_L_law_351 : rf_Fb rf_m_L_law 351 352 (.iaload) 0 0 0 0 [] [] = true := by decide +kernel
theorem rf_f_L_law_352 : rf_Fb rf_m_L_law 352 353 (.aload_n 0) 0 0 0 0 [] [] = true := by decide +kernel
theorem rf_f_L_law_353 : rf_Fb rf_m_L_law 353 354 (.iload_n 3) 0 0 0 0 [] [] = true := by decide +kernel
theorem rf_f_L_law_354 : rf_Fb rf_m_L_law 354 355 (.iconst 4) 0 0 0 0 [] [] = true := by decide +kernel
theorem rf_f_L_law_355 : rf_Fb rf_m_L_law 355 356 (.iadd) 0 0 0 0 [] [] = true := by decide +kernel
theorem rf_f_L_law_356 : rf_Fb rf_m_L_law 356 357 (.iaload) 0 0 0 0 [] [] = true := by decide +kernel
theorem rf_f_L_law_357 : rf_Fb rf_m_L_law 357 358 (.aload_n 0) 0 0 0 0 [] [] = true := by decide +kernel
theorem rf_f_L_law_358 : rf_Fb rf_m_L_law 358 359 (.iload_n 3) 0 0 0 0 [] [] = true := by decide +kernel
theorem rf_f_L_law_359 : rf_Fb rf_m_L_law 359 360 (.iconst 5) 0 0 0 0 [] [] = true := by decide +kernel
theorem rf_f_L_law_360 : rf_Fb rf_m_L_law 360 361 (.iadd) 0 0 0 0 [] [] = true := by decide +kernel
theorem rf_f_L_law_361 : rf_Fb rf_m_L_law 361 362 (.iaload) 0 0 0 0 [] [] = true := by decide +kernel
theorem rf_f_L_law_362 : rf_Fb rf_m_L_law 362 365 (.invokevirtual 32) 63 5 0 4 [] [] = true := by decide +kernel
theorem rf_f_L_law_365 : rf_Fb rf_m_L_law 365 366 (.aload_n 2) 0 0 0 0 [] [] = true := by decide +kernel
theorem rf_f_L_law_366 : rf_Fb rf_m_L_law 366 367 (.aload_n 0) 0 0 0 0 [] [] = true := by decide +kernel
theorem rf_f_L_law_367 : rf_Fb rf_m_L_law 367 368 (.iload_n 3) 0 0 0 0 [] [] = true := by decide +kernel
theorem rf_f_L_law_368 : rf_Fb rf_m_L_law 368 369 (.iconst 1) 0 0 0 0 [] [] = true := by decide +kernel
theorem rf_f_L_law_369 : rf_Fb rf_m_L_law 369 370 (.iadd) 0 0 0 0 [] [] = true := by decide +kernel
theorem rf_f_L_law_370 : rf_Fb rf_m_L_law 370 371 (.iaload) 0 0 0 0 [] [] = true := by decide +kernel
theorem rf_f_L_law_371 : rf_Fb rf_m_L_law 371 372 (.aload_n 0) 0 0 0 0 [] [] = true := by decide +kernel
theorem rf_f_L_law_372 : rf_Fb rf_m_L_law 372 373 (.iload_n 3) 0 0 0 0 [] [] = true := by decide +kernel
theorem rf_f_L_law_373 : rf_Fb rf_m_L_law 373 374 (.iconst 2) 0 0 0 0 [] [] = true := by decide +kernel
theorem rf_f_L_law_374 : rf_Fb rf_m_L_law 374 375 (.iadd) 0 0 0 0 [] [] = true := by decide +kernel
theorem rf_f_L_law_375 : rf_Fb rf_m_L_law 375 376 (.iaload) 0 0 0 0 [] [] = true := by decide +kernel
theorem rf_f_L_law_376 : rf_Fb rf_m_L_law 376 377 (.aload_n 0) 0 0 0 0 [] [] = true := by decide +kernel
theorem rf_f_L_law_377 : rf_Fb rf_m_L_law 377 378 (.iload_n 3) 0 0 0 0 [] [] = true := by decide +kernel
theorem rf_f_L_law_378 : rf_Fb rf_m_L_law 378 379 (.iconst 3) 0 0 0 0 [] [] = true := by decide +kernel
theorem rf_f_L_law_379 : rf_Fb rf_m_L_law 379 380 (.iadd) 0 0 0 0 [] [] = true := by decide +kernel
theorem rf_f_L_law_380 : rf_Fb rf_m_L_law 380 381 (.iaload) 0 0 0 0 [] [] = true := by decide +kernel
theorem rf_f_L_law_381 : rf_Fb rf_m_L_law 381 382 (.aload_n 0) 0 0 0 0 [] [] = true := by decide +kernel
theorem rf_f_L_law_382 : rf_Fb rf_m_L_law 382 383 (.iload_n 3) 0 0 0 0 [] [] = true := by decide +kernel
theorem rf_f_L_law_383 : rf_Fb rf_m_L_law 383 384 (.iconst 4) 0 0 0 0 [] [] = true := by decide +kernel
theorem rf_f_L_law_384 : rf_Fb rf_m_L_law 384 385 (.iadd) 0 0 0 0 [] [] = true := by decide +kernel
theorem rf_f_L_law_385 : rf_Fb rf_m_L_law 385 386 (.iaload) 0 0 0 0 [] [] = true := by decide +kernel
theorem rf_f_L_law_386 : rf_Fb rf_m_L_law 386 387 (.aload_n 0) 0 0 0 0 [] [] = true := by decide +kernel
theorem rf_f_L_law_387 : rf_Fb rf_m_L_law 387 388 (.iload_n 3) 0 0 0 0 [] [] = true := by decide +kernel
theorem rf_f_L_law_388 : rf_Fb rf_m_L_law 388 389 (.iconst 5) 0 0 0 0 [] [] = true := by decide +kernel
theorem rf_f_L_law_389 : rf_Fb rf_m_L_law 389 390 (.iadd) 0 0 0 0 [] [] = true := by decide +kernel
theorem rf_f_L_law_390 : rf_Fb rf_m_L_law 390 391 (.iaload) 0 0 0 0 [] [] = true := by decide +kernel
theorem rf_f_L_law_391 : rf_Fb rf_m_L_law 391 394 (.invokevirtual 36) 124 5 0 5 [] [] = true := by decide +kernel
theorem rf_f_L_law_394 : rf_Fb rf_m_L_law 394 397 (.if_icmp .eq 810) 1204 0 0 0 [] [] = true := by decide +kernel
theorem rf_f_L_law_397 : rf_Fb rf_m_L_law 397 398 (.iconst 0) 0 0 0 0 [] [] = true := by decide +kernel
theorem rf_f_L_law_398 : rf_Fb rf_m_L_law 398 399 (.ireturn) 0 0 1 0 [] [] = true := by decide +kernel
theorem rf_f_L_law_399 : rf_Fb rf_m_L_law 399 400 (.aload_n 1) 0 0 0 0 [] [] = true := by decide +kernel
theorem rf_f_L_law_400 : rf_Fb rf_m_L_law 400 401 (.aload_n 0) 0 0 0 0 [] [] = true := by decide +kernel
theorem rf_f_L_law_401 : rf_Fb rf_m_L_law 401 402 (.iload_n 3) 0 0 0 0 [] [] = true := by decide +kernel
theorem rf_f_L_law_402 : rf_Fb rf_m_L_law 402 403 (.iconst 1) 0 0 0 0 [] [] = true := by decide +kernel
theorem rf_f_L_law_403 : rf_Fb rf_m_L_law 403 404 (.iadd) 0 0 0 0 [] [] = true := by decide +kernel
theorem rf_f_L_law_404 : rf_Fb rf_m_L_law 404 405 (.iaload) 0 0 0 0 [] [] = true := by decide +kernel
theorem rf_f_L_law_405 : rf_Fb rf_m_L_law 405 408 (.invokevirtual 37) 64 1 0 4 [] [] = true := by decide +kernel
theorem rf_f_L_law_408 : rf_Fb rf_m_L_law 408 409 (.aload_n 2) 0 0 0 0 [] [] = true := by decide +kernel
theorem rf_f_L_law_409 : rf_Fb rf_m_L_law 409 410 (.aload_n 0) 0 0 0 0 [] [] = true := by decide +kernel
theorem rf_f_L_law_410 : rf_Fb rf_m_L_law 410 411 (.iload_n 3) 0 0 0 0 [] [] = true := by decide +kernel
theorem rf_f_L_law_411 : rf_Fb rf_m_L_law 411 412 (.iconst 1) 0 0 0 0 [] [] = true := by decide +kernel
theorem rf_f_L_law_412 : rf_Fb rf_m_L_law 412 413 (.iadd) 0 0 0 0 [] [] = true := by decide +kernel
theorem rf_f_L_law_413 : rf_Fb rf_m_L_law 413 414 (.iaload) 0 0 0 0 [] [] = true := by decide +kernel
theorem rf_f_L_law_414 : rf_Fb rf_m_L_law 414 417 (.invokevirtual 40) 125 1 0 5 [] [] = true := by decide +kernel
theorem rf_f_L_law_417 : rf_Fb rf_m_L_law 417 420 (.if_icmp .eq 787) 1204 0 0 0 [] [] = true := by decide +kernel
theorem rf_f_L_law_420 : rf_Fb rf_m_L_law 420 421 (.iconst 0) 0 0 0 0 [] [] = true := by decide +kernel
theorem rf_f_L_law_421 : rf_Fb rf_m_L_law 421 422 (.ireturn) 0 0 1 0 [] [] = true := by decide +kernel
theorem rf_f_L_law_422 : rf_Fb rf_m_L_law 422 423 (.aload_n 1) 0 0 0 0 [] [] = true := by decide +kernel
theorem rf_f_L_law_423 : rf_Fb rf_m_L_law 423 424 (.aload_n 0) 0 0 0 0 [] [] = true := by decide +kernel
theorem rf_f_L_law_424 : rf_Fb rf_m_L_law 424 425 (.iload_n 3) 0 0 0 0 [] [] = true := by decide +kernel
theorem rf_f_L_law_425 : rf_Fb rf_m_L_law 425 426 (.iconst 1) 0 0 0 0 [] [] = true := by decide +kernel
theorem rf_f_L_law_426 : rf_Fb rf_m_L_law 426 427 (.iadd) 0 0 0 0 [] [] = true := by decide +kernel
theorem rf_f_L_law_427 : rf_Fb rf_m_L_law 427 428 (.iaload) 0 0 0 0 [] [] = true := by decide +kernel
theorem rf_f_L_law_428 : rf_Fb rf_m_L_law 428 429 (.aload_n 0) 0 0 0 0 [] [] = true := by decide +kernel
theorem rf_f_L_law_429 : rf_Fb rf_m_L_law 429 430 (.iload_n 3) 0 0 0 0 [] [] = true := by decide +kernel
theorem rf_f_L_law_430 : rf_Fb rf_m_L_law 430 431 (.iconst 2) 0 0 0 0 [] [] = true := by decide +kernel
theorem rf_f_L_law_431 : rf_Fb rf_m_L_law 431 432 (.iadd) 0 0 0 0 [] [] = true := by decide +kernel
theorem rf_f_L_law_432 : rf_Fb rf_m_L_law 432 433 (.iaload) 0 0 0 0 [] [] = true := by decide +kernel
theorem rf_f_L_law_433 : rf_Fb rf_m_L_law 433 436 (.invokevirtual 41) 65 2 0 4 [] [] = true := by decide +kernel
theorem rf_f_L_law_436 : rf_Fb rf_m_L_law 436 437 (.aload_n 2) 0 0 0 0 [] [] = true := by decide +kernel
theorem rf_f_L_law_437 : rf_Fb rf_m_L_law 437 438 (.aload_n 0) 0 0 0 0 [] [] = true := by decide +kernel
theorem rf_f_L_law_438 : rf_Fb rf_m_L_law 438 439 (.iload_n 3) 0 0 0 0 [] [] = true := by decide +kernel
theorem rf_f_L_law_439 : rf_Fb rf_m_L_law 439 440 (.iconst 1) 0 0 0 0 [] [] = true := by decide +kernel
theorem rf_f_L_law_440 : rf_Fb rf_m_L_law 440 441 (.iadd) 0 0 0 0 [] [] = true := by decide +kernel
theorem rf_f_L_law_441 : rf_Fb rf_m_L_law 441 442 (.iaload) 0 0 0 0 [] [] = true := by decide +kernel
theorem rf_f_L_law_442 : rf_Fb rf_m_L_law 442 443 (.aload_n 0) 0 0 0 0 [] [] = true := by decide +kernel
theorem rf_f_L_law_443 : rf_Fb rf_m_L_law 443 444 (.iload_n 3) 0 0 0 0 [] [] = true := by decide +kernel
theorem rf_f_L_law_444 : rf_Fb rf_m_L_law 444 445 (.iconst 2) 0 0 0 0 [] [] = true := by decide +kernel
theorem rf_f_L_law_445 : rf_Fb rf_m_L_law 445 446 (.iadd) 0 0 0 0 [] [] = true := by decide +kernel
theorem rf_f_L_law_446 : rf_Fb rf_m_L_law 446 447 (.iaload) 0 0 0 0 [] [] = true := by decide +kernel
theorem rf_f_L_law_447 : rf_Fb rf_m_L_law 447 450 (.invokevirtual 44) 126 2 0 5 [] [] = true := by decide +kernel
theorem rf_f_L_law_450 : rf_Fb rf_m_L_law 450 453 (.if_icmp .eq 754) 1204 0 0 0 [] [] = true := by decide +kernel
theorem rf_f_L_law_453 : rf_Fb rf_m_L_law 453 454 (.iconst 0) 0 0 0 0 [] [] = true := by decide +kernel
theorem rf_f_L_law_454 : rf_Fb rf_m_L_law 454 455 (.ireturn) 0 0 1 0 [] [] = true := by decide +kernel
theorem rf_f_L_law_455 : rf_Fb rf_m_L_law 455 456 (.aload_n 1) 0 0 0 0 [] [] = true := by decide +kernel
theorem rf_f_L_law_456 : rf_Fb rf_m_L_law 456 457 (.aload_n 0) 0 0 0 0 [] [] = true := by decide +kernel
theorem rf_f_L_law_457 : rf_Fb rf_m_L_law 457 458 (.iload_n 3) 0 0 0 0 [] [] = true := by decide +kernel
theorem rf_f_L_law_458 : rf_Fb rf_m_L_law 458 459 (.iconst 1) 0 0 0 0 [] [] = true := by decide +kernel
theorem rf_f_L_law_459 : rf_Fb rf_m_L_law 459 460 (.iadd) 0 0 0 0 [] [] = true := by decide +kernel
theorem rf_f_L_law_460 : rf_Fb rf_m_L_law 460 461 (.iaload) 0 0 0 0 [] [] = true := by decide +kernel
theorem rf_f_L_law_461 : rf_Fb rf_m_L_law 461 462 (.aload_n 0) 0 0 0 0 [] [] = true := by decide +kernel
theorem rf_f_L_law_462 : rf_Fb rf_m_L_law 462 463 (.iload_n 3) 0 0 0 0 [] [] = true := by decide +kernel
theorem rf_f_L_law_463 : rf_Fb rf_m_L_law 463 464 (.iconst 2) 0 0 0 0 [] [] = true := by decide +kernel
theorem rf_f_L_law_464 : rf_Fb rf_m_L_law 464 465 (.iadd) 0 0 0 0 [] [] = true := by decide +kernel
theorem rf_f_L_law_465 : rf_Fb rf_m_L_law 465 466 (.iaload) 0 0 0 0 [] [] = true := by decide +kernel
theorem rf_f_L_law_466 : rf_Fb rf_m_L_law 466 467 (.aload_n 0) 0 0 0 0 [] [] = true := by decide +kernel
theorem rf_f_L_law_467 : rf_Fb rf_m_L_law 467 468 (.iload_n 3) 0 0 0 0 [] [] = true := by decide +kernel
theorem rf_f_L_law_468 : rf_Fb rf_m_L_law 468 469 (.iconst 3) 0 0 0 0 [] [] = true := by decide +kernel
theorem rf_f_L_law_469 : rf_Fb rf_m_L_law 469 470 (.iadd) 0 0 0 0 [] [] = true := by decide +kernel
theorem rf_f_L_law_470 : rf_Fb rf_m_L_law 470 471 (.iaload) 0 0 0 0 [] [] = true := by decide +kernel
theorem rf_f_L_law_471 : rf_Fb rf_m_L_law 471 474 (.invokevirtual 45) 66 3 0 4 [] [] = true := by decide +kernel
theorem rf_f_L_law_474 : rf_Fb rf_m_L_law 474 475 (.aload_n 2) 0 0 0 0 [] [] = true := by decide +kernel
theorem rf_f_L_law_475 : rf_Fb rf_m_L_law 475 476 (.aload_n 0) 0 0 0 0 [] [] = true := by decide +kernel
theorem rf_f_L_law_476 : rf_Fb rf_m_L_law 476 477 (.iload_n 3) 0 0 0 0 [] [] = true := by decide +kernel
theorem rf_f_L_law_477 : rf_Fb rf_m_L_law 477 478 (.iconst 1) 0 0 0 0 [] [] = true := by decide +kernel
theorem rf_f_L_law_478 : rf_Fb rf_m_L_law 478 479 (.iadd) 0 0 0 0 [] [] = true := by decide +kernel
theorem rf_f_L_law_479 : rf_Fb rf_m_L_law 479 480 (.iaload) 0 0 0 0 [] [] = true := by decide +kernel
theorem rf_f_L_law_480 : rf_Fb rf_m_L_law 480 481 (.aload_n 0) 0 0 0 0 [] [] = true := by decide +kernel
theorem rf_f_L_law_481 : rf_Fb rf_m_L_law 481 482 (.iload_n 3) 0 0 0 0 [] [] = true := by decide +kernel
theorem rf_f_L_law_482 : rf_Fb rf_m_L_law 482 483 (.iconst 2) 0 0 0 0 [] [] = true := by decide +kernel
theorem rf_f_L_law_483 : rf_Fb rf_m_L_law 483 484 (.iadd) 0 0 0 0 [] [] = true := by decide +kernel
theorem rf_f_L_law_484 : rf_Fb rf_m_L_law 484 485 (.iaload) 0 0 0 0 [] [] = true := by decide +kernel
theorem rf_f_L_law_485 : rf_Fb rf_m_L_law 485 486 (.aload_n 0) 0 0 0 0 [] [] = true := by decide +kernel
theorem rf_f_L_law_486 : rf_Fb rf_m_L_law 486 487 (.iload_n 3) 0 0 0 0 [] [] = true := by decide +kernel
theorem rf_f_L_law_487 : rf_Fb rf_m_L_law 487 488 (.iconst 3) 0 0 0 0 [] [] = true := by decide +kernel
theorem rf_f_L_law_488 : rf_Fb rf_m_L_law 488 489 (.iadd) 0 0 0 0 [] [] = true := by decide +kernel
theorem rf_f_L_law_489 : rf_Fb rf_m_L_law 489 490 (.iaload) 0 0 0 0 [] [] = true := by decide +kernel
theorem rf_f_L_law_490 : rf_Fb rf_m_L_law 490 493 (.invokevirtual 48) 128 3 0 5 [] [] = true := by decide +kernel
theorem rf_f_L_law_493 : rf_Fb rf_m_L_law 493 496 (.if_icmp .eq 711) 1204 0 0 0 [] [] = true := by decide +kernel
theorem rf_f_L_law_496 : rf_Fb rf_m_L_law 496 497 (.iconst 0) 0 0 0 0 [] [] = true := by decide +kernel
theorem rf_f_L_law_497 : rf_Fb rf_m_L_law 497 498 (.ireturn) 0 0 1 0 [] [] = true := by decide +kernel
theorem rf_f_L_law_498 : rf_Fb rf_m_L_law 498 499 (.aload_n 1) 0 0 0 0 [] [] = true := by decide +kernel
theorem rf_f_L_law_499 : rf_Fb rf_m_L_law 499 500 (.aload_n 0) 0 0 0 0 [] [] = true := by decide +kernel
theorem rf_f_L_law_500 : rf_Fb rf_m_L_law 500 501 (.iload_n 3) 0 0 0 0 [] [] = true := by decide +kernel
theorem rf_f_L_law_501 : rf_Fb rf_m_L_law 501 502 (.iconst 1) 0 0 0 0 [] [] = true := by decide +kernel
theorem rf_f_L_law_502 : rf_Fb rf_m_L_law 502 503 (.iadd) 0 0 0 0 [] [] = true := by decide +kernel
theorem rf_f_L_law_503 : rf_Fb rf_m_L_law 503 504 (.iaload) 0 0 0 0 [] [] = true := by decide +kernel
theorem rf_f_L_law_504 : rf_Fb rf_m_L_law 504 507 (.invokevirtual 49) 67 1 0 4 [] [] = true := by decide +kernel
theorem rf_f_L_law_507 : rf_Fb rf_m_L_law 507 508 (.aload_n 2) 0 0 0 0 [] [] = true := by decide +kernel
theorem rf_f_L_law_508 : rf_Fb rf_m_L_law 508 509 (.aload_n 0) 0 0 0 0 [] [] = true := by decide +kernel
theorem rf_f_L_law_509 : rf_Fb rf_m_L_law 509 510 (.iload_n 3) 0 0 0 0 [] [] = true := by decide +kernel
theorem rf_f_L_law_510 : rf_Fb rf_m_L_law 510 511 (.iconst 1) 0 0 0 0 [] [] = true := by decide +kernel
theorem rf_f_L_law_511 : rf_Fb rf_m_L_law 511 512 (.iadd) 0 0 0 0 [] [] = true := by decide +kernel
theorem rf_f_L_law_512 : rf_Fb rf_m_L_law 512 513 (.iaload) 0 0 0 0 [] [] = true := by decide +kernel
theorem rf_f_L_law_513 : rf_Fb rf_m_L_law 513 516 (.invokevirtual 52) 129 1 0 5 [] [] = true := by decide +kernel
theorem rf_f_L_law_516 : rf_Fb rf_m_L_law 516 519 (.if_icmp .eq 688) 1204 0 0 0 [] [] = true := by decide +kernel
theorem rf_f_L_law_519 : rf_Fb rf_m_L_law 519 520 (.iconst 0) 0 0 0 0 [] [] = true := by decide +kernel
theorem rf_f_L_law_520 : rf_Fb rf_m_L_law 520 521 (.ireturn) 0 0 1 0 [] [] = true := by decide +kernel
theorem rf_f_L_law_521 : rf_Fb rf_m_L_law 521 522 (.aload_n 1) 0 0 0 0 [] [] = true := by decide +kernel
theorem rf_f_L_law_522 : rf_Fb rf_m_L_law 522 523 (.aload_n 0) 0 0 0 0 [] [] = true := by decide +kernel
theorem rf_f_L_law_523 : rf_Fb rf_m_L_law 523 524 (.iload_n 3) 0 0 0 0 [] [] = true := by decide +kernel
theorem rf_f_L_law_524 : rf_Fb rf_m_L_law 524 525 (.iconst 1) 0 0 0 0 [] [] = true := by decide +kernel
theorem rf_f_L_law_525 : rf_Fb rf_m_L_law 525 526 (.iadd) 0 0 0 0 [] [] = true := by decide +kernel
theorem rf_f_L_law_526 : rf_Fb rf_m_L_law 526 527 (.iaload) 0 0 0 0 [] [] = true := by decide +kernel
theorem rf_f_L_law_527 : rf_Fb rf_m_L_law 527 530 (.invokevirtual 53) 68 1 0 4 [] [] = true := by decide +kernel
theorem rf_f_L_law_530 : rf_Fb rf_m_L_law 530 531 (.aload_n 2) 0 0 0 0 [] [] = true := by decide +kernel
theorem rf_f_L_law_531 : rf_Fb rf_m_L_law 531 532 (.aload_n 0) 0 0 0 0 [] [] = true := by decide +kernel
theorem rf_f_L_law_532 : rf_Fb rf_m_L_law 532 533 (.iload_n 3) 0 0 0 0 [] [] = true := by decide +kernel
theorem rf_f_L_law_533 : rf_Fb rf_m_L_law 533 534 (.iconst 1) 0 0 0 0 [] [] = true := by decide +kernel
theorem rf_f_L_law_534 : rf_Fb rf_m_L_law 534 535 (.iadd) 0 0 0 0 [] [] = true := by decide +kernel
theorem rf_f_L_law_535 : rf_Fb rf_m_L_law 535 536 (.iaload) 0 0 0 0 [] [] = true := by decide +kernel
theorem rf_f_L_law_536 : rf_Fb rf_m_L_law 536 539 (.invokevirtual 56) 140 1 0 5 [] [] = true := by decide +kernel
theorem rf_f_L_law_539 : rf_Fb rf_m_L_law 539 542 (.if_icmp .eq 665) 1204 0 0 0 [] [] = true := by decide +kernel
theorem rf_f_L_law_542 : rf_Fb rf_m_L_law 542 543 (.iconst 0) 0 0 0 0 [] [] = true := by decide +kernel
theorem rf_f_L_law_543 : rf_Fb rf_m_L_law 543 544 (.ireturn) 0 0 1 0 [] [] = true := by decide +kernel
theorem rf_f_L_law_544 : rf_Fb rf_m_L_law 544 545 (.aload_n 1) 0 0 0 0 [] [] = true := by decide +kernel
theorem rf_f_L_law_545 : rf_Fb rf_m_L_law 545 546 (.aload_n 0) 0 0 0 0 [] [] = true := by decide +kernel
theorem rf_f_L_law_546 : rf_Fb rf_m_L_law 546 547 (.iload_n 3) 0 0 0 0 [] [] = true := by decide +kernel
theorem rf_f_L_law_547 : rf_Fb rf_m_L_law 547 548 (.iconst 1) 0 0 0 0 [] [] = true := by decide +kernel
theorem rf_f_L_law_548 : rf_Fb rf_m_L_law 548 549 (.iadd) 0 0 0 0 [] [] = true := by decide +kernel
theorem rf_f_L_law_549 : rf_Fb rf_m_L_law 549 550 (.iaload) 0 0 0 0 [] [] = true := by decide +kernel
theorem rf_f_L_law_550 : rf_Fb rf_m_L_law 550 551 (.aload_n 0) 0 0 0 0 [] [] = true := by decide +kernel
theorem rf_f_L_law_551 : rf_Fb rf_m_L_law 551 552 (.iload_n 3) 0 0 0 0 [] [] = true := by decide +kernel
theorem rf_f_L_law_552 : rf_Fb rf_m_L_law 552 553 (.iconst 2) 0 0 0 0 [] [] = true := by decide +kernel
theorem rf_f_L_law_553 : rf_Fb rf_m_L_law 553 554 (.iadd) 0 0 0 0 [] [] = true := by decide +kernel
theorem rf_f_L_law_554 : rf_Fb rf_m_L_law 554 555 (.iaload) 0 0 0 0 [] [] = true := by decide +kernel
theorem rf_f_L_law_555 : rf_Fb rf_m_L_law 555 558 (.invokevirtual 57) 71 2 0 4 [] [] = true := by decide +kernel
theorem rf_f_L_law_558 : rf_Fb rf_m_L_law 558 559 (.aload_n 2) 0 0 0 0 [] [] = true := by decide +kernel
theorem rf_f_L_law_559 : rf_Fb rf_m_L_law 559 560 (.aload_n 0) 0 0 0 0 [] [] = true := by decide +kernel
theorem rf_f_L_law_560 : rf_Fb rf_m_L_law 560 561 (.iload_n 3) 0 0 0 0 [] [] = true := by decide +kernel
theorem rf_f_L_law_561 : rf_Fb rf_m_L_law 561 562 (.iconst 1) 0 0 0 0 [] [] = true := by decide +kernel
theorem rf_f_L_law_562 : rf_Fb rf_m_L_law 562 563 (.iadd) 0 0 0 0 [] [] = true := by decide +kernel
theorem rf_f_L_law_563 : rf_Fb rf_m_L_law 563 564 (.iaload) 0 0 0 0 [] [] = true := by decide +kernel
theorem rf_f_L_law_564 : rf_Fb rf_m_L_law 564 565 (.aload_n 0) 0 0 0 0 [] [] = true := by decide +kernel
theorem rf_f_L_law_565 : rf_Fb rf_m_L_law 565 566 (.iload_n 3) 0 0 0 0 [] [] = true := by decide +kernel
theorem rf_f_L_law_566 : rf_Fb rf_m_L_law 566 567 (.iconst 2) 0 0 0 0 [] [] = true := by decide +kernel
theorem rf_f_L_law_567 : rf_Fb rf_m_L_law 567 568 (.iadd) 0 0 0 0 [] [] = true := by decide +kernel
theorem rf_f_L_law_568 : rf_Fb rf_m_L_law 568 569 (.iaload) 0 0 0 0 [] [] = true := by decide +kernel
theorem rf_f_L_law_569 : rf_Fb rf_m_L_law 569 572 (.invokevirtual 60) 141 2 0 5 [] [] = true := by decide +kernel
theorem rf_f_L_law_572 : rf_Fb rf_m_L_law 572 575 (.if_icmp .eq 632) 1204 0 0 0 [] [] = true := by decide +kernel
theorem rf_f_L_law_575 : rf_Fb rf_m_L_law 575 576 (.iconst 0) 0 0 0 0 [] [] = true := by decide +kernel
theorem rf_f_L_law_576 : rf_Fb rf_m_L_law 576 577 (.ireturn) 0 0 1 0 [] [] = true := by decide +kernel
theorem rf_f_L_law_577 : rf_Fb rf_m_L_law 577 578 (.aload_n 1) 0 0 0 0 [] [] = true := by decide +kernel
theorem rf_f_L_law_578 : rf_Fb rf_m_L_law 578 579 (.aload_n 0) 0 0 0 0 [] [] = true := by decide +kernel
theorem rf_f_L_law_579 : rf_Fb rf_m_L_law 579 580 (.iload_n 3) 0 0 0 0 [] [] = true := by decide +kernel
theorem rf_f_L_law_580 : rf_Fb rf_m_L_law 580 581 (.iconst 1) 0 0 0 0 [] [] = true := by decide +kernel
theorem rf_f_L_law_581 : rf_Fb rf_m_L_law 581 582 (.iadd) 0 0 0 0 [] [] = true := by decide +kernel
theorem rf_f_L_law_582 : rf_Fb rf_m_L_law 582 583 (.iaload) 0 0 0 0 [] [] = true := by decide +kernel
theorem rf_f_L_law_583 : rf_Fb rf_m_L_law 583 584 (.aload_n 0) 0 0 0 0 [] [] = true := by decide +kernel
theorem rf_f_L_law_584 : rf_Fb rf_m_L_law 584 585 (.iload_n 3) 0 0 0 0 [] [] = true := by decide +kernel
theorem rf_f_L_law_585 : rf_Fb rf_m_L_law 585 586 (.iconst 2) 0 0 0 0 [] [] = true := by decide +kernel
theorem rf_f_L_law_586 : rf_Fb rf_m_L_law 586 587 (.iadd) 0 0 0 0 [] [] = true := by decide +kernel
theorem rf_f_L_law_587 : rf_Fb rf_m_L_law 587 588 (.iaload) 0 0 0 0 [] [] = true := by decide +kernel
theorem rf_f_L_law_588 : rf_Fb rf_m_L_law 588 591 (.invokevirtual 61) 73 2 0 4 [] [] = true := by decide +kernel
theorem rf_f_L_law_591 : rf_Fb rf_m_L_law 591 592 (.aload_n 2) 0 0 0 0 [] [] = true := by decide +kernel
theorem rf_f_L_law_592 : rf_Fb rf_m_L_law 592 593 (.aload_n 0) 0 0 0 0 [] [] = true := by decide +kernel
theorem rf_f_L_law_593 : rf_Fb rf_m_L_law 593 594 (.iload_n 3) 0 0 0 0 [] [] = true := by decide +kernel
theorem rf_f_L_law_594 : rf_Fb rf_m_L_law 594 595 (.iconst 1) 0 0 0 0 [] [] = true := by decide +kernel
theorem rf_f_L_law_595 : rf_Fb rf_m_L_law 595 596 (.iadd) 0 0 0 0 [] [] = true := by decide +kernel
theorem rf_f_L_law_596 : rf_Fb rf_m_L_law 596 597 (.iaload) 0 0 0 0 [] [] = true := by decide +kernel
theorem rf_f_L_law_597 : rf_Fb rf_m_L_law 597 598 (.aload_n 0) 0 0 0 0 [] [] = true := by decide +kernel
theorem rf_f_L_law_598 : rf_Fb rf_m_L_law 598 599 (.iload_n 3) 0 0 0 0 [] [] = true := by decide +kernel
theorem rf_f_L_law_599 : rf_Fb rf_m_L_law 599 600 (.iconst 2) 0 0 0 0 [] [] = true := by decide +kernel
theorem rf_f_L_law_600 : rf_Fb rf_m_L_law 600 601 (.iadd) 0 0 0 0 [] [] = true := by decide +kernel
theorem rf_f_L_law_601 : rf_Fb rf_m_L_law 601 602 (.iaload) 0 0 0 0 [] [] = true := by decide +kernel
theorem rf_f_L_law_602 : rf_Fb rf_m_L_law 602 605 (.invokevirtual 64) 148 2 0 5 [] [] = true := by decide +kernel
theorem rf_f_L_law_605 : rf_Fb rf_m_L_law 605 608 (.if_icmp .eq 599) 1204 0 0 0 [] [] = true := by decide +kernel
theorem rf_f_L_law_608 : rf_Fb rf_m_L_law 608 609 (.iconst 0) 0 0 0 0 [] [] = true := by decide +kernel
theorem rf_f_L_law_609 : rf_Fb rf_m_L_law 609 610 (.ireturn) 0 0 1 0 [] [] = true := by decide +kernel
theorem rf_f_L_law_610 : rf_Fb rf_m_L_law 610 611 (.aload_n 1) 0 0 0 0 [] [] = true := by decide +kernel
theorem rf_f_L_law_611 : rf_Fb rf_m_L_law 611 612 (.aload_n 0) 0 0 0 0 [] [] = true := by decide +kernel
theorem rf_f_L_law_612 : rf_Fb rf_m_L_law 612 613 (.iload_n 3) 0 0 0 0 [] [] = true := by decide +kernel
theorem rf_f_L_law_613 : rf_Fb rf_m_L_law 613 614 (.iconst 1) 0 0 0 0 [] [] = true := by decide +kernel
theorem rf_f_L_law_614 : rf_Fb rf_m_L_law 614 615 (.iadd) 0 0 0 0 [] [] = true := by decide +kernel
theorem rf_f_L_law_615 : rf_Fb rf_m_L_law 615 616 (.iaload) 0 0 0 0 [] [] = true := by decide +kernel
theorem rf_f_L_law_616 : rf_Fb rf_m_L_law 616 619 (.invokevirtual 65) 75 1 0 4 [] [] = true := by decide +kernel
theorem rf_f_L_law_619 : rf_Fb rf_m_L_law 619 620 (.aload_n 2) 0 0 0 0 [] [] = true := by decide +kernel
theorem rf_f_L_law_620 : rf_Fb rf_m_L_law 620 621 (.aload_n 0) 0 0 0 0 [] [] = true := by decide +kernel
theorem rf_f_L_law_621 : rf_Fb rf_m_L_law 621 622 (.iload_n 3) 0 0 0 0 [] [] = true := by decide +kernel
theorem rf_f_L_law_622 : rf_Fb rf_m_L_law 622 623 (.iconst 1) 0 0 0 0 [] [] = true := by decide +kernel
theorem rf_f_L_law_623 : rf_Fb rf_m_L_law 623 624 (.iadd) 0 0 0 0 [] [] = true := by decide +kernel
theorem rf_f_L_law_624 : rf_Fb rf_m_L_law 624 625 (.iaload) 0 0 0 0 [] [] = true := by decide +kernel
theorem rf_f_L_law_625 : rf_Fb rf_m_L_law 625 628 (.invokevirtual 68) 149 1 0 5 [] [] = true := by decide +kernel
theorem rf_f_L_law_628 : rf_Fb rf_m_L_law 628 631 (.if_icmp .eq 576) 1204 0 0 0 [] [] = true := by decide +kernel
theorem rf_f_L_law_631 : rf_Fb rf_m_L_law 631 632 (.iconst 0) 0 0 0 0 [] [] = true := by decide +kernel
theorem rf_f_L_law_632 : rf_Fb rf_m_L_law 632 633 (.ireturn) 0 0 1 0 [] [] = true := by decide +kernel
theorem rf_f_L_law_633 : rf_Fb rf_m_L_law 633 634 (.aload_n 1) 0 0 0 0 [] [] = true := by decide +kernel
theorem rf_f_L_law_634 : rf_Fb rf_m_L_law 634 635 (.aload_n 0) 0 0 0 0 [] [] = true := by decide +kernel
theorem rf_f_L_law_635 : rf_Fb rf_m_L_law 635 636 (.iload_n 3) 0 0 0 0 [] [] = true := by decide +kernel
theorem rf_f_L_law_636 : rf_Fb rf_m_L_law 636 637 (.iconst 1) 0 0 0 0 [] [] = true := by decide +kernel
theorem rf_f_L_law_637 : rf_Fb rf_m_L_law 637 638 (.iadd) 0 0 0 0 [] [] = true := by decide +kernel
theorem rf_f_L_law_638 : rf_Fb rf_m_L_law 638 639 (.iaload) 0 0 0 0 [] [] = true := by decide +kernel
theorem rf_f_L_law_639 : rf_Fb rf_m_L_law 639 642 (.invokevirtual 69) 77 1 0 4 [] [] = true := by decide +kernel
theorem rf_f_L_law_642 : rf_Fb rf_m_L_law 642 643 (.aload_n 2) 0 0 0 0 [] [] = true := by decide +kernel
theorem rf_f_L_law_643 : rf_Fb rf_m_L_law 643 644 (.aload_n 0) 0 0 0 0 [] [] = true := by decide +kernel
theorem rf_f_L_law_644 : rf_Fb rf_m_L_law 644 645 (.iload_n 3) 0 0 0 0 [] [] = true := by decide +kernel
theorem rf_f_L_law_645 : rf_Fb rf_m_L_law 645 646 (.iconst 1) 0 0 0 0 [] [] = true := by decide +kernel
theorem rf_f_L_law_646 : rf_Fb rf_m_L_law 646 647 (.iadd) 0 0 0 0 [] [] = true := by decide +kernel
theorem rf_f_L_law_647 : rf_Fb rf_m_L_law 647 648 (.iaload) 0 0 0 0 [] [] = true := by decide +kernel
theorem rf_f_L_law_648 : rf_Fb rf_m_L_law 648 651 (.invokevirtual 72) 151 1 0 5 [] [] = true := by decide +kernel
theorem rf_f_L_law_651 : rf_Fb rf_m_L_law 651 654 (.if_icmp .eq 553) 1204 0 0 0 [] [] = true := by decide +kernel
theorem rf_f_L_law_654 : rf_Fb rf_m_L_law 654 655 (.iconst 0) 0 0 0 0 [] [] = true := by decide +kernel
theorem rf_f_L_law_655 : rf_Fb rf_m_L_law 655 656 (.ireturn) 0 0 1 0 [] [] = true := by decide +kernel
theorem rf_f_L_law_656 : rf_Fb rf_m_L_law 656 657 (.aload_n 1) 0 0 0 0 [] [] = true := by decide +kernel
theorem rf_f_L_law_657 : rf_Fb rf_m_L_law 657 658 (.aload_n 0) 0 0 0 0 [] [] = true := by decide +kernel
theorem rf_f_L_law_658 : rf_Fb rf_m_L_law 658 659 (.iload_n 3) 0 0 0 0 [] [] = true := by decide +kernel
theorem rf_f_L_law_659 : rf_Fb rf_m_L_law 659 660 (.iconst 1) 0 0 0 0 [] [] = true := by decide +kernel
theorem rf_f_L_law_660 : rf_Fb rf_m_L_law 660 661 (.iadd) 0 0 0 0 [] [] = true := by decide +kernel
theorem rf_f_L_law_661 : rf_Fb rf_m_L_law 661 662 (.iaload) 0 0 0 0 [] [] = true := by decide +kernel
theorem rf_f_L_law_662 : rf_Fb rf_m_L_law 662 665 (.invokevirtual 73) 79 1 0 4 [] [] = true := by decide +kernel
theorem rf_f_L_law_665 : rf_Fb rf_m_L_law 665 666 (.aload_n 2) 0 0 0 0 [] [] = true := by decide +kernel
theorem rf_f_L_law_666 : rf_Fb rf_m_L_law 666 667 (.aload_n 0) 0 0 0 0 [] [] = true := by decide +kernel
theorem rf_f_L_law_667 : rf_Fb rf_m_L_law 667 668 (.iload_n 3) 0 0 0 0 [] [] = true := by decide +kernel
theorem rf_f_L_law_668 : rf_Fb rf_m_L_law 668 669 (.iconst 1) 0 0 0 0 [] [] = true := by decide +kernel
theorem rf_f_L_law_669 : rf_Fb rf_m_L_law 669 670 (.iadd) 0 0 0 0 [] [] = true := by decide +kernel
theorem rf_f_L_law_670 : rf_Fb rf_m_L_law 670 671 (.iaload) 0 0 0 0 [] [] = true := by decide +kernel
theorem rf_f_L_law_671 : rf_Fb rf_m_L_law 671 674 (.invokevirtual 76) 160 1 0 5 [] [] = true := by decide +kernel
theorem rf_f_L_law_674 : rf_Fb rf_m_L_law 674 677 (.if_icmp .eq 530) 1204 0 0 0 [] [] = true := by decide +kernel
theorem rf_f_L_law_677 : rf_Fb rf_m_L_law 677 678 (.iconst 0) 0 0 0 0 [] [] = true := by decide +kernel
theorem rf_f_L_law_678 : rf_Fb rf_m_L_law 678 679 (.ireturn) 0 0 1 0 [] [] = true := by decide +kernel
theorem rf_f_L_law_679 : rf_Fb rf_m_L_law 679 680 (.aload_n 1) 0 0 0 0 [] [] = true := by decide +kernel
theorem rf_f_L_law_680 : rf_Fb rf_m_L_law 680 681 (.aload_n 0) 0 0 0 0 [] [] = true := by decide +kernel
theorem rf_f_L_law_681 : rf_Fb rf_m_L_law 681 682 (.iload_n 3) 0 0 0 0 [] [] = true := by decide +kernel
theorem rf_f_L_law_682 : rf_Fb rf_m_L_law 682 683 (.iconst 1) 0 0 0 0 [] [] = true := by decide +kernel
theorem rf_f_L_law_683 : rf_Fb rf_m_L_law 683 684 (.iadd) 0 0 0 0 [] [] = true := by decide +kernel
theorem rf_f_L_law_684 : rf_Fb rf_m_L_law 684 685 (.iaload) 0 0 0 0 [] [] = true := by decide +kernel
theorem rf_f_L_law_685 : rf_Fb rf_m_L_law 685 688 (.invokevirtual 77) 80 1 0 4 [] [] = true := by decide +kernel
theorem rf_f_L_law_688 : rf_Fb rf_m_L_law 688 689 (.aload_n 2) 0 0 0 0 [] [] = true := by decide +kernel
theorem rf_f_L_law_689 : rf_Fb rf_m_L_law 689 690 (.aload_n 0) 0 0 0 0 [] [] = true := by decide +kernel
theorem rf_f_L_law_690 : rf_Fb rf_m_L_law 690 691 (.iload_n 3) 0 0 0 0 [] [] = true := by decide +kernel
theorem rf_f_L_law_691 : rf_Fb rf_m_L_law 691 692 (.iconst 1) 0 0 0 0 [] [] = true := by decide +kernel
theorem rf_f_L_law_692 : rf_Fb rf_m_L_law 692 693 (.iadd) 0 0 0 0 [] [] = true := by decide +kernel
theorem rf_f_L_law_693 : rf_Fb rf_m_L_law 693 694 (.iaload) 0 0 0 0 [] [] = true := by decide +kernel
theorem rf_f_L_law_694 : rf_Fb rf_m_L_law 694 697 (.invokevirtual 80) 161 1 0 5 [] [] = true := by decide +kernel
theorem rf_f_L_law_697 : rf_Fb rf_m_L_law 697 700 (.if_icmp .eq 507) 1204 0 0 0 [] [] = true := by decide +kernel
theorem rf_f_L_law_700 : rf_Fb rf_m_L_law 700 701 (.iconst 0) 0 0 0 0 [] [] = true := by decide +kernel
theorem rf_f_L_law_701 : rf_Fb rf_m_L_law 701 702 (.ireturn) 0 0 1 0 [] [] = true := by decide +kernel
theorem rf_f_L_law_702 : rf_Fb rf_m_L_law 702 703 (.aload_n 1) 0 0 0 0 [] [] = true := by decide +kernel
theorem rf_f_L_law_703 : rf_Fb rf_m_L_law 703 704 (.aload_n 0) 0 0 0 0 [] [] = true := by decide +kernel
theorem rf_f_L_law_704 : rf_Fb rf_m_L_law 704 705 (.iload_n 3) 0 0 0 0 [] [] = true := by decide +kernel
theorem rf_f_L_law_705 : rf_Fb rf_m_L_law 705 706 (.iconst 1) 0 0 0 0 [] [] = true := by decide +kernel
theorem rf_f_L_law_706 : rf_Fb rf_m_L_law 706 707 (.iadd) 0 0 0 0 [] [] = true := by decide +kernel
theorem rf_f_L_law_707 : rf_Fb rf_m_L_law 707 708 (.iaload) 0 0 0 0 [] [] = true := by decide +kernel
theorem rf_f_L_law_708 : rf_Fb rf_m_L_law 708 711 (.invokevirtual 81) 81 1 0 4 [] [] = true := by decide +kernel
theorem rf_f_L_law_711 : rf_Fb rf_m_L_law 711 712 (.aload_n 2) 0 0 0 0 [] [] = true := by decide +kernel
theorem rf_f_L_law_712 : rf_Fb rf_m_L_law 712 713 (.aload_n 0) 0 0 0 0 [] [] = true := by decide +kernel
theorem rf_f_L_law_713 : rf_Fb rf_m_L_law 713 714 (.iload_n 3) 0 0 0 0 [] [] = true := by decide +kernel
theorem rf_f_L_law_714 : rf_Fb rf_m_L_law 714 715 (.iconst 1) 0 0 0 0 [] [] = true := by decide +kernel
theorem rf_f_L_law_715 : rf_Fb rf_m_L_law 715 716 (.iadd) 0 0 0 0 [] [] = true := by decide +kernel
theorem rf_f_L_law_716 : rf_Fb rf_m_L_law 716 717 (.iaload) 0 0 0 0 [] [] = true := by decide +kernel
theorem rf_f_L_law_717 : rf_Fb rf_m_L_law 717 720 (.invokevirtual 84) 162 1 0 5 [] [] = true := by decide +kernel
theorem rf_f_L_law_720 : rf_Fb rf_m_L_law 720 723 (.if_icmp .eq 484) 1204 0 0 0 [] [] = true := by decide +kernel
theorem rf_f_L_law_723 : rf_Fb rf_m_L_law 723 724 (.iconst 0) 0 0 0 0 [] [] = true := by decide +kernel
theorem rf_f_L_law_724 : rf_Fb rf_m_L_law 724 725 (.ireturn) 0 0 1 0 [] [] = true := by decide +kernel
theorem rf_f_L_law_725 : rf_Fb rf_m_L_law 725 726 (.aload_n 1) 0 0 0 0 [] [] = true := by decide +kernel
theorem rf_f_L_law_726 : rf_Fb rf_m_L_law 726 729 (.invokevirtual 85) 82 0 0 4 [] [] = true := by decide +kernel
theorem rf_f_L_law_729 : rf_Fb rf_m_L_law 729 730 (.aload_n 2) 0 0 0 0 [] [] = true := by decide +kernel
theorem rf_f_L_law_730 : rf_Fb rf_m_L_law 730 733 (.invokevirtual 89) 163 0 0 5 [] [] = true := by decide +kernel
theorem rf_f_L_law_733 : rf_Fb rf_m_L_law 733 736 (.if_icmp .eq 471) 1204 0 0 0 [] [] = true := by decide +kernel
theorem rf_f_L_law_736 : rf_Fb rf_m_L_law 736 737 (.iconst 0) 0 0 0 0 [] [] = true := by decide +kernel
theorem rf_f_L_law_737 : rf_Fb rf_m_L_law 737 738 (.ireturn) 0 0 1 0 [] [] = true := by decide +kernel
theorem rf_f_L_law_738 : rf_Fb rf_m_L_law 738 739 (.aload_n 1) 0 0 0 0 [] [] = true := by decide +kernel
theorem rf_f_L_law_739 : rf_Fb rf_m_L_law 739 740 (.aload_n 0) 0 0 0 0 [] [] = true := by decide +kernel
theorem rf_f_L_law_740 : rf_Fb rf_m_L_law 740 741 (.iload_n 3) 0 0 0 0 [] [] = true := by decide +kernel
theorem rf_f_L_law_741 : rf_Fb rf_m_L_law 741 742 (.iconst 1) 0 0 0 0 [] [] = true := by decide +kernel
theorem rf_f_L_law_742 : rf_Fb rf_m_L_law 742 743 (.iadd) 0 0 0 0 [] [] = true := by decide +kernel
theorem rf_f_L_law_743 : rf_Fb rf_m_L_law 743 744 (.iaload) 0 0 0 0 [] [] = true := by decide +kernel
theorem rf_f_L_law_744 : rf_Fb rf_m_L_law 744 747 (.invokevirtual 90) 83 1 0 4 [] [] = true := by decide +kernel
theorem rf_f_L_law_747 : rf_Fb rf_m_L_law 747 748 (.aload_n 2) 0 0 0 0 [] [] = true := by decide +kernel
theorem rf_f_L_law_748 : rf_Fb rf_m_L_law 748 749 (.aload_n 0) 0 0 0 0 [] [] = true := by decide +kernel
theorem rf_f_L_law_749 : rf_Fb rf_m_L_law 749 750 (.iload_n 3) 0 0 0 0 [] [] = true := by decide +kernel
theorem rf_f_L_law_750 : rf_Fb rf_m_L_law 750 751 (.iconst 1) 0 0 0 0 [] [] = true := by decide +kernel
theorem rf_f_L_law_751 : rf_Fb rf_m_L_law 751 752 (.iadd) 0 0 0 0 [] [] = true := by decide +kernel
theorem rf_f_L_law_752 : rf_Fb rf_m_L_law 752 753 (.iaload) 0 0 0 0 [] [] = true := by decide +kernel
theorem rf_f_L_law_753 : rf_Fb rf_m_L_law 753 756 (.invokevirtual 93) 165 1 0 5 [] [] = true := by decide +kernel
theorem rf_f_L_law_756 : rf_Fb rf_m_L_law 756 759 (.if_icmp .eq 448) 1204 0 0 0 [] [] = true := by decide +kernel
theorem rf_f_L_law_759 : rf_Fb rf_m_L_law 759 760 (.iconst 0) 0 0 0 0 [] [] = true := by decide +kernel
theorem rf_f_L_law_760 : rf_Fb rf_m_L_law 760 761 (.ireturn) 0 0 1 0 [] [] = true := by decide +kernel
theorem rf_f_L_law_761 : rf_Fb rf_m_L_law 761 762 (.aload_n 1) 0 0 0 0 [] [] = true := by decide +kernel
theorem rf_f_L_law_762 : rf_Fb rf_m_L_law 762 765 (.invokevirtual 94) 84 0 0 4 [] [] = true := by decide +kernel
theorem rf_f_L_law_765 : rf_Fb rf_m_L_law 765 766 (.aload_n 2) 0 0 0 0 [] [] = true := by decide +kernel
theorem rf_f_L_law_766 : rf_Fb rf_m_L_law 766 769 (.invokevirtual 97) 166 0 0 5 [] [] = true := by decide +kernel
theorem rf_f_L_law_769 : rf_Fb rf_m_L_law 769 772 (.if_icmp .eq 435) 1204 0 0 0 [] [] = true := by decide +kernel
theorem rf_f_L_law_772 : rf_Fb rf_m_L_law 772 773 (.iconst 0) 0 0 0 0 [] [] = true := by decide +kernel
theorem rf_f_L_law_773 : rf_Fb rf_m_L_law 773 774 (.ireturn) 0 0 1 0 [] [] = true := by decide +kernel
theorem rf_f_L_law_774 : rf_Fb rf_m_L_law 774 775 (.aload_n 1) 0 0 0 0 [] [] = true := by decide +kernel
theorem rf_f_L_law_775 : rf_Fb rf_m_L_law 775 776 (.aload_n 0) 0 0 0 0 [] [] = true := by decide +kernel
theorem rf_f_L_law_776 : rf_Fb rf_m_L_law 776 777 (.iload_n 3) 0 0 0 0 [] [] = true := by decide +kernel
theorem rf_f_L_law_777 : rf_Fb rf_m_L_law 777 778 (.iconst 1) 0 0 0 0 [] [] = true := by decide +kernel
theorem rf_f_L_law_778 : rf_Fb rf_m_L_law 778 779 (.iadd) 0 0 0 0 [] [] = true := by decide +kernel
theorem rf_f_L_law_779 : rf_Fb rf_m_L_law 779 780 (.iaload) 0 0 0 0 [] [] = true := by decide +kernel
theorem rf_f_L_law_780 : rf_Fb rf_m_L_law 780 783 (.invokevirtual 98) 85 1 0 4 [] [] = true := by decide +kernel
theorem rf_f_L_law_783 : rf_Fb rf_m_L_law 783 784 (.aload_n 2) 0 0 0 0 [] [] = true := by decide +kernel
theorem rf_f_L_law_784 : rf_Fb rf_m_L_law 784 785 (.aload_n 0) 0 0 0 0 [] [] = true := by decide +kernel
theorem rf_f_L_law_785 : rf_Fb rf_m_L_law 785 786 (.iload_n 3) 0 0 0 0 [] [] = true := by decide +kernel
theorem rf_f_L_law_786 : rf_Fb rf_m_L_law 786 787 (.iconst 1) 0 0 0 0 [] [] = true := by decide +kernel
theorem rf_f_L_law_787 : rf_Fb rf_m_L_law 787 788 (.iadd) 0 0 0 0 [] [] = true := by decide +kernel
theorem rf_f_L_law_788 : rf_Fb rf_m_L_law 788 789 (.iaload) 0 0 0 0 [] [] = true := by decide +kernel
theorem rf_f_L_law_789 : rf_Fb rf_m_L_law 789 792 (.invokevirtual 101) 168 1 0 5 [] [] = true := by decide +kernel
theorem rf_f_L_law_792 : rf_Fb rf_m_L_law 792 795 (.if_icmp .eq 412) 1204 0 0 0 [] [] = true := by decide +kernel
theorem rf_f_L_law_795 : rf_Fb rf_m_L_law 795 796 (.iconst 0) 0 0 0 0 [] [] = true := by decide +kernel
theorem rf_f_L_law_796 : rf_Fb rf_m_L_law 796 797 (.ireturn) 0 0 1 0 [] [] = true := by decide +kernel
theorem rf_f_L_law_797 : rf_Fb rf_m_L_law 797 798 (.aload_n 1) 0 0 0 0 [] [] = true := by decide +kernel
theorem rf_f_L_law_798 : rf_Fb rf_m_L_law 798 801 (.invokevirtual 102) 86 0 0 4 [] [] = true := by decide +kernel
theorem rf_f_L_law_801 : rf_Fb rf_m_L_law 801 802 (.aload_n 2) 0 0 0 0 [] [] = true := by decide +kernel
theorem rf_f_L_law_802 : rf_Fb rf_m_L_law 802 805 (.invokevirtual 105) 169 0 0 5 [] [] = true := by decide +kernel
theorem rf_f_L_law_805 : rf_Fb rf_m_L_law 805 808 (.if_icmp .eq 399) 1204 0 0 0 [] [] = true := by decide +kernel
theorem rf_f_L_law_808 : rf_Fb rf_m_L_law 808 809 (.iconst 0) 0 0 0 0 [] [] = true := by decide +kernel
theorem rf_f_L_law_809 : rf_Fb rf_m_L_law 809 810 (.ireturn) 0 0 1 0 [] [] = true := by decide +kernel
theorem rf_f_L_law_810 : rf_Fb rf_m_L_law 810 811 (.aload_n 1) 0 0 0 0 [] [] = true := by decide +kernel
theorem rf_f_L_law_811 : rf_Fb rf_m_L_law 811 812 (.aload_n 0) 0 0 0 0 [] [] = true := by decide +kernel
theorem rf_f_L_law_812 : rf_Fb rf_m_L_law 812 813 (.iload_n 3) 0 0 0 0 [] [] = true := by decide +kernel
theorem rf_f_L_law_813 : rf_Fb rf_m_L_law 813 814 (.iconst 1) 0 0 0 0 [] [] = true := by decide +kernel
theorem rf_f_L_law_814 : rf_Fb rf_m_L_law 814 815 (.iadd) 0 0 0 0 [] [] = true := by decide +kernel
theorem rf_f_L_law_815 : rf_Fb rf_m_L_law 815 816 (.iaload) 0 0 0 0 [] [] = true := by decide +kernel
theorem rf_f_L_law_816 : rf_Fb rf_m_L_law 816 819 (.invokevirtual 106) 87 1 0 4 [] [] = true := by decide +kernel
theorem rf_f_L_law_819 : rf_Fb rf_m_L_law 819 820 (.aload_n 2) 0 0 0 0 [] [] = true := by decide +kernel
theorem rf_f_L_law_820 : rf_Fb rf_m_L_law 820 821 (.aload_n 0) 0 0 0 0 [] [] = true := by decide +kernel
theorem rf_f_L_law_821 : rf_Fb rf_m_L_law 821 822 (.iload_n 3) 0 0 0 0 [] [] = true := by decide +kernel
theorem rf_f_L_law_822 : rf_Fb rf_m_L_law 822 823 (.iconst 1) 0 0 0 0 [] [] = true := by decide +kernel
theorem rf_f_L_law_823 : rf_Fb rf_m_L_law 823 824 (.iadd) 0 0 0 0 [] [] = true := by decide +kernel
theorem rf_f_L_law_824 : rf_Fb rf_m_L_law 824 825 (.iaload) 0 0 0 0 [] [] = true := by decide +kernel
theorem rf_f_L_law_825 : rf_Fb rf_m_L_law 825 828 (.invokevirtual 109) 170 1 0 5 [] [] = true := by decide +kernel
theorem rf_f_L_law_828 : rf_Fb rf_m_L_law 828 831 (.if_icmp .eq 376) 1204 0 0 0 [] [] = true := by decide +kernel
theorem rf_f_L_law_831 : rf_Fb rf_m_L_law 831 832 (.iconst 0) 0 0 0 0 [] [] = true := by decide +kernel
theorem rf_f_L_law_832 : rf_Fb rf_m_L_law 832 833 (.ireturn) 0 0 1 0 [] [] = true := by decide +kernel
theorem rf_f_L_law_833 : rf_Fb rf_m_L_law 833 834 (.aload_n 1) 0 0 0 0 [] [] = true := by decide +kernel
theorem rf_f_L_law_834 : rf_Fb rf_m_L_law 834 835 (.aload_n 0) 0 0 0 0 [] [] = true := by decide +kernel
theorem rf_f_L_law_835 : rf_Fb rf_m_L_law 835 836 (.iload_n 3) 0 0 0 0 [] [] = true := by decide +kernel
theorem rf_f_L_law_836 : rf_Fb rf_m_L_law 836 837 (.iconst 1) 0 0 0 0 [] [] = true := by decide +kernel
theorem rf_f_L_law_837 : rf_Fb rf_m_L_law 837 838 (.iadd) 0 0 0 0 [] [] = true := by decide +kernel
theorem rf_f_L_law_838 : rf_Fb rf_m_L_law 838 839 (.iaload) 0 0 0 0 [] [] = true := by decide +kernel
theorem rf_f_L_law_839 : rf_Fb rf_m_L_law 839 840 (.aload_n 0) 0 0 0 0 [] [] = true := by decide +kernel
theorem rf_f_L_law_840 : rf_Fb rf_m_L_law 840 841 (.iload_n 3) 0 0 0 0 [] [] = true := by decide +kernel
theorem rf_f_L_law_841 : rf_Fb rf_m_L_law 841 842 (.iconst 2) 0 0 0 0 [] [] = true := by decide +kernel
theorem rf_f_L_law_842 : rf_Fb rf_m_L_law 842 843 (.iadd) 0 0 0 0 [] [] = true := by decide +kernel
theorem rf_f_L_law_843 : rf_Fb rf_m_L_law 843 844 (.iaload) 0 0 0 0 [] [] = true := by decide +kernel
theorem rf_f_L_law_844 : rf_Fb rf_m_L_law 844 847 (.invokevirtual 110) 90 2 0 4 [] [] = true := by decide +kernel
theorem rf_f_L_law_847 : rf_Fb rf_m_L_law 847 848 (.aload_n 2) 0 0 0 0 [] [] = true := by decide +kernel
theorem rf_f_L_law_848 : rf_Fb rf_m_L_law 848 849 (.aload_n 0) 0 0 0 0 [] [] = true := by decide +kernel
theorem rf_f_L_law_849 : rf_Fb rf_m_L_law 849 850 (.iload_n 3) 0 0 0 0 [] [] = true := by decide +kernel
theorem rf_f_L_law_850 : rf_Fb rf_m_L_law 850 851 (.iconst 1) 0 0 0 0 [] [] = true := by decide +kernel
theorem rf_f_L_law_851 : rf_Fb rf_m_L_law 851 852 (.iadd) 0 0 0 0 [] [] = true := by decide +kernel
theorem rf_f_L_law_852 : rf_Fb rf_m_L_law 852 853 (.iaload) 0 0 0 0 [] [] = true := by decide +kernel
theorem rf_f_L_law_853 : rf_Fb rf_m_L_law 853 854 (.aload_n 0) 0 0 0 0 [] [] = true := by decide +kernel
theorem rf_f_L_law_854 : rf_Fb rf_m_L_law 854 855 (.iload_n 3) 0 0 0 0 [] [] = true := by decide +kernel
theorem rf_f_L_law_855 : rf_Fb rf_m_L_law 855 856 (.iconst 2) 0 0 0 0 [] [] = true := by decide +kernel
theorem rf_f_L_law_856 : rf_Fb rf_m_L_law 856 857 (.iadd) 0 0 0 0 [] [] = true := by decide +kernel
theorem rf_f_L_law_857 : rf_Fb rf_m_L_law 857 858 (.iaload) 0 0 0 0 [] [] = true := by decide +kernel
theorem rf_f_L_law_858 : rf_Fb rf_m_L_law 858 861 (.invokevirtual 113) 173 2 0 5 [] [] = true := by decide +kernel
theorem rf_f_L_law_861 : rf_Fb rf_m_L_law 861 864 (.if_icmp .eq 343) 1204 0 0 0 [] [] = true := by decide +kernel
theorem rf_f_L_law_864 : rf_Fb rf_m_L_law 864 865 (.iconst 0) 0 0 0 0 [] [] = true := by decide +kernel
theorem rf_f_L_law_865 : rf_Fb rf_m_L_law 865 866 (.ireturn) 0 0 1 0 [] [] = true := by decide +kernel
theorem rf_f_L_law_866 : rf_Fb rf_m_L_law 866 867 (.aload_n 1) 0 0 0 0 [] [] = true := by decide +kernel
theorem rf_f_L_law_867 : rf_Fb rf_m_L_law 867 868 (.aload_n 0) 0 0 0 0 [] [] = true := by decide +kernel
theorem rf_f_L_law_868 : rf_Fb rf_m_L_law 868 869 (.iload_n 3) 0 0 0 0 [] [] = true := by decide +kernel
theorem rf_f_L_law_869 : rf_Fb rf_m_L_law 869 870 (.iconst 1) 0 0 0 0 [] [] = true := by decide +kernel
theorem rf_f_L_law_870 : rf_Fb rf_m_L_law 870 871 (.iadd) 0 0 0 0 [] [] = true := by decide +kernel
theorem rf_f_L_law_871 : rf_Fb rf_m_L_law 871 872 (.iaload) 0 0 0 0 [] [] = true := by decide +kernel
theorem rf_f_L_law_872 : rf_Fb rf_m_L_law 872 875 (.invokevirtual 114) 91 1 0 4 [] [] = true := by decide +kernel
theorem rf_f_L_law_875 : rf_Fb rf_m_L_law 875 876 (.aload_n 2) 0 0 0 0 [] [] = true := by decide +kernel
theorem rf_f_L_law_876 : rf_Fb rf_m_L_law 876 877 (.aload_n 0) 0 0 0 0 [] [] = true := by decide +kernel
theorem rf_f_L_law_877 : rf_Fb rf_m_L_law 877 878 (.iload_n 3) 0 0 0 0 [] [] = true := by decide +kernel
theorem rf_f_L_law_878 : rf_Fb rf_m_L_law 878 879 (.iconst 1) 0 0 0 0 [] [] = true := by decide +kernel
theorem rf_f_L_law_879 : rf_Fb rf_m_L_law 879 880 (.iadd) 0 0 0 0 [] [] = true := by decide +kernel
theorem rf_f_L_law_880 : rf_Fb rf_m_L_law 880 881 (.iaload) 0 0 0 0 [] [] = true := by decide +kernel
theorem rf_f_L_law_881 : rf_Fb rf_m_L_law 881 884 (.invokevirtual 117) 177 1 0 5 [] [] = true := by decide +kernel
theorem rf_f_L_law_884 : rf_Fb rf_m_L_law 884 887 (.if_icmp .eq 320) 1204 0 0 0 [] [] = true := by decide +kernel
theorem rf_f_L_law_887 : rf_Fb rf_m_L_law 887 888 (.iconst 0) 0 0 0 0 [] [] = true := by decide +kernel
theorem rf_f_L_law_888 : rf_Fb rf_m_L_law 888 889 (.ireturn) 0 0 1 0 [] [] = true := by decide +kernel
theorem rf_f_L_law_889 : rf_Fb rf_m_L_law 889 890 (.aload_n 1) 0 0 0 0 [] [] = true := by decide +kernel
theorem rf_f_L_law_890 : rf_Fb rf_m_L_law 890 891 (.aload_n 0) 0 0 0 0 [] [] = true := by decide +kernel
theorem rf_f_L_law_891 : rf_Fb rf_m_L_law 891 892 (.iload_n 3) 0 0 0 0 [] [] = true := by decide +kernel
theorem rf_f_L_law_892 : rf_Fb rf_m_L_law 892 893 (.iconst 1) 0 0 0 0 [] [] = true := by decide +kernel
theorem rf_f_L_law_893 : rf_Fb rf_m_L_law 893 894 (.iadd) 0 0 0 0 [] [] = true := by decide +kernel
theorem rf_f_L_law_894 : rf_Fb rf_m_L_law 894 895 (.iaload) 0 0 0 0 [] [] = true := by decide +kernel
theorem rf_f_L_law_895 : rf_Fb rf_m_L_law 895 898 (.invokevirtual 118) 92 1 0 4 [] [] = true := by decide +kernel
theorem rf_f_L_law_898 : rf_Fb rf_m_L_law 898 899 (.aload_n 2) 0 0 0 0 [] [] = true := by decide +kernel
theorem rf_f_L_law_899 : rf_Fb rf_m_L_law 899 900 (.aload_n 0) 0 0 0 0 [] [] = true := by decide +kernel
theorem rf_f_L_law_900 : rf_Fb rf_m_L_law 900 901 (.iload_n 3) 0 0 0 0 [] [] = true := by decide +kernel
theorem rf_f_L_law_901 : rf_Fb rf_m_L_law 901 902 (.iconst 1) 0 0 0 0 [] [] = true := by decide +kernel
theorem rf_f_L_law_902 : rf_Fb rf_m_L_law 902 903 (.iadd) 0 0 0 0 [] [] = true := by decide +kernel
theorem rf_f_L_law_903 : rf_Fb rf_m_L_law 903 904 (.iaload) 0 0 0 0 [] [] = true := by decide +kernel
theorem rf_f_L_law_904 : rf_Fb rf_m_L_law 904 907 (.invokevirtual 121) 178 1 0 5 [] [] = true := by decide +kernel
theorem rf_f_L_law_907 : rf_Fb rf_m_L_law 907 910 (.if_icmp .eq 297) 1204 0 0 0 [] [] = true := by decide +kernel
theorem rf_f_L_law_910 : rf_Fb rf_m_L_law 910 911 (.iconst 0) 0 0 0 0 [] [] = true := by decide +kernel
theorem rf_f_L_law_911 : rf_Fb rf_m_L_law 911 912 (.ireturn) 0 0 1 0 [] [] = true := by decide +kernel
theorem rf_f_L_law_912 : rf_Fb rf_m_L_law 912 913 (.aload_n 1) 0 0 0 0 [] [] = true := by decide +kernel
theorem rf_f_L_law_913 : rf_Fb rf_m_L_law 913 916 (.invokevirtual 122) 93 0 0 4 [] [] = true := by decide +kernel
theorem rf_f_L_law_916 : rf_Fb rf_m_L_law 916 917 (.aload_n 2) 0 0 0 0 [] [] = true := by decide +kernel
theorem rf_f_L_law_917 : rf_Fb rf_m_L_law 917 920 (.invokevirtual 125) 179 0 0 5 [] [] = true := by decide +kernel
theorem rf_f_L_law_920 : rf_Fb rf_m_L_law 920 923 (.if_icmp .eq 284) 1204 0 0 0 [] [] = true := by decide +kernel
theorem rf_f_L_law_923 : rf_Fb rf_m_L_law 923 924 (.iconst 0) 0 0 0 0 [] [] = true := by decide +kernel
theorem rf_f_L_law_924 : rf_Fb rf_m_L_law 924 925 (.ireturn) 0 0 1 0 [] [] = true := by decide +kernel
theorem rf_f_L_law_925 : rf_Fb rf_m_L_law 925 926 (.aload_n 1) 0 0 0 0 [] [] = true := by decide +kernel
theorem rf_f_L_law_926 : rf_Fb rf_m_L_law 926 927 (.aload_n 0) 0 0 0 0 [] [] = true := by decide +kernel
theorem rf_f_L_law_927 : rf_Fb rf_m_L_law 927 928 (.iload_n 3) 0 0 0 0 [] [] = true := by decide +kernel
theorem rf_f_L_law_928 : rf_Fb rf_m_L_law 928 929 (.iconst 1) 0 0 0 0 [] [] = true := by decide +kernel
theorem rf_f_L_law_929 : rf_Fb rf_m_L_law 929 930 (.iadd) 0 0 0 0 [] [] = true := by decide +kernel
theorem rf_f_L_law_930 : rf_Fb rf_m_L_law 930 931 (.iaload) 0 0 0 0 [] [] = true := by decide +kernel
theorem rf_f_L_law_931 : rf_Fb rf_m_L_law 931 932 (.aload_n 0) 0 0 0 0 [] [] = true := by decide +kernel
theorem rf_f_L_law_932 : rf_Fb rf_m_L_law 932 933 (.iload_n 3) 0 0 0 0 [] [] = true := by decide +kernel
theorem rf_f_L_law_933 : rf_Fb rf_m_L_law 933 934 (.iconst 2) 0 0 0 0 [] [] = true := by decide +kernel
theorem rf_f_L_law_934 : rf_Fb rf_m_L_law 934 935 (.iadd) 0 0 0 0 [] [] = true := by decide +kernel
theorem rf_f_L_law_935 : rf_Fb rf_m_L_law 935 936 (.iaload) 0 0 0 0 [] [] = true := by decide +kernel
theorem rf_f_L_law_936 : rf_Fb rf_m_L_law 936 937 (.aload_n 0) 0 0 0 0 [] [] = true := by decide +kernel
theorem rf_f_L_law_937 : rf_Fb rf_m_L_law 937 938 (.iload_n 3) 0 0 0 0 [] [] = true := by decide +kernel
theorem rf_f_L_law_938 : rf_Fb rf_m_L_law 938 939 (.iconst 3) 0 0 0 0 [] [] = true := by decide +kernel
theorem rf_f_L_law_939 : rf_Fb rf_m_L_law 939 940 (.iadd) 0 0 0 0 [] [] = true := by decide +kernel
theorem rf_f_L_law_940 : rf_Fb rf_m_L_law 940 941 (.iaload) 0 0 0 0 [] [] = true := by decide +kernel
theorem rf_f_L_law_941 : rf_Fb rf_m_L_law 941 944 (.invokevirtual 126) 94 3 0 4 [] [] = true := by decide +kernel
theorem rf_f_L_law_944 : rf_Fb rf_m_L_law 944 945 (.aload_n 2) 0 0 0 0 [] [] = true := by decide +kernel
theorem rf_f_L_law_945 : rf_Fb rf_m_L_law 945 946 (.aload_n 0) 0 0 0 0 [] [] = true := by decide +kernel
theorem rf_f_L_law_946 : rf_Fb rf_m_L_law 946 947 (.iload_n 3) 0 0 0 0 [] [] = true := by decide +kernel
theorem rf_f_L_law_947 : rf_Fb rf_m_L_law 947 948 (.iconst 1) 0 0 0 0 [] [] = true := by decide +kernel
theorem rf_f_L_law_948 : rf_Fb rf_m_L_law 948 949 (.iadd) 0 0 0 0 [] [] = true := by decide +kernel
theorem rf_f_L_law_949 : rf_Fb rf_m_L_law 949 950 (.iaload) 0 0 0 0 [] [] = true := by decide +kernel
theorem rf_f_L_law_950 : rf_Fb rf_m_L_law 950 951 (.aload_n 0) 0 0 0 0 [] [] = true := by decide +kernel
theorem rf_f_L_law_951 : rf_Fb rf_m_L_law 951 952 (.iload_n 3) 0 0 0 0 [] [] = true := by decide +kernel
theorem rf_f_L_law_952 : rf_Fb rf_m_L_law 952 953 (.iconst 2) 0 0 0 0 [] [] = true := by decide +kernel
theorem rf_f_L_law_953 : rf_Fb rf_m_L_law 953 954 (.iadd) 0 0 0 0 [] [] = true := by decide +kernel
theorem rf_f_L_law_954 : rf_Fb rf_m_L_law 954 955 (.iaload) 0 0 0 0 [] [] = true := by decide +kernel
theorem rf_f_L_law_955 : rf_Fb rf_m_L_law 955 956 (.aload_n 0) 0 0 0 0 [] [] = true := by decide +kernel
theorem rf_f_L_law_956 : rf_Fb rf_m_L_law 956 957 (.iload_n 3) 0 0 0 0 [] [] = true := by decide +kernel
theorem rf_f_L_law_957 : rf_Fb rf_m_L_law 957 958 (.iconst 3) 0 0 0 0 [] [] = true := by decide +kernel
theorem rf_f_L_law_958 : rf_Fb rf_m_L_law 958 959 (.iadd) 0 0 0 0 [] [] = true := by decide +kernel
theorem rf_f_L_law_959 : rf_Fb rf_m_L_law 959 960 (.iaload) 0 0 0 0 [] [] = true := by decide +kernel
theorem rf_f_L_law_960 : rf_Fb rf_m_L_law 960 963 (.invokevirtual 129) 180 3 0 5 [] [] = true := by decide +kernel
theorem rf_f_L_law_963 : rf_Fb rf_m_L_law 963 966 (.if_icmp .eq 241) 1204 0 0 0 [] [] = true := by decide +kernel
theorem rf_f_L_law_966 : rf_Fb rf_m_L_law 966 967 (.iconst 0) 0 0 0 0 [] [] = true := by decide +kernel
theorem rf_f_L_law_967 : rf_Fb rf_m_L_law 967 968 (.ireturn) 0 0 1 0 [] [] = true := by decide +kernel
theorem rf_f_L_law_968 : rf_Fb rf_m_L_law 968 969 (.aload_n 1) 0 0 0 0 [] [] = true := by decide +kernel
theorem rf_f_L_law_969 : rf_Fb rf_m_L_law 969 970 (.aload_n 0) 0 0 0 0 [] [] = true := by decide +kernel
theorem rf_f_L_law_970 : rf_Fb rf_m_L_law 970 971 (.iload_n 3) 0 0 0 0 [] [] = true := by decide +kernel
theorem rf_f_L_law_971 : rf_Fb rf_m_L_law 971 972 (.iconst 1) 0 0 0 0 [] [] = true := by decide +kernel
theorem rf_f_L_law_972 : rf_Fb rf_m_L_law 972 973 (.iadd) 0 0 0 0 [] [] = true := by decide +kernel
theorem rf_f_L_law_973 : rf_Fb rf_m_L_law 973 974 (.iaload) 0 0 0 0 [] [] = true := by decide +kernel
theorem rf_f_L_law_974 : rf_Fb rf_m_L_law 974 977 (.invokevirtual 130) 97 1 0 4 [] [] = true := by decide +kernel
theorem rf_f_L_law_977 : rf_Fb rf_m_L_law 977 978 (.aload_n 2) 0 0 0 0 [] [] = true := by decide +kernel
theorem rf_f_L_law_978 : rf_Fb rf_m_L_law 978 979 (.aload_n 0) 0 0 0 0 [] [] = true := by decide +kernel
theorem rf_f_L_law_979 : rf_Fb rf_m_L_law 979 980 (.iload_n 3) 0 0 0 0 [] [] = true := by decide +kernel
theorem rf_f_L_law_980 : rf_Fb rf_m_L_law 980 981 (.iconst 1) 0 0 0 0 [] [] = true := by decide +kernel
theorem rf_f_L_law_981 : rf_Fb rf_m_L_law 981 982 (.iadd) 0 0 0 0 [] [] = true := by decide +kernel
theorem rf_f_L_law_982 : rf_Fb rf_m_L_law 982 983 (.iaload) 0 0 0 0 [] [] = true := by decide +kernel
theorem rf_f_L_law_983 : rf_Fb rf_m_L_law 983 986 (.invokevirtual 133) 182 1 0 5 [] [] = true := by decide +kernel
theorem rf_f_L_law_986 : rf_Fb rf_m_L_law 986 989 (.if_icmp .eq 218) 1204 0 0 0 [] [] = true := by decide +kernel
theorem rf_f_L_law_989 : rf_Fb rf_m_L_law 989 990 (.iconst 0) 0 0 0 0 [] [] = true := by decide +kernel
theorem rf_f_L_law_990 : rf_Fb rf_m_L_law 990 991 (.ireturn) 0 0 1 0 [] [] = true := by decide +kernel
theorem rf_f_L_law_991 : rf_Fb rf_m_L_law 991 992 (.aload_n 1) 0 0 0 0 [] [] = true := by decide +kernel
theorem rf_f_L_law_992 : rf_Fb rf_m_L_law 992 993 (.aload_n 0) 0 0 0 0 [] [] = true := by decide +kernel
theorem rf_f_L_law_993 : rf_Fb rf_m_L_law 993 994 (.iload_n 3) 0 0 0 0 [] [] = true := by decide +kernel
theorem rf_f_L_law_994 : rf_Fb rf_m_L_law 994 995 (.iconst 1) 0 0 0 0 [] [] = true := by decide +kernel
theorem rf_f_L_law_995 : rf_Fb rf_m_L_law 995 996 (.iadd) 0 0 0 0 [] [] = true := by decide +kernel
theorem rf_f_L_law_996 : rf_Fb rf_m_L_law 996 997 (.iaload) 0 0 0 0 [] [] = true := by decide +kernel
theorem rf_f_L_law_997 : rf_Fb rf_m_L_law 997 998 (.aload_n 0) 0 0 0 0 [] [] = true := by decide +kernel
theorem rf_f_L_law_998 : rf_Fb rf_m_L_law 998 999 (.iload_n 3) 0 0 0 0 [] [] = true := by decide +kernel
theorem rf_f_L_law_999 : rf_Fb rf_m_L_law 999 1000 (.iconst 2) 0 0 0 0 [] [] = true := by decide +kernel
theorem rf_f_L_law_1000 : rf_Fb rf_m_L_law 1000 1001 (.iadd) 0 0 0 0 [] [] = true := by decide +kernel
theorem rf_f_L_law_1001 : rf_Fb rf_m_L_law 1001 1002 (.iaload) 0 0 0 0 [] [] = true := by decide +kernel
theorem rf_f_L_law_1002 : rf_Fb rf_m_L_law 1002 1005 (.invokevirtual 134) 102 2 0 4 [] [] = true := by decide +kernel
theorem rf_f_L_law_1005 : rf_Fb rf_m_L_law 1005 1006 (.aload_n 2) 0 0 0 0 [] [] = true := by decide +kernel
theorem rf_f_L_law_1006 : rf_Fb rf_m_L_law 1006 1007 (.aload_n 0) 0 0 0 0 [] [] = true := by decide +kernel
theorem rf_f_L_law_1007 : rf_Fb rf_m_L_law 1007 1008 (.iload_n 3) 0 0 0 0 [] [] = true := by decide +kernel
theorem rf_f_L_law_1008 : rf_Fb rf_m_L_law 1008 1009 (.iconst 1) 0 0 0 0 [] [] = true := by decide +kernel
theorem rf_f_L_law_1009 : rf_Fb rf_m_L_law 1009 1010 (.iadd) 0 0 0 0 [] [] = true := by decide +kernel
theorem rf_f_L_law_1010 : rf_Fb rf_m_L_law 1010 1011 (.iaload) 0 0 0 0 [] [] = true := by decide +kernel
theorem rf_f_L_law_1011 : rf_Fb rf_m_L_law 1011 1012 (.aload_n 0) 0 0 0 0 [] [] = true := by decide +kernel
theorem rf_f_L_law_1012 : rf_Fb rf_m_L_law 1012 1013 (.iload_n 3) 0 0 0 0 [] [] = true := by decide +kernel
theorem rf_f_L_law_1013 : rf_Fb rf_m_L_law 1013 1014 (.iconst 2) 0 0 0 0 [] [] = true := by decide +kernel
theorem rf_f_L_law_1014 : rf_Fb rf_m_L_law 1014 1015 (.iadd) 0 0 0 0 [] [] = true := by decide +kernel
theorem rf_f_L_law_1015 : rf_Fb rf_m_L_law 1015 1016 (.iaload) 0 0 0 0 [] [] = true := by decide +kernel
theorem rf_f_L_law_1016 : rf_Fb rf_m_L_law 1016 1019 (.invokevirtual 137) 186 2 0 5 [] [] = true := by decide +kernel
theorem rf_f_L_law_1019 : rf_Fb rf_m_L_law 1019 1022 (.if_icmp .eq 185) 1204 0 0 0 [] [] = true := by decide +kernel
theorem rf_f_L_law_1022 : rf_Fb rf_m_L_law 1022 1023 (.iconst 0) 0 0 0 0 [] [] = true := by decide +kernel
theorem rf_f_L_law_1023 : rf_Fb rf_m_L_law 1023 1024 (.ireturn) 0 0 1 0 [] [] = true := by decide +kernel
theorem rf_f_L_law_1024 : rf_Fb rf_m_L_law 1024 1025 (.aload_n 1) 0 0 0 0 [] [] = true := by decide +kernel
theorem rf_f_L_law_1025 : rf_Fb rf_m_L_law 1025 1026 (.aload_n 0) 0 0 0 0 [] [] = true := by decide +kernel
theorem rf_f_L_law_1026 : rf_Fb rf_m_L_law 1026 1027 (.iload_n 3) 0 0 0 0 [] [] = true := by decide +kernel
theorem rf_f_L_law_1027 : rf_Fb rf_m_L_law 1027 1028 (.iconst 1) 0 0 0 0 [] [] = true := by decide +kernel
theorem rf_f_L_law_1028 : rf_Fb rf_m_L_law 1028 1029 (.iadd) 0 0 0 0 [] [] = true := by decide +kernel
theorem rf_f_L_law_1029 : rf_Fb rf_m_L_law 1029 1030 (.iaload) 0 0 0 0 [] [] = true := by decide +kernel
theorem rf_f_L_law_1030 : rf_Fb rf_m_L_law 1030 1031 (.aload_n 0) 0 0 0 0 [] [] = true := by decide +kernel
theorem rf_f_L_law_1031 : rf_Fb rf_m_L_law 1031 1032 (.iload_n 3) 0 0 0 0 [] [] = true := by decide +kernel
theorem rf_f_L_law_1032 : rf_Fb rf_m_L_law 1032 1033 (.iconst 2) 0 0 0 0 [] [] = true := by decide +kernel
theorem rf_f_L_law_1033 : rf_Fb rf_m_L_law 1033 1034 (.iadd) 0 0 0 0 [] [] = true := by decide +kernel
theorem rf_f_L_law_1034 : rf_Fb rf_m_L_law 1034 1035 (.iaload) 0 0 0 0 [] [] = true := by decide +kernel
theorem rf_f_L_law_1035 : rf_Fb rf_m_L_law 1035 1038 (.invokevirtual 138) 103 2 0 4 [] [] = true := by decide +kernel
theorem rf_f_L_law_1038 : rf_Fb rf_m_L_law 1038 1039 (.aload_n 2) 0 0 0 0 [] [] = true := by decide +kernel
theorem rf_f_L_law_1039 : rf_Fb rf_m_L_law 1039 1040 (.aload_n 0) 0 0 0 0 [] [] = true := by decide +kernel
theorem rf_f_L_law_1040 : rf_Fb rf_m_L_law 1040 1041 (.iload_n 3) 0 0 0 0 [] [] = true := by decide +kernel
theorem rf_f_L_law_1041 : rf_Fb rf_m_L_law 1041 1042 (.iconst 1) 0 0 0 0 [] [] = true := by decide +kernel
theorem rf_f_L_law_1042 : rf_Fb rf_m_L_law 1042 1043 (.iadd) 0 0 0 0 [] [] = true := by decide +kernel
theorem rf_f_L_law_1043 : rf_Fb rf_m_L_law 1043 1044 (.iaload) 0 0 0 0 [] [] = true := by decide +kernel
theorem rf_f_L_law_1044 : rf_Fb rf_m_L_law 1044 1045 (.aload_n 0) 0 0 0 0 [] [] = true := by decide +kernel
theorem rf_f_L_law_1045 : rf_Fb rf_m_L_law 1045 1046 (.iload_n 3) 0 0 0 0 [] [] = true := by decide +kernel
theorem rf_f_L_law_1046 : rf_Fb rf_m_L_law 1046 1047 (.iconst 2) 0 0 0 0 [] [] = true := by decide +kernel
theorem rf_f_L_law_1047 : rf_Fb rf_m_L_law 1047 1048 (.iadd) 0 0 0 0 [] [] = true := by decide +kernel
theorem rf_f_L_law_1048 : rf_Fb rf_m_L_law 1048 1049 (.iaload) 0 0 0 0 [] [] = true := by decide +kernel
theorem rf_f_L_law_1049 : rf_Fb rf_m_L_law 1049 1052 (.invokevirtual 141) 187 2 0 5 [] [] = true := by decide +kernel
theorem rf_f_L_law_1052 : rf_Fb rf_m_L_law 1052 1055 (.if_icmp .eq 152) 1204 0 0 0 [] [] = true := by decide +kernel
theorem rf_f_L_law_1055 : rf_Fb rf_m_L_law 1055 1056 (.iconst 0) 0 0 0 0 [] [] = true := by decide +kernel
theorem rf_f_L_law_1056 : rf_Fb rf_m_L_law 1056 1057 (.ireturn) 0 0 1 0 [] [] = true := by decide +kernel
theorem rf_f_L_law_1057 : rf_Fb rf_m_L_law 1057 1058 (.aload_n 1) 0 0 0 0 [] [] = true := by decide +kernel
theorem rf_f_L_law_1058 : rf_Fb rf_m_L_law 1058 1059 (.aload_n 0) 0 0 0 0 [] [] = true := by decide +kernel
theorem rf_f_L_law_1059 : rf_Fb rf_m_L_law 1059 1060 (.iload_n 3) 0 0 0 0 [] [] = true := by decide +kernel
theorem rf_f_L_law_1060 : rf_Fb rf_m_L_law 1060 1061 (.iconst 1) 0 0 0 0 [] [] = true := by decide +kernel
theorem rf_f_L_law_1061 : rf_Fb rf_m_L_law 1061 1062 (.iadd) 0 0 0 0 [] [] = true := by decide +kernel
theorem rf_f_L_law_1062 : rf_Fb rf_m_L_law 1062 1063 (.iaload) 0 0 0 0 [] [] = true := by decide +kernel
theorem rf_f_L_law_1063 : rf_Fb rf_m_L_law 1063 1064 (.aload_n 0) 0 0 0 0 [] [] = true := by decide +kernel
theorem rf_f_L_law_1064 : rf_Fb rf_m_L_law 1064 1065 (.iload_n 3) 0 0 0 0 [] [] = true := by decide +kernel
theorem rf_f_L_law_1065 : rf_Fb rf_m_L_law 1065 1066 (.iconst 2) 0 0 0 0 [] [] = true := by decide +kernel
theorem rf_f_L_law_1066 : rf_Fb rf_m_L_law 1066 1067 (.iadd) 0 0 0 0 [] [] = true := by decide +kernel
theorem rf_f_L_law_1067 : rf_Fb rf_m_L_law 1067 1068 (.iaload) 0 0 0 0 [] [] = true := by decide +kernel
theorem rf_f_L_law_1068 : rf_Fb rf_m_L_law 1068 1071 (.invokevirtual 142) 104 2 0 4 [] [] = true := by decide +kernel
theorem rf_f_L_law_1071 : rf_Fb rf_m_L_law 1071 1072 (.aload_n 2) 0 0 0 0 [] [] = true := by decide +kernel
theorem rf_f_L_law_1072 : rf_Fb rf_m_L_law 1072 1073 (.aload_n 0) 0 0 0 0 [] [] = true := by decide +kernel
theorem rf_f_L_law_1073 : rf_Fb rf_m_L_law 1073 1074 (.iload_n 3) 0 0 0 0 [] [] = true := by decide +kernel
theorem rf_f_L_law_1074 : rf_Fb rf_m_L_law 1074 1075 (.iconst 1) 0 0 0 0 [] [] = true := by decide +kernel
theorem rf_f_L_law_1075 : rf_Fb rf_m_L_law 1075 1076 (.iadd) 0 0 0 0 [] [] = true := by decide +kernel
theorem rf_f_L_law_1076 : rf_Fb rf_m_L_law 1076 1077 (.iaload) 0 0 0 0 [] [] = true := by decide +kernel
theorem rf_f_L_law_1077 : rf_Fb rf_m_L_law 1077 1078 (.aload_n 0) 0 0 0 0 [] [] = true := by decide +kernel
theorem rf_f_L_law_1078 : rf_Fb rf_m_L_law 1078 1079 (.iload_n 3) 0 0 0 0 [] [] = true := by decide +kernel
theorem rf_f_L_law_1079 : rf_Fb rf_m_L_law 1079 1080 (.iconst 2) 0 0 0 0 [] [] = true := by decide +kernel
theorem rf_f_L_law_1080 : rf_Fb rf_m_L_law 1080 1081 (.iadd) 0 0 0 0 [] [] = true := by decide +kernel
theorem rf_f_L_law_1081 : rf_Fb rf_m_L_law 1081 1082 (.iaload) 0 0 0 0 [] [] = true := by decide +kernel
theorem rf_f_L_law_1082 : rf_Fb rf_m_L_law 1082 1085 (.invokevirtual 145) 188 2 0 5 [] [] = true := by decide +kernel
theorem rf_f_L_law_1085 : rf_Fb rf_m_L_law 1085 1088 (.if_icmp .eq 119) 1204 0 0 0 [] [] = true := by decide +kernel
theorem rf_f_L_law_1088 : rf_Fb rf_m_L_law 1088 1089 (.iconst 0) 0 0 0 0 [] [] = true := by decide +kernel
theorem rf_f_L_law_1089 : rf_Fb rf_m_L_law 1089 1090 (.ireturn) 0 0 1 0 [] [] = true := by decide +kernel
theorem rf_f_L_law_1090 : rf_Fb rf_m_L_law 1090 1091 (.aload_n 1) 0 0 0 0 [] [] = true := by decide +kernel
theorem rf_f_L_law_1091 : rf_Fb rf_m_L_law 1091 1094 (.invokevirtual 146) 105 0 0 4 [] [] = true := by decide +kernel
theorem rf_f_L_law_1094 : rf_Fb rf_m_L_law 1094 1095 (.aload_n 2) 0 0 0 0 [] [] = true := by decide +kernel
theorem rf_f_L_law_1095 : rf_Fb rf_m_L_law 1095 1098 (.invokevirtual 149) 189 0 0 5 [] [] = true := by decide +kernel
theorem rf_f_L_law_1098 : rf_Fb rf_m_L_law 1098 1101 (.if_icmp .eq 106) 1204 0 0 0 [] [] = true := by decide +kernel
theorem rf_f_L_law_1101 : rf_Fb rf_m_L_law 1101 1102 (.iconst 0) 0 0 0 0 [] [] = true := by decide +kernel
theorem rf_f_L_law_1102 : rf_Fb rf_m_L_law 1102 1103 (.ireturn) 0 0 1 0 [] [] = true := by decide +kernel
theorem rf_f_L_law_1103 : rf_Fb rf_m_L_law 1103 1104 (.aload_n 1) 0 0 0 0 [] [] = true := by decide +kernel
theorem rf_f_L_law_1104 : rf_Fb rf_m_L_law 1104 1107 (.invokevirtual 150) 106 0 1 4 [] [] = true := by decide +kernel
theorem rf_f_L_law_1107 : rf_Fb rf_m_L_law 1107 1108 (.aload_n 2) 0 0 0 0 [] [] = true := by decide +kernel
theorem rf_f_L_law_1108 : rf_Fb rf_m_L_law 1108 1111 (.invokevirtual 154) 190 0 1 5 [] [] = true := by decide +kernel
theorem rf_f_L_law_1111 : rf_Fb rf_m_L_law 1111 1112 (.lcmp) 0 0 0 0 [] [] = true := by decide +kernel
theorem rf_f_L_law_1112 : rf_Fb rf_m_L_law 1112 1115 (.ifCond .eq 92) 1204 0 0 0 [] [] = true := by decide +kernel
theorem rf_f_L_law_1115 : rf_Fb rf_m_L_law 1115 1116 (.iconst 0) 0 0 0 0 [] [] = true := by decide +kernel
theorem rf_f_L_law_1116 : rf_Fb rf_m_L_law 1116 1117 (.ireturn) 0 0 1 0 [] [] = true := by decide +kernel
theorem rf_f_L_law_1117 : rf_Fb rf_m_L_law 1117 1118 (.aload_n 1) 0 0 0 0 [] [] = true := by decide +kernel
theorem rf_f_L_law_1118 : rf_Fb rf_m_L_law 1118 1121 (.invokevirtual 155) 107 0 1 4 [] [] = true := by decide +kernel
theorem rf_f_L_law_1121 : rf_Fb rf_m_L_law 1121 1122 (.aload_n 2) 0 0 0 0 [] [] = true := by decide +kernel
theorem rf_f_L_law_1122 : rf_Fb rf_m_L_law 1122 1125 (.invokevirtual 158) 191 0 1 5 [] [] = true := by decide +kernel
theorem rf_f_L_law_1125 : rf_Fb rf_m_L_law 1125 1126 (.lcmp) 0 0 0 0 [] [] = true := by decide +kernel
theorem rf_f_L_law_1126 : rf_Fb rf_m_L_law 1126 1129 (.ifCond .eq 78) 1204 0 0 0 [] [] = true := by decide +kernel
theorem rf_f_L_law_1129 : rf_Fb rf_m_L_law 1129 1130 (.iconst 0) 0 0 0 0 [] [] = true := by decide +kernel
theorem rf_f_L_law_1130 : rf_Fb rf_m_L_law 1130 1131 (.ireturn) 0 0 1 0 [] [] = true := by decide +kernel
theorem rf_f_L_law_1131 : rf_Fb rf_m_L_law 1131 1132 (.aload_n 1) 0 0 0 0 [] [] = true := by decide +kernel
theorem rf_f_L_law_1132 : rf_Fb rf_m_L_law 1132 1133 (.aload_n 0) 0 0 0 0 [] [] = true := by decide +kernel
theorem rf_f_L_law_1133 : rf_Fb rf_m_L_law 1133 1134 (.iload_n 3) 0 0 0 0 [] [] = true := by decide +kernel
theorem rf_f_L_law_1134 : rf_Fb rf_m_L_law 1134 1135 (.iconst 1) 0 0 0 0 [] [] = true := by decide +kernel
theorem rf_f_L_law_1135 : rf_Fb rf_m_L_law 1135 1136 (.iadd) 0 0 0 0 [] [] = true := by decide +kernel
theorem rf_f_L_law_1136 : rf_Fb rf_m_L_law 1136 1137 (.iaload) 0 0 0 0 [] [] = true := by decide +kernel
theorem rf_f_L_law_1137 : rf_Fb rf_m_L_law 1137 1140 (.invokevirtual 159) 108 1 0 4 [] [] = true := by decide +kernel
theorem rf_f_L_law_1140 : rf_Fb rf_m_L_law 1140 1141 (.aload_n 2) 0 0 0 0 [] [] = true := by decide +kernel
theorem rf_f_L_law_1141 : rf_Fb rf_m_L_law 1141 1142 (.aload_n 0) 0 0 0 0 [] [] = true := by decide +kernel
theorem rf_f_L_law_1142 : rf_Fb rf_m_L_law 1142 1143 (.iload_n 3) 0 0 0 0 [] [] = true := by decide +kernel
theorem rf_f_L_law_1143 : rf_Fb rf_m_L_law 1143 1144 (.iconst 1) 0 0 0 0 [] [] = true := by decide +kernel
theorem rf_f_L_law_1144 : rf_Fb rf_m_L_law 1144 1145 (.iadd) 0 0 0 0 [] [] = true := by decide +kernel
theorem rf_f_L_law_1145 : rf_Fb rf_m_L_law 1145 1146 (.iaload) 0 0 0 0 [] [] = true := by decide +kernel
theorem rf_f_L_law_1146 : rf_Fb rf_m_L_law 1146 1149 (.invokevirtual 162) 192 1 0 5 [] [] = true := by decide +kernel
theorem rf_f_L_law_1149 : rf_Fb rf_m_L_law 1149 1152 (.if_icmp .eq 55) 1204 0 0 0 [] [] = true := by decide +kernel
theorem rf_f_L_law_1152 : rf_Fb rf_m_L_law 1152 1153 (.iconst 0) 0 0 0 0 [] [] = true := by decide +kernel
theorem rf_f_L_law_1153 : rf_Fb rf_m_L_law 1153 1154 (.ireturn) 0 0 1 0 [] [] = true := by decide +kernel
theorem rf_f_L_law_1154 : rf_Fb rf_m_L_law 1154 1155 (.aload_n 1) 0 0 0 0 [] [] = true := by decide +kernel
theorem rf_f_L_law_1155 : rf_Fb rf_m_L_law 1155 1158 (.invokevirtual 163) 111 0 0 4 [] [] = true := by decide +kernel
theorem rf_f_L_law_1158 : rf_Fb rf_m_L_law 1158 1159 (.aload_n 2) 0 0 0 0 [] [] = true := by decide +kernel
theorem rf_f_L_law_1159 : rf_Fb rf_m_L_law 1159 1162 (.invokevirtual 166) 194 0 0 5 [] [] = true := by decide +kernel
theorem rf_f_L_law_1162 : rf_Fb rf_m_L_law 1162 1165 (.if_icmp .eq 42) 1204 0 0 0 [] [] = true := by decide +kernel
theorem rf_f_L_law_1165 : rf_Fb rf_m_L_law 1165 1166 (.iconst 0) 0 0 0 0 [] [] = true := by decide +kernel
theorem rf_f_L_law_1166 : rf_Fb rf_m_L_law 1166 1167 (.ireturn) 0 0 1 0 [] [] = true := by decide +kernel
theorem rf_f_L_law_1167 : rf_Fb rf_m_L_law 1167 1168 (.aload_n 1) 0 0 0 0 [] [] = true := by decide +kernel
theorem rf_f_L_law_1168 : rf_Fb rf_m_L_law 1168 1169 (.aload_n 0) 0 0 0 0 [] [] = true := by decide +kernel
theorem rf_f_L_law_1169 : rf_Fb rf_m_L_law 1169 1170 (.iload_n 3) 0 0 0 0 [] [] = true := by decide +kernel
theorem rf_f_L_law_1170 : rf_Fb rf_m_L_law 1170 1171 (.iconst 1) 0 0 0 0 [] [] = true := by decide +kernel
theorem rf_f_L_law_1171 : rf_Fb rf_m_L_law 1171 1172 (.iadd) 0 0 0 0 [] [] = true := by decide +kernel
theorem rf_f_L_law_1172 : rf_Fb rf_m_L_law 1172 1173 (.iaload) 0 0 0 0 [] [] = true := by decide +kernel
theorem rf_f_L_law_1173 : rf_Fb rf_m_L_law 1173 1176 (.invokevirtual 167) 112 1 0 4 [] [] = true := by decide +kernel
theorem rf_f_L_law_1176 : rf_Fb rf_m_L_law 1176 1177 (.aload_n 2) 0 0 0 0 [] [] = true := by decide +kernel
theorem rf_f_L_law_1177 : rf_Fb rf_m_L_law 1177 1178 (.aload_n 0) 0 0 0 0 [] [] = true := by decide +kernel
theorem rf_f_L_law_1178 : rf_Fb rf_m_L_law 1178 1179 (.iload_n 3) 0 0 0 0 [] [] = true := by decide +kernel
theorem rf_f_L_law_1179 : rf_Fb rf_m_L_law 1179 1180 (.iconst 1) 0 0 0 0 [] [] = true := by decide +kernel
theorem rf_f_L_law_1180 : rf_Fb rf_m_L_law 1180 1181 (.iadd) 0 0 0 0 [] [] = true := by decide +kernel
theorem rf_f_L_law_1181 : rf_Fb rf_m_L_law 1181 1182 (.iaload) 0 0 0 0 [] [] = true := by decide +kernel
theorem rf_f_L_law_1182 : rf_Fb rf_m_L_law 1182 1185 (.invokevirtual 170) 195 1 0 5 [] [] = true := by decide +kernel
theorem rf_f_L_law_1185 : rf_Fb rf_m_L_law 1185 1188 (.if_icmp .eq 19) 1204 0 0 0 [] [] = true := by decide +kernel
theorem rf_f_L_law_1188 : rf_Fb rf_m_L_law 1188 1189 (.iconst 0) 0 0 0 0 [] [] = true := by decide +kernel
theorem rf_f_L_law_1189 : rf_Fb rf_m_L_law 1189 1190 (.ireturn) 0 0 1 0 [] [] = true := by decide +kernel
theorem rf_f_L_law_1190 : rf_Fb rf_m_L_law 1190 1191 (.aload_n 1) 0 0 0 0 [] [] = true := by decide +kernel
theorem rf_f_L_law_1191 : rf_Fb rf_m_L_law 1191 1194 (.invokevirtual 171) 113 0 1 4 [] [] = true := by decide +kernel
theorem rf_f_L_law_1194 : rf_Fb rf_m_L_law 1194 1195 (.aload_n 2) 0 0 0 0 [] [] = true := by decide +kernel
theorem rf_f_L_law_1195 : rf_Fb rf_m_L_law 1195 1198 (.invokevirtual 174) 196 0 1 5 [] [] = true := by decide +kernel
theorem rf_f_L_law_1198 : rf_Fb rf_m_L_law 1198 1199 (.lcmp) 0 0 0 0 [] [] = true := by decide +kernel
theorem rf_f_L_law_1199 : rf_Fb rf_m_L_law 1199 1202 (.ifCond .eq 5) 1204 0 0 0 [] [] = true := by decide +kernel
theorem rf_f_L_law_1202 : rf_Fb rf_m_L_law 1202 1203 (.iconst 0) 0 0 0 0 [] [] = true := by decide +kernel
theorem rf_f_L_law_1203 : rf_Fb rf_m_L_law 1203 1204 (.ireturn) 0 0 1 0 [] [true, true, true, true] = true := by decide +kernel
theorem rf_f_L_law_1204 : rf_Fb rf_m_L_law 1204 1207 (.iinc 3 6) 0 0 0 0 [] [] = true := by decide +kernel
theorem rf_f_L_law_1207 : rf_Fb rf_m_L_law 1207 1210 (.goto (-1189)) 18 0 0 0 [] [] = true := by decide +kernel
theorem rf_f_L_law_1210 : rf_Fb rf_m_L_law 1210 1211 (.iconst 1) 0 0 0 0 [] [] = true := by decide +kernel
theorem rf_f_L_law_1211 : rf_Fb rf_m_L_law 1211 1212 (.ireturn) 0 0 1 0 [] [] = true := by decide +kernel
set_option maxRecDepth 20000 in
set_option maxHeartbeats 2000000 in
theorem rf_e_L_law_18 (d : Nat) (l0 : Option Nat) (l1 : Option Nat) (l2 : Option Nat) (l3 : Int) (h : rf_H) : rf_j_L_law_18 d l0 l1 l2 l3 h = (rf_nn l0 fun k1 => ((rf_aL h k1).bind fun x2 => (if (rf_w (x2 - 6)) < l3 then some (some (.inl 1), h) else (rf_nn l0 fun k3 => ((rf_aI h k3 l3).bind fun x4 => (if (rf_and x4 63) = 0 then (rf_nn l0 fun k497 => ((rf_aI h k497 (rf_w (l3 + 1))).bind fun x498 => (rf_nn l0 fun k499 => ((rf_aI h k499 (rf_w (l3 + 2))).bind fun x500 => (rf_nn l1 fun k501 => (bif rf_isO h.1 k501 4 then ((rf_call d 54 [.inr (.inr (some k501)), .inl x498, .inl x500] h).bind fun q503 => rf_kI q503 fun x504 h502 => (rf_nn l0 fun k505 => ((rf_aI h502 k505 (rf_w (l3 + 1))).bind fun x506 => (rf_nn l0 fun k507 => ((rf_aI h502 k507 (rf_w (l3 + 2))).bind fun x508 => (rf_nn l2 fun k509 => (bif rf_isO h502.1 k509 5 then ((rf_call d 116 [.inr (.inr (some k509)), .inl x506, .inl x508] h502).bind fun q511 => rf_kI q511 fun x512 h510 => (if x504 = x512 then rf_j_L_law_1204 d l0 l1 l2 l3 h510 else some (some (.inl 0), h510))) else none))))))) else none)))))) else (if (rf_and x4 63) = (0 + 1) then (rf_nn l0 fun k477 => ((rf_aI h k477 (rf_w (l3 + 1))).bind fun x478 => (rf_nn l0 fun k479 => ((rf_aI h k479 (rf_w (l3 + 2))).bind fun x480 => (rf_nn l0 fun k481 => ((rf_aI h k481 (rf_w (l3 + 3))).bind fun x482 => (rf_nn l1 fun k483 => (bif rf_isO h.1 k483 4 then ((rf_call d 58 [.inr (.inr (some k483)), .inl x478, .inl x480, .inl x482] h).bind fun q485 => rf_kI q485 fun x486 h484 => (rf_nn l0 fun k487 => ((rf_aI h484 k487 (rf_w (l3 + 1))).bind fun x488 => (rf_nn l0 fun k489 => ((rf_aI h484 k489 (rf_w (l3 + 2))).bind fun x490 => (rf_nn l0 fun k491 => ((rf_aI h484 k491 (rf_w (l3 + 3))).bind fun x492 => (rf_nn l2 fun k493 => (bif rf_isO h484.1 k493 5 then ((rf_call d 120 [.inr (.inr (some k493)), .inl x488, .inl x490, .inl x492] h484).bind fun q495 => rf_kI q495 fun x496 h494 => (if x486 = x496 then rf_j_L_law_1204 d l0 l1 l2 l3 h494 else some (some (.inl 0), h494))) else none))))))))) else none)))))))) else (if (rf_and x4 63) = ((0 + 1) + 1) then (rf_nn l0 fun k461 => ((rf_aI h k461 (rf_w (l3 + 1))).bind fun x462 => (rf_nn l0 fun k463 => ((rf_aI h k463 (rf_w (l3 + 2))).bind fun x464 => (rf_nn l1 fun k465 => (bif rf_isO h.1 k465 4 then ((rf_call d 61 [.inr (.inr (some k465)), .inl x462, .inl x464] h).bind fun q467 => rf_kI q467 fun x468 h466 => (rf_nn l0 fun k469 => ((rf_aI h466 k469 (rf_w (l3 + 1))).bind fun x470 => (rf_nn l0 fun k471 => ((rf_aI h466 k471 (rf_w (l3 + 2))).bind fun x472 => (rf_nn l2 fun k473 => (bif rf_isO h466.1 k473 5 then ((rf_call d 122 [.inr (.inr (some k473)), .inl x470, .inl x472] h466).bind fun q475 => rf_kI q475 fun x476 h474 => (if x468 = x476 then rf_j_L_law_1204 d l0 l1 l2 l3 h474 else some (some (.inl 0), h474))) else none))))))) else none)))))) else (if (rf_and x4 63) = (((0 + 1) + 1) + 1) then (rf_nn l0 fun k449 => ((rf_aI h k449 (rf_w (l3 + 1))).bind fun x450 => (rf_nn l1 fun k451 => (bif rf_isO h.1 k451 4 then ((rf_call d 62 [.inr (.inr (some k451)), .inl x450] h).bind fun q453 => rf_kI q453 fun x454 h452 => (rf_nn l0 fun k455 => ((rf_aI h452 k455 (rf_w (l3 + 1))).bind fun x456 => (rf_nn l2 fun k457 => (bif rf_isO h452.1 k457 5 then ((rf_call d 123 [.inr (.inr (some k457)), .inl x456] h452).bind fun q459 => rf_kI q459 fun x460 h458 => (if x454 = x460 then rf_j_L_law_1204 d l0 l1 l2 l3 h458 else some (some (.inl 0), h458))) else none))))) else none)))) else (if (rf_and x4 63) = ((((0 + 1) + 1) + 1) + 1) then (rf_nn l0 fun k421 => ((rf_aI h k421 (rf_w (l3 + 1))).bind fun x422 => (rf_nn l0 fun k423 => ((rf_aI h k423 (rf_w (l3 + 2))).bind fun x424 => (rf_nn l0 fun k425 => ((rf_aI h k425 (rf_w (l3 + 3))).bind fun x426 => (rf_nn l0 fun k427 => ((rf_aI h k427 (rf_w (l3 + 4))).bind fun x428 => (rf_nn l0 fun k429 => ((rf_aI h k429 (rf_w (l3 + 5))).bind fun x430 => (rf_nn l1 fun k431 => (bif rf_isO h.1 k431 4 then ((rf_call d 63 [.inr (.inr (some k431)), .inl x422, .inl x424, .inl x426, .inl x428, .inl x430] h).bind fun q433 => rf_kI q433 fun x434 h432 => (rf_nn l0 fun k435 => ((rf_aI h432 k435 (rf_w (l3 + 1))).bind fun x436 => (rf_nn l0 fun k437 => ((rf_aI h432 k437 (rf_w (l3 + 2))).bind fun x438 => (rf_nn l0 fun k439 => ((rf_aI h432 k439 (rf_w (l3 + 3))).bind fun x440 => (rf_nn l0 fun k441 => ((rf_aI h432 k441 (rf_w (l3 + 4))).bind fun x442 => (rf_nn l0 fun k443 => ((rf_aI h432 k443 (rf_w (l3 + 5))).bind fun x444 => (rf_nn l2 fun k445 => (bif rf_isO h432.1 k445 5 then ((rf_call d 124 [.inr (.inr (some k445)), .inl x436, .inl x438, .inl x440, .inl x442, .inl x444] h432).bind fun q447 => rf_kI q447 fun x448 h446 => (if x434 = x448 then rf_j_L_law_1204 d l0 l1 l2 l3 h446 else some (some (.inl 0), h446))) else none))))))))))))) else none)))))))))))) else (if (rf_and x4 63) = (((((0 + 1) + 1) + 1) + 1) + 1) then (rf_nn l0 fun k409 => ((rf_aI h k409 (rf_w (l3 + 1))).bind fun x410 => (rf_nn l1 fun k411 => (bif rf_isO h.1 k411 4 then ((rf_call d 64 [.inr (.inr (some k411)), .inl x410] h).bind fun q413 => rf_kI q413 fun x414 h412 => (rf_nn l0 fun k415 => ((rf_aI h412 k415 (rf_w (l3 + 1))).bind fun x416 => (rf_nn l2 fun k417 => (bif rf_isO h412.1 k417 5 then ((rf_call d 125 [.inr (.inr (some k417)), .inl x416] h412).bind fun q419 => rf_kI q419 fun x420 h418 => (if x414 = x420 then rf_j_L_law_1204 d l0 l1 l2 l3 h418 else some (some (.inl 0), h418))) else none))))) else none)))) else (if (rf_and x4 63) = ((((((0 + 1) + 1) + 1) + 1) + 1) + 1) then (rf_nn l0 fun k393 => ((rf_aI h k393 (rf_w (l3 + 1))).bind fun x394 => (rf_nn l0 fun k395 => ((rf_aI h k395 (rf_w (l3 + 2))).bind fun x396 => (rf_nn l1 fun k397 => (bif rf_isO h.1 k397 4 then ((rf_call d 65 [.inr (.inr (some k397)), .inl x394, .inl x396] h).bind fun q399 => rf_kI q399 fun x400 h398 => (rf_nn l0 fun k401 => ((rf_aI h398 k401 (rf_w (l3 + 1))).bind fun x402 => (rf_nn l0 fun k403 => ((rf_aI h398 k403 (rf_w (l3 + 2))).bind fun x404 => (rf_nn l2 fun k405 => (bif rf_isO h398.1 k405 5 then ((rf_call d 126 [.inr (.inr (some k405)), .inl x402, .inl x404] h398).bind fun q407 => rf_kI q407 fun x408 h406 => (if x400 = x408 then rf_j_L_law_1204 d l0 l1 l2 l3 h406 else some (some (.inl 0), h406))) else none))))))) else none)))))) else (if (rf_and x4 63) = (((((((0 + 1) + 1) + 1) + 1) + 1) + 1) + 1) then (rf_nn l0 fun k373 => ((rf_aI h k373 (rf_w (l3 + 1))).bind fun x374 => (rf_nn l0 fun k375 => ((rf_aI h k375 (rf_w (l3 + 2))).bind fun x376 => (rf_nn l0 fun k377 => ((rf_aI h k377 (rf_w (l3 + 3))).bind fun x378 => (rf_nn l1 fun k379 => (bif rf_isO h.1 k379 4 then ((rf_call d 66 [.inr (.inr (some k379)), .inl x374, .inl x376, .inl x378] h).bind fun q381 => rf_kI q381 fun x382 h380 => (rf_nn l0 fun k383 => ((rf_aI h380 k383 (rf_w (l3 + 1))).bind fun x384 => (rf_nn l0 fun k385 => ((rf_aI h380 k385 (rf_w (l3 + 2))).bind fun x386 => (rf_nn l0 fun k387 => ((rf_aI h380 k387 (rf_w (l3 + 3))).bind fun x388 => (rf_nn l2 fun k389 => (bif rf_isO h380.1 k389 5 then ((rf_call d 128 [.inr (.inr (some k389)), .inl x384, .inl x386, .inl x388] h380).bind fun q391 => rf_kI q391 fun x392 h390 => (if x382 = x392 then rf_j_L_law_1204 d l0 l1 l2 l3 h390 else some (some (.inl 0), h390))) else none))))))))) else none)))))))) else (if (rf_and x4 63) = ((((((((0 + 1) + 1) + 1) + 1) + 1) + 1) + 1) + 1) then (rf_nn l0 fun k361 => ((rf_aI h k361 (rf_w (l3 + 1))).bind fun x362 => (rf_nn l1 fun k363 => (bif rf_isO h.1 k363 4 then ((rf_call d 67 [.inr (.inr (some k363)), .inl x362] h).bind fun q365 => rf_kI q365 fun x366 h364 => (rf_nn l0 fun k367 => ((rf_aI h364 k367 (rf_w (l3 + 1))).bind fun x368 => (rf_nn l2 fun k369 => (bif rf_isO h364.1 k369 5 then ((rf_call d 129 [.inr (.inr (some k369)), .inl x368] h364).bind fun q371 => rf_kI q371 fun x372 h370 => (if x366 = x372 then rf_j_L_law_1204 d l0 l1 l2 l3 h370 else some (some (.inl 0), h370))) else none))))) else none)))) else (if (rf_and x4 63) = (((((((((0 + 1) + 1) + 1) + 1) + 1) + 1) + 1) + 1) + 1) then (rf_nn l0 fun k349 => ((rf_aI h k349 (rf_w (l3 + 1))).bind fun x350 => (rf_nn l1 fun k351 => (bif rf_isO h.1 k351 4 then ((rf_call d 68 [.inr (.inr (some k351)), .inl x350] h).bind fun q353 => rf_kI q353 fun x354 h352 => (rf_nn l0 fun k355 => ((rf_aI h352 k355 (rf_w (l3 + 1))).bind fun x356 => (rf_nn l2 fun k357 => (bif rf_isO h352.1 k357 5 then ((rf_call d 140 [.inr (.inr (some k357)), .inl x356] h352).bind fun q359 => rf_kI q359 fun x360 h358 => (if x354 = x360 then rf_j_L_law_1204 d l0 l1 l2 l3 h358 else some (some (.inl 0), h358))) else none))))) else none)))) else (if (rf_and x4 63) = ((((((((((0 + 1) + 1) + 1) + 1) + 1) + 1) + 1) + 1) + 1) + 1) then (rf_nn l0 fun k333 => ((rf_aI h k333 (rf_w (l3 + 1))).bind fun x334 => (rf_nn l0 fun k335 => ((rf_aI h k335 (rf_w (l3 + 2))).bind fun x336 => (rf_nn l1 fun k337 => (bif rf_isO h.1 k337 4 then ((rf_call d 71 [.inr (.inr (some k337)), .inl x334, .inl x336] h).bind fun q339 => rf_kI q339 fun x340 h338 => (rf_nn l0 fun k341 => ((rf_aI h338 k341 (rf_w (l3 + 1))).bind fun x342 => (rf_nn l0 fun k343 => ((rf_aI h338 k343 (rf_w (l3 + 2))).bind fun x344 => (rf_nn l2 fun k345 => (bif rf_isO h338.1 k345 5 then ((rf_call d 141 [.inr (.inr (some k345)), .inl x342, .inl x344] h338).bind fun q347 => rf_kI q347 fun x348 h346 => (if x340 = x348 then rf_j_L_law_1204 d l0 l1 l2 l3 h346 else some (some (.inl 0), h346))) else none))))))) else none)))))) else (if (rf_and x4 63) = (((((((((((0 + 1) + 1) + 1) + 1) + 1) + 1) + 1) + 1) + 1) + 1) + 1) then (rf_nn l0 fun k317 => ((rf_aI h k317 (rf_w (l3 + 1))).bind fun x318 => (rf_nn l0 fun k319 => ((rf_aI h k319 (rf_w (l3 + 2))).bind fun x320 => (rf_nn l1 fun k321 => (bif rf_isO h.1 k321 4 then ((rf_call d 73 [.inr (.inr (some k321)), .inl x318, .inl x320] h).bind fun q323 => rf_kI q323 fun x324 h322 => (rf_nn l0 fun k325 => ((rf_aI h322 k325 (rf_w (l3 + 1))).bind fun x326 => (rf_nn l0 fun k327 => ((rf_aI h322 k327 (rf_w (l3 + 2))).bind fun x328 => (rf_nn l2 fun k329 => (bif rf_isO h322.1 k329 5 then ((rf_call d 148 [.inr (.inr (some k329)), .inl x326, .inl x328] h322).bind fun q331 => rf_kI q331 fun x332 h330 => (if x324 = x332 then rf_j_L_law_1204 d l0 l1 l2 l3 h330 else some (some (.inl 0), h330))) else none))))))) else none)))))) else (if (rf_and x4 63) = ((((((((((((0 + 1) + 1) + 1) + 1) + 1) + 1) + 1) + 1) + 1) + 1) + 1) + 1) then (rf_nn l0 fun k305 => ((rf_aI h k305 (rf_w (l3 + 1))).bind fun x306 => (rf_nn l1 fun k307 => (bif rf_isO h.1 k307 4 then ((rf_call d 75 [.inr (.inr (some k307)), .inl x306] h).bind fun q309 => rf_kI q309 fun x310 h308 => (rf_nn l0 fun k311 => ((rf_aI h308 k311 (rf_w (l3 + 1))).bind fun x312 => (rf_nn l2 fun k313 => (bif rf_isO h308.1 k313 5 then ((rf_call d 149 [.inr (.inr (some k313)), .inl x312] h308).bind fun q315 => rf_kI q315 fun x316 h314 => (if x310 = x316 then rf_j_L_law_1204 d l0 l1 l2 l3 h314 else some (some (.inl 0), h314))) else none))))) else none)))) else (if (rf_and x4 63) = (((((((((((((0 + 1) + 1) + 1) + 1) + 1) + 1) + 1) + 1) + 1) + 1) + 1) + 1) + 1) then (rf_nn l0 fun k293 => ((rf_aI h k293 (rf_w (l3 + 1))).bind fun x294 => (rf_nn l1 fun k295 => (bif rf_isO h.1 k295 4 then ((rf_call d 77 [.inr (.inr (some k295)), .inl x294] h).bind fun q297 => rf_kI q297 fun x298 h296 => (rf_nn l0 fun k299 => ((rf_aI h296 k299 (rf_w (l3 + 1))).bind fun x300 => (rf_nn l2 fun k301 => (bif rf_isO h296.1 k301 5 then ((rf_call d 151 [.inr (.inr (some k301)), .inl x300] h296).bind fun q303 => rf_kI q303 fun x304 h302 => (if x298 = x304 then rf_j_L_law_1204 d l0 l1 l2 l3 h302 else some (some (.inl 0), h302))) else none))))) else none)))) else (if (rf_and x4 63) = ((((((((((((((0 + 1) + 1) + 1) + 1) + 1) + 1) + 1) + 1) + 1) + 1) + 1) + 1) + 1) + 1) then (rf_nn l0 fun k281 => ((rf_aI h k281 (rf_w (l3 + 1))).bind fun x282 => (rf_nn l1 fun k283 => (bif rf_isO h.1 k283 4 then ((rf_call d 79 [.inr (.inr (some k283)), .inl x282] h).bind fun q285 => rf_kI q285 fun x286 h284 => (rf_nn l0 fun k287 => ((rf_aI h284 k287 (rf_w (l3 + 1))).bind fun x288 => (rf_nn l2 fun k289 => (bif rf_isO h284.1 k289 5 then ((rf_call d 160 [.inr (.inr (some k289)), .inl x288] h284).bind fun q291 => rf_kI q291 fun x292 h290 => (if x286 = x292 then rf_j_L_law_1204 d l0 l1 l2 l3 h290 else some (some (.inl 0), h290))) else none))))) else none)))) else (if (rf_and x4 63) = (((((((((((((((0 + 1) + 1) + 1) + 1) + 1) + 1) + 1) + 1) + 1) + 1) + 1) + 1) + 1) + 1) + 1) then (rf_nn l0 fun k269 => ((rf_aI h k269 (rf_w (l3 + 1))).bind fun x270 => (rf_nn l1 fun k271 => (bif rf_isO h.1 k271 4 then ((rf_call d 80 [.inr (.inr (some k271)), .inl x270] h).bind fun q273 => rf_kI q273 fun x274 h272 => (rf_nn l0 fun k275 => ((rf_aI h272 k275 (rf_w (l3 + 1))).bind fun x276 => (rf_nn l2 fun k277 => (bif rf_isO h272.1 k277 5 then ((rf_call d 161 [.inr (.inr (some k277)), .inl x276] h272).bind fun q279 => rf_kI q279 fun x280 h278 => (if x274 = x280 then rf_j_L_law_1204 d l0 l1 l2 l3 h278 else some (some (.inl 0), h278))) else none))))) else none)))) else (if (rf_and x4 63) = ((((((((((((((((0 + 1) + 1) + 1) + 1) + 1) + 1) + 1) + 1) + 1) + 1) + 1) + 1) + 1) + 1) + 1) + 1) then (rf_nn l0 fun k257 => ((rf_aI h k257 (rf_w (l3 + 1))).bind fun x258 => (rf_nn l1 fun k259 => (bif rf_isO h.1 k259 4 then ((rf_call d 81 [.inr (.inr (some k259)), .inl x258] h).bind fun q261 => rf_kI q261 fun x262 h260 => (rf_nn l0 fun k263 => ((rf_aI h260 k263 (rf_w (l3 + 1))).bind fun x264 => (rf_nn l2 fun k265 => (bif rf_isO h260.1 k265 5 then ((rf_call d 162 [.inr (.inr (some k265)), .inl x264] h260).bind fun q267 => rf_kI q267 fun x268 h266 => (if x262 = x268 then rf_j_L_law_1204 d l0 l1 l2 l3 h266 else some (some (.inl 0), h266))) else none))))) else none)))) else (if (rf_and x4 63) = (((((((((((((((((0 + 1) + 1) + 1) + 1) + 1) + 1) + 1) + 1) + 1) + 1) + 1) + 1) + 1) + 1) + 1) + 1) + 1) then (rf_nn l1 fun k249 => (bif rf_isO h.1 k249 4 then ((rf_call d 82 [.inr (.inr (some k249))] h).bind fun q251 => rf_kI q251 fun x252 h250 => (rf_nn l2 fun k253 => (bif rf_isO h250.1 k253 5 then ((rf_call d 163 [.inr (.inr (some k253))] h250).bind fun q255 => rf_kI q255 fun x256 h254 => (if x252 = x256 then rf_j_L_law_1204 d l0 l1 l2 l3 h254 else some (some (.inl 0), h254))) else none))) else none)) else (if (rf_and x4 63) = ((((((((((((((((((0 + 1) + 1) + 1) + 1) + 1) + 1) + 1) + 1) + 1) + 1) + 1) + 1) + 1) + 1) + 1) + 1) + 1) + 1) then (rf_nn l0 fun k237 => ((rf_aI h k237 (rf_w (l3 + 1))).bind fun x238 => (rf_nn l1 fun k239 => (bif rf_isO h.1 k239 4 then ((rf_call d 83 [.inr (.inr (some k239)), .inl x238] h).bind fun q241 => rf_kI q241 fun x242 h240 => (rf_nn l0 fun k243 => ((rf_aI h240 k243 (rf_w (l3 + 1))).bind fun x244 => (rf_nn l2 fun k245 => (bif rf_isO h240.1 k245 5 then ((rf_call d 165 [.inr (.inr (some k245)), .inl x244] h240).bind fun q247 => rf_kI q247 fun x248 h246 => (if x242 = x248 then rf_j_L_law_1204 d l0 l1 l2 l3 h246 else some (some (.inl 0), h246))) else none))))) else none)))) else (if (rf_and x4 63) = (((((((((((((((((((0 + 1) + 1) + 1) + 1) + 1) + 1) + 1) + 1) + 1) + 1) + 1) + 1) + 1) + 1) + 1) + 1) + 1) + 1) + 1) then (rf_nn l1 fun k229 => (bif rf_isO h.1 k229 4 then ((rf_call d 84 [.inr (.inr (some k229))] h).bind fun q231 => rf_kI q231 fun x232 h230 => (rf_nn l2 fun k233 => (bif rf_isO h230.1 k233 5 then ((rf_call d 166 [.inr (.inr (some k233))] h230).bind fun q235 => rf_kI q235 fun x236 h234 => (if x232 = x236 then rf_j_L_law_1204 d l0 l1 l2 l3 h234 else some (some (.inl 0), h234))) else none))) else none)) else (if (rf_and x4 63) = ((((((((((((((((((((0 + 1) + 1) + 1) + 1) + 1) + 1) + 1) + 1) + 1) + 1) + 1) + 1) + 1) + 1) + 1) + 1) + 1) + 1) + 1) + 1) then (rf_nn l0 fun k217 => ((rf_aI h k217 (rf_w (l3 + 1))).bind fun x218 => (rf_nn l1 fun k219 => (bif rf_isO h.1 k219 4 then ((rf_call d 85 [.inr (.inr (some k219)), .inl x218] h).bind fun q221 => rf_kI q221 fun x222 h220 => (rf_nn l0 fun k223 => ((rf_aI h220 k223 (rf_w (l3 + 1))).bind fun x224 => (rf_nn l2 fun k225 => (bif rf_isO h220.1 k225 5 then ((rf_call d 168 [.inr (.inr (some k225)), .inl x224] h220).bind fun q227 => rf_kI q227 fun x228 h226 => (if x222 = x228 then rf_j_L_law_1204 d l0 l1 l2 l3 h226 else some (some (.inl 0), h226))) else none))))) else none)))) else (if (rf_and x4 63) = (((((((((((((((((((((0 + 1) + 1) + 1) + 1) + 1) + 1) + 1) + 1) + 1) + 1) + 1) + 1) + 1) + 1) + 1) + 1) + 1) + 1) + 1) + 1) + 1) then (rf_nn l1 fun k209 => (bif rf_isO h.1 k209 4 then ((rf_call d 86 [.inr (.inr (some k209))] h).bind fun q211 => rf_kI q211 fun x212 h210 => (rf_nn l2 fun k213 => (bif rf_isO h210.1 k213 5 then ((rf_call d 169 [.inr (.inr (some k213))] h210).bind fun q215 => rf_kI q215 fun x216 h214 => (if x212 = x216 then rf_j_L_law_1204 d l0 l1 l2 l3 h214 else some (some (.inl 0), h214))) else none))) else none)) else (if (rf_and x4 63) = ((((((((((((((((((((((0 + 1) + 1) + 1) + 1) + 1) + 1) + 1) + 1) + 1) + 1) + 1) + 1) + 1) + 1) + 1) + 1) + 1) + 1) + 1) + 1) + 1) + 1) then (rf_nn l0 fun k197 => ((rf_aI h k197 (rf_w (l3 + 1))).bind fun x198 => (rf_nn l1 fun k199 => (bif rf_isO h.1 k199 4 then ((rf_call d 87 [.inr (.inr (some k199)), .inl x198] h).bind fun q201 => rf_kI q201 fun x202 h200 => (rf_nn l0 fun k203 => ((rf_aI h200 k203 (rf_w (l3 + 1))).bind fun x204 => (rf_nn l2 fun k205 => (bif rf_isO h200.1 k205 5 then ((rf_call d 170 [.inr (.inr (some k205)), .inl x204] h200).bind fun q207 => rf_kI q207 fun x208 h206 => (if x202 = x208 then rf_j_L_law_1204 d l0 l1 l2 l3 h206 else some (some (.inl 0), h206))) else none))))) else none)))) else (if (rf_and x4 63) = (((((((((((((((((((((((0 + 1) + 1) + 1) + 1) + 1) + 1) + 1) + 1) + 1) + 1) + 1) + 1) + 1) + 1) + 1) + 1) + 1) + 1) + 1) + 1) + 1) + 1) + 1) then (rf_nn l0 fun k181 => ((rf_aI h k181 (rf_w (l3 + 1))).bind fun x182 => (rf_nn l0 fun k183 => ((rf_aI h k183 (rf_w (l3 + 2))).bind fun x184 => (rf_nn l1 fun k185 => (bif rf_isO h.1 k185 4 then ((rf_call d 90 [.inr (.inr (some k185)), .inl x182, .inl x184] h).bind fun q187 => rf_kI q187 fun x188 h186 => (rf_nn l0 fun k189 => ((rf_aI h186 k189 (rf_w (l3 + 1))).bind fun x190 => (rf_nn l0 fun k191 => ((rf_aI h186 k191 (rf_w (l3 + 2))).bind fun x192 => (rf_nn l2 fun k193 => (bif rf_isO h186.1 k193 5 then ((rf_call d 173 [.inr (.inr (some k193)), .inl x190, .inl x192] h186).bind fun q195 => rf_kI q195 fun x196 h194 => (if x188 = x196 then rf_j_L_law_1204 d l0 l1 l2 l3 h194 else some (some (.inl 0), h194))) else none))))))) else none)))))) else (if (rf_and x4 63) = ((((((((((((((((((((((((0 + 1) + 1) + 1) + 1) + 1) + 1) + 1) + 1) + 1) + 1) + 1) + 1) + 1) + 1) + 1) + 1) + 1) + 1) + 1) + 1) + 1) + 1) + 1) + 1) then (rf_nn l0 fun k169 => ((rf_aI h k169 (rf_w (l3 + 1))).bind fun x170 => (rf_nn l1 fun k171 => (bif rf_isO h.1 k171 4 then ((rf_call d 91 [.inr (.inr (some k171)), .inl x170] h).bind fun q173 => rf_kI q173 fun x174 h172 => (rf_nn l0 fun k175 => ((rf_aI h172 k175 (rf_w (l3 + 1))).bind fun x176 => (rf_nn l2 fun k177 => (bif rf_isO h172.1 k177 5 then ((rf_call d 177 [.inr (.inr (some k177)), .inl x176] h172).bind fun q179 => rf_kI q179 fun x180 h178 => (if x174 = x180 then rf_j_L_law_1204 d l0 l1 l2 l3 h178 else some (some (.inl 0), h178))) else none))))) else none)))) else (if (rf_and x4 63) = (((((((((((((((((((((((((0 + 1) + 1) + 1) + 1) + 1) + 1) + 1) + 1) + 1) + 1) + 1) + 1) + 1) + 1) + 1) + 1) + 1) + 1) + 1) + 1) + 1) + 1) + 1) + 1) + 1) then (rf_nn l0 fun k157 => ((rf_aI h k157 (rf_w (l3 + 1))).bind fun x158 => (rf_nn l1 fun k159 => (bif rf_isO h.1 k159 4 then ((rf_call d 92 [.inr (.inr (some k159)), .inl x158] h).bind fun q161 => rf_kI q161 fun x162 h160 => (rf_nn l0 fun k163 => ((rf_aI h160 k163 (rf_w (l3 + 1))).bind fun x164 => (rf_nn l2 fun k165 => (bif rf_isO h160.1 k165 5 then ((rf_call d 178 [.inr (.inr (some k165)), .inl x164] h160).bind fun q167 => rf_kI q167 fun x168 h166 => (if x162 = x168 then rf_j_L_law_1204 d l0 l1 l2 l3 h166 else some (some (.inl 0), h166))) else none))))) else none)))) else (if (rf_and x4 63) = ((((((((((((((((((((((((((0 + 1) + 1) + 1) + 1) + 1) + 1) + 1) + 1) + 1) + 1) + 1) + 1) + 1) + 1) + 1) + 1) + 1) + 1) + 1) + 1) + 1) + 1) + 1) + 1) + 1) + 1) then (rf_nn l1 fun k149 => (bif rf_isO h.1 k149 4 then ((rf_call d 93 [.inr (.inr (some k149))] h).bind fun q151 => rf_kI q151 fun x152 h150 => (rf_nn l2 fun k153 => (bif rf_isO h150.1 k153 5 then ((rf_call d 179 [.inr (.inr (some k153))] h150).bind fun q155 => rf_kI q155 fun x156 h154 => (if x152 = x156 then rf_j_L_law_1204 d l0 l1 l2 l3 h154 else some (some (.inl 0), h154))) else none))) else none)) else (if (rf_and x4 63) = (((((((((((((((((((((((((((0 + 1) + 1) + 1) + 1) + 1) + 1) + 1) + 1) + 1) + 1) + 1) + 1) + 1) + 1) + 1) + 1) + 1) + 1) + 1) + 1) + 1) + 1) + 1) + 1) + 1) + 1) + 1) then (rf_nn l0 fun k129 => ((rf_aI h k129 (rf_w (l3 + 1))).bind fun x130 => (rf_nn l0 fun k131 => ((rf_aI h k131 (rf_w (l3 + 2))).bind fun x132 => (rf_nn l0 fun k133 => ((rf_aI h k133 (rf_w (l3 + 3))).bind fun x134 => (rf_nn l1 fun k135 => (bif rf_isO h.1 k135 4 then ((rf_call d 94 [.inr (.inr (some k135)), .inl x130, .inl x132, .inl x134] h).bind fun q137 => rf_kI q137 fun x138 h136 => (rf_nn l0 fun k139 => ((rf_aI h136 k139 (rf_w (l3 + 1))).bind fun x140 => (rf_nn l0 fun k141 => ((rf_aI h136 k141 (rf_w (l3 + 2))).bind fun x142 => (rf_nn l0 fun k143 => ((rf_aI h136 k143 (rf_w (l3 + 3))).bind fun x144 => (rf_nn l2 fun k145 => (bif rf_isO h136.1 k145 5 then ((rf_call d 180 [.inr (.inr (some k145)), .inl x140, .inl x142, .inl x144] h136).bind fun q147 => rf_kI q147 fun x148 h146 => (if x138 = x148 then rf_j_L_law_1204 d l0 l1 l2 l3 h146 else some (some (.inl 0), h146))) else none))))))))) else none)))))))) else (if (rf_and x4 63) = ((((((((((((((((((((((((((((0 + 1) + 1) + 1) + 1) + 1) + 1) + 1) + 1) + 1) + 1) + 1) + 1) + 1) + 1) + 1) + 1) + 1) + 1) + 1) + 1) + 1) + 1) + 1) + 1) + 1) + 1) + 1) + 1) then (rf_nn l0 fun k117 => ((rf_aI h k117 (rf_w (l3 + 1))).bind fun x118 => (rf_nn l1 fun k119 => (bif rf_isO h.1 k119 4 then ((rf_call d 97 [.inr (.inr (some k119)), .inl x118] h).bind fun q121 => rf_kI q121 fun x122 h120 => (rf_nn l0 fun k123 => ((rf_aI h120 k123 (rf_w (l3 + 1))).bind fun x124 => (rf_nn l2 fun k125 => (bif rf_isO h120.1 k125 5 then ((rf_call d 182 [.inr (.inr (some k125)), .inl x124] h120).bind fun q127 => rf_kI q127 fun x128 h126 => (if x122 = x128 then rf_j_L_law_1204 d l0 l1 l2 l3 h126 else some (some (.inl 0), h126))) else none))))) else none)))) else (if (rf_and x4 63) = (((((((((((((((((((((((((((((0 + 1) + 1) + 1) + 1) + 1) + 1) + 1) + 1) + 1) + 1) + 1) + 1) + 1) + 1) + 1) + 1) + 1) + 1) + 1) + 1) + 1) + 1) + 1) + 1) + 1) + 1) + 1) + 1) + 1) then (rf_nn l0 fun k101 => ((rf_aI h k101 (rf_w (l3 + 1))).bind fun x102 => (rf_nn l0 fun k103 => ((rf_aI h k103 (rf_w (l3 + 2))).bind fun x104 => (rf_nn l1 fun k105 => (bif rf_isO h.1 k105 4 then ((rf_call d 102 [.inr (.inr (some k105)), .inl x102, .inl x104] h).bind fun q107 => rf_kI q107 fun x108 h106 => (rf_nn l0 fun k109 => ((rf_aI h106 k109 (rf_w (l3 + 1))).bind fun x110 => (rf_nn l0 fun k111 => ((rf_aI h106 k111 (rf_w (l3 + 2))).bind fun x112 => (rf_nn l2 fun k113 => (bif rf_isO h106.1 k113 5 then ((rf_call d 186 [.inr (.inr (some k113)), .inl x110, .inl x112] h106).bind fun q115 => rf_kI q115 fun x116 h114 => (if x108 = x116 then rf_j_L_law_1204 d l0 l1 l2 l3 h114 else some (some (.inl 0), h114))) else none))))))) else none)))))) else (if (rf_and x4 63) = ((((((((((((((((((((((((((((((0 + 1) + 1) + 1) + 1) + 1) + 1) + 1) + 1) + 1) + 1) + 1) + 1) + 1) + 1) + 1) + 1) + 1) + 1) + 1) + 1) + 1) + 1) + 1) + 1) + 1) + 1) + 1) + 1) + 1) + 1) then (rf_nn l0 fun k85 => ((rf_aI h k85 (rf_w (l3 + 1))).bind fun x86 => (rf_nn l0 fun k87 => ((rf_aI h k87 (rf_w (l3 + 2))).bind fun x88 => (rf_nn l1 fun k89 => (bif rf_isO h.1 k89 4 then ((rf_call d 103 [.inr (.inr (some k89)), .inl x86, .inl x88] h).bind fun q91 => rf_kI q91 fun x92 h90 => (rf_nn l0 fun k93 => ((rf_aI h90 k93 (rf_w (l3 + 1))).bind fun x94 => (rf_nn l0 fun k95 => ((rf_aI h90 k95 (rf_w (l3 + 2))).bind fun x96 => (rf_nn l2 fun k97 => (bif rf_isO h90.1 k97 5 then ((rf_call d 187 [.inr (.inr (some k97)), .inl x94, .inl x96] h90).bind fun q99 => rf_kI q99 fun x100 h98 => (if x92 = x100 then rf_j_L_law_1204 d l0 l1 l2 l3 h98 else some (some (.inl 0), h98))) else none))))))) else none)))))) else (if (rf_and x4 63) = (((((((((((((((((((((((((((((((0 + 1) + 1) + 1) + 1) + 1) + 1) + 1) + 1) + 1) + 1) + 1) + 1) + 1) + 1) + 1) + 1) + 1) + 1) + 1) + 1) + 1) + 1) + 1) + 1) + 1) + 1) + 1) + 1) + 1) + 1) + 1) then (rf_nn l0 fun k69 => ((rf_aI h k69 (rf_w (l3 + 1))).bind fun x70 => (rf_nn l0 fun k71 => ((rf_aI h k71 (rf_w (l3 + 2))).bind fun x72 => (rf_nn l1 fun k73 => (bif rf_isO h.1 k73 4 then ((rf_call d 104 [.inr (.inr (some k73)), .inl x70, .inl x72] h).bind fun q75 => rf_kI q75 fun x76 h74 => (rf_nn l0 fun k77 => ((rf_aI h74 k77 (rf_w (l3 + 1))).bind fun x78 => (rf_nn l0 fun k79 => ((rf_aI h74 k79 (rf_w (l3 + 2))).bind fun x80 => (rf_nn l2 fun k81 => (bif rf_isO h74.1 k81 5 then ((rf_call d 188 [.inr (.inr (some k81)), .inl x78, .inl x80] h74).bind fun q83 => rf_kI q83 fun x84 h82 => (if x76 = x84 then rf_j_L_law_1204 d l0 l1 l2 l3 h82 else some (some (.inl 0), h82))) else none))))))) else none)))))) else (if (rf_and x4 63) = ((((((((((((((((((((((((((((((((0 + 1) + 1) + 1) + 1) + 1) + 1) + 1) + 1) + 1) + 1) + 1) + 1) + 1) + 1) + 1) + 1) + 1) + 1) + 1) + 1) + 1) + 1) + 1) + 1) + 1) + 1) + 1) + 1) + 1) + 1) + 1) + 1) then (rf_nn l1 fun k61 => (bif rf_isO h.1 k61 4 then ((rf_call d 105 [.inr (.inr (some k61))] h).bind fun q63 => rf_kI q63 fun x64 h62 => (rf_nn l2 fun k65 => (bif rf_isO h62.1 k65 5 then ((rf_call d 189 [.inr (.inr (some k65))] h62).bind fun q67 => rf_kI q67 fun x68 h66 => (if x64 = x68 then rf_j_L_law_1204 d l0 l1 l2 l3 h66 else some (some (.inl 0), h66))) else none))) else none)) else (if (rf_and x4 63) = (((((((((((((((((((((((((((((((((0 + 1) + 1) + 1) + 1) + 1) + 1) + 1) + 1) + 1) + 1) + 1) + 1) + 1) + 1) + 1) + 1) + 1) + 1) + 1) + 1) + 1) + 1) + 1) + 1) + 1) + 1) + 1) + 1) + 1) + 1) + 1) + 1) + 1) then (rf_nn l1 fun k53 => (bif rf_isO h.1 k53 4 then ((rf_call d 106 [.inr (.inr (some k53))] h).bind fun q55 => rf_kL q55 fun x56 h54 => (rf_nn l2 fun k57 => (bif rf_isO h54.1 k57 5 then ((rf_call d 190 [.inr (.inr (some k57))] h54).bind fun q59 => rf_kL q59 fun x60 h58 => (if (rf_cmp x56 x60) = 0 then rf_j_L_law_1204 d l0 l1 l2 l3 h58 else some (some (.inl 0), h58))) else none))) else none)) else (if (rf_and x4 63) = ((((((((((((((((((((((((((((((((((0 + 1) + 1) + 1) + 1) + 1) + 1) + 1) + 1) + 1) + 1) + 1) + 1) + 1) + 1) + 1) + 1) + 1) + 1) + 1) + 1) + 1) + 1) + 1) + 1) + 1) + 1) + 1) + 1) + 1) + 1) + 1) + 1) + 1) + 1) then (rf_nn l1 fun k45 => (bif rf_isO h.1 k45 4 then ((rf_call d 107 [.inr (.inr (some k45))] h).bind fun q47 => rf_kL q47 fun x48 h46 => (rf_nn l2 fun k49 => (bif rf_isO h46.1 k49 5 then ((rf_call d 191 [.inr (.inr (some k49))] h46).bind fun q51 => rf_kL q51 fun x52 h50 => (if (rf_cmp x48 x52) = 0 then rf_j_L_law_1204 d l0 l1 l2 l3 h50 else some (some (.inl 0), h50))) else none))) else none)) else (if (rf_and x4 63) = (((((((((((((((((((((((((((((((((((0 + 1) + 1) + 1) + 1) + 1) + 1) + 1) + 1) + 1) + 1) + 1) + 1) + 1) + 1) + 1) + 1) + 1) + 1) + 1) + 1) + 1) + 1) + 1) + 1) + 1) + 1) + 1) + 1) + 1) + 1) + 1) + 1) + 1) + 1) + 1) then (rf_nn l0 fun k33 => ((rf_aI h k33 (rf_w (l3 + 1))).bind fun x34 => (rf_nn l1 fun k35 => (bif rf_isO h.1 k35 4 then ((rf_call d 108 [.inr (.inr (some k35)), .inl x34] h).bind fun q37 => rf_kI q37 fun x38 h36 => (rf_nn l0 fun k39 => ((rf_aI h36 k39 (rf_w (l3 + 1))).bind fun x40 => (rf_nn l2 fun k41 => (bif rf_isO h36.1 k41 5 then ((rf_call d 192 [.inr (.inr (some k41)), .inl x40] h36).bind fun q43 => rf_kI q43 fun x44 h42 => (if x38 = x44 then rf_j_L_law_1204 d l0 l1 l2 l3 h42 else some (some (.inl 0), h42))) else none))))) else none)))) else (if (rf_and x4 63) = ((((((((((((((((((((((((((((((((((((0 + 1) + 1) + 1) + 1) + 1) + 1) + 1) + 1) + 1) + 1) + 1) + 1) + 1) + 1) + 1) + 1) + 1) + 1) + 1) + 1) + 1) + 1) + 1) + 1) + 1) + 1) + 1) + 1) + 1) + 1) + 1) + 1) + 1) + 1) + 1) + 1) then (rf_nn l1 fun k25 => (bif rf_isO h.1 k25 4 then ((rf_call d 111 [.inr (.inr (some k25))] h).bind fun q27 => rf_kI q27 fun x28 h26 => (rf_nn l2 fun k29 => (bif rf_isO h26.1 k29 5 then ((rf_call d 194 [.inr (.inr (some k29))] h26).bind fun q31 => rf_kI q31 fun x32 h30 => (if x28 = x32 then rf_j_L_law_1204 d l0 l1 l2 l3 h30 else some (some (.inl 0), h30))) else none))) else none)) else (if (rf_and x4 63) = (((((((((((((((((((((((((((((((((((((0 + 1) + 1) + 1) + 1) + 1) + 1) + 1) + 1) + 1) + 1) + 1) + 1) + 1) + 1) + 1) + 1) + 1) + 1) + 1) + 1) + 1) + 1) + 1) + 1) + 1) + 1) + 1) + 1) + 1) + 1) + 1) + 1) + 1) + 1) + 1) + 1) + 1) then (rf_nn l0 fun k13 => ((rf_aI h k13 (rf_w (l3 + 1))).bind fun x14 => (rf_nn l1 fun k15 => (bif rf_isO h.1 k15 4 then ((rf_call d 112 [.inr (.inr (some k15)), .inl x14] h).bind fun q17 => rf_kI q17 fun x18 h16 => (rf_nn l0 fun k19 => ((rf_aI h16 k19 (rf_w (l3 + 1))).bind fun x20 => (rf_nn l2 fun k21 => (bif rf_isO h16.1 k21 5 then ((rf_call d 195 [.inr (.inr (some k21)), .inl x20] h16).bind fun q23 => rf_kI q23 fun x24 h22 => (if x18 = x24 then rf_j_L_law_1204 d l0 l1 l2 l3 h22 else some (some (.inl 0), h22))) else none))))) else none)))) else (if (rf_and x4 63) = ((((((((((((((((((((((((((((((((((((((0 + 1) + 1) + 1) + 1) + 1) + 1) + 1) + 1) + 1) + 1) + 1) + 1) + 1) + 1) + 1) + 1) + 1) + 1) + 1) + 1) + 1) + 1) + 1) + 1) + 1) + 1) + 1) + 1) + 1) + 1) + 1) + 1) + 1) + 1) + 1) + 1) + 1) + 1) then (rf_nn l1 fun k5 => (bif rf_isO h.1 k5 4 then ((rf_call d 113 [.inr (.inr (some k5))] h).bind fun q7 => rf_kL q7 fun x8 h6 => (rf_nn l2 fun k9 => (bif rf_isO h6.1 k9 5 then ((rf_call d 196 [.inr (.inr (some k9))] h6).bind fun q11 => rf_kL q11 fun x12 h10 => (if (rf_cmp x8 x12) = 0 then rf_j_L_law_1204 d l0 l1 l2 l3 h10 else some (some (.inl 0), h10))) else none))) else none)) else rf_j_L_law_1204 d l0 l1 l2 l3 h)))))))))))))))))))))))))))))))))))))))))))) :=
  ((rf_s_iload_n rf_f_L_law_18 rfl (rf_m0 _) (rf_s_aload_n rf_f_L_law_19 rfl (rf_m0 _) (rf_s_alenR rf_f_L_law_20 (rf_m0 _) fun k1 x2 => (rf_s_bipush rf_f_L_law_21 (rf_m0 _) (rf_s_isub rf_f_L_law_23 (rf_m0 _) (rf_s_icmp_gt rf_f_L_law_24 rfl (rf_m0 _) (rf_m0 _) (rf_s_iconst rf_f_L_law_1210 (rf_m0 _) (rf_s_zretK rf_f_L_law_1211 (by decide))) (rf_s_aload_n rf_f_L_law_27 rfl (rf_m0 _) (rf_s_iload_n rf_f_L_law_28 rfl (rf_m0 _) (rf_s_ialdR rf_f_L_law_29 (rf_m0 _) fun k3 x4 => (rf_s_bipush rf_f_L_law_30 (rf_m0 _) (rf_s_iand rf_f_L_law_32 (rf_m0 _) (rf_s_tsw rf_f_L_law_33 (rf_tsw_c (rf_tsw_g rfl (rf_m0 _) (rf_s_aload_n rf_f_L_law_204 rfl (rf_m0 _) (rf_s_aload_n rf_f_L_law_205 rfl (rf_m0 _) (rf_s_iload_n rf_f_L_law_206 rfl (rf_m0 _) (rf_s_iconst rf_f_L_law_207 (rf_m0 _) (rf_s_iadd rf_f_L_law_208 (rf_m0 _) (rf_s_ialdR rf_f_L_law_209 (rf_m0 _) fun k497 x498 => (rf_s_aload_n rf_f_L_law_210 rfl (rf_m0 _) (rf_s_iload_n rf_f_L_law_211 rfl (rf_m0 _) (rf_s_iconst rf_f_L_law_212 (rf_m0 _) (rf_s_iadd rf_f_L_law_213 (rf_m0 _) (rf_s_ialdR rf_f_L_law_214 (rf_m0 _) fun k499 x500 => (rf_s_invV0R rf_f_L_law_215 rfl rfl (rf_m0 _) fun k501 q503 x504 h502 => (rf_s_aload_n rf_f_L_law_218 rfl (rf_m0 _) (rf_s_aload_n rf_f_L_law_219 rfl (rf_m0 _) (rf_s_iload_n rf_f_L_law_220 rfl (rf_m0 _) (rf_s_iconst rf_f_L_law_221 (rf_m0 _) (rf_s_iadd rf_f_L_law_222 (rf_m0 _) (rf_s_ialdR rf_f_L_law_223 (rf_m0 _) fun k505 x506 => (rf_s_aload_n rf_f_L_law_224 rfl (rf_m0 _) (rf_s_iload_n rf_f_L_law_225 rfl (rf_m0 _) (rf_s_iconst rf_f_L_law_226 (rf_m0 _) (rf_s_iadd rf_f_L_law_227 (rf_m0 _) (rf_s_ialdR rf_f_L_law_228 (rf_m0 _) fun k507 x508 => (rf_s_invV0R rf_f_L_law_229 rfl rfl (rf_m0 _) fun k509 q511 x512 h510 => (rf_s_icmp_eq rf_f_L_law_232 rfl rfl (rf_m0 _) rfl (rf_s_iconst rf_f_L_law_235 (rf_m0 _) (rf_s_zretK rf_f_L_law_236 (by decide))))))))))))))))))))))))))))) (rf_tsw_c (rf_tsw_g rfl (rf_m0 _) (rf_s_aload_n rf_f_L_law_237 rfl (rf_m0 _) (rf_s_aload_n rf_f_L_law_238 rfl (rf_m0 _) (rf_s_iload_n rf_f_L_law_239 rfl (rf_m0 _) (rf_s_iconst rf_f_L_law_240 (rf_m0 _) (rf_s_iadd rf_f_L_law_241 (rf_m0 _) (rf_s_ialdR rf_f_L_law_242 (rf_m0 _) fun k477 x478 => (rf_s_aload_n rf_f_L_law_243 rfl (rf_m0 _) (rf_s_iload_n rf_f_L_law_244 rfl (rf_m0 _) (rf_s_iconst rf_f_L_law_245 (rf_m0 _) (rf_s_iadd rf_f_L_law_246 (rf_m0 _) (rf_s_ialdR rf_f_L_law_247 (rf_m0 _) fun k479 x480 => (rf_s_aload_n rf_f_L_law_248 rfl (rf_m0 _) (rf_s_iload_n rf_f_L_law_249 rfl (rf_m0 _) (rf_s_iconst rf_f_L_law_250 (rf_m0 _) (rf_s_iadd rf_f_L_law_251 (rf_m0 _) (rf_s_ialdR rf_f_L_law_252 (rf_m0 _) fun k481 x482 => (rf_s_invV0R rf_f_L_law_253 rfl rfl (rf_m0 _) fun k483 q485 x486 h484 => (rf_s_aload_n rf_f_L_law_256 rfl (rf_m0 _) (rf_s_aload_n rf_f_L_law_257 rfl (rf_m0 _) (rf_s_iload_n rf_f_L_law_258 rfl (rf_m0 _) (rf_s_iconst rf_f_L_law_259 (rf_m0 _) (rf_s_iadd rf_f_L_law_260 (rf_m0 _) (rf_s_ialdR rf_f_L_law_261 (rf_m0 _) fun k487 x488 => (rf_s_aload_n rf_f_L_law_262 rfl (rf_m0 _) (rf_s_iload_n rf_f_L_law_263 rfl (rf_m0 _) (rf_s_iconst rf_f_L_law_264 (rf_m0 _) (rf_s_iadd rf_f_L_law_265 (rf_m0 _) (rf_s_ialdR rf_f_L_law_266 (rf_m0 _) fun k489 x490 => (rf_s_aload_n rf_f_L_law_267 rfl (rf_m0 _) (rf_s_iload_n rf_f_L_law_268 rfl (rf_m0 _) (rf_s_iconst rf_f_L_law_269 (rf_m0 _) (rf_s_iadd rf_f_L_law_270 (rf_m0 _) (rf_s_ialdR rf_f_L_law_271 (rf_m0 _) fun k491 x492 => (rf_s_invV0R rf_f_L_law_272 rfl rfl (rf_m0 _) fun k493 q495 x496 h494 => (rf_s_icmp_eq rf_f_L_law_275 rfl rfl (rf_m0 _) rfl (rf_s_iconst rf_f_L_law_278 (rf_m0 _) (rf_s_zretK rf_f_L_law_279 (by decide))))))))))))))))))))))))))))))))))))))) (rf_tsw_c (rf_tsw_g rfl (rf_m0 _) (rf_s_aload_n rf_f_L_law_280 rfl (rf_m0 _) (rf_s_aload_n rf_f_L_law_281 rfl (rf_m0 _) (rf_s_iload_n rf_f_L_law_282 rfl (rf_m0 _) (rf_s_iconst rf_f_L_law_283 (rf_m0 _) (rf_s_iadd rf_f_L_law_284 (rf_m0 _) (rf_s_ialdR rf_f_L_law_285 (rf_m0 _) fun k461 x462 => (rf_s_aload_n rf_f_L_law_286 rfl (rf_m0 _) (rf_s_iload_n rf_f_L_law_287 rfl (rf_m0 _) (rf_s_iconst rf_f_L_law_288 (rf_m0 _) (rf_s_iadd rf_f_L_law_289 (rf_m0 _) (rf_s_ialdR rf_f_L_law_290 (rf_m0 _) fun k463 x464 => (rf_s_invV0R rf_f_L_law_291 rfl rfl (rf_m0 _) fun k465 q467 x468 h466 => (rf_s_aload_n rf_f_L_law_294 rfl (rf_m0 _) (rf_s_aload_n rf_f_L_law_295 rfl (rf_m0 _) (rf_s_iload_n rf_f_L_law_296 rfl (rf_m0 _) (rf_s_iconst rf_f_L_law_297 (rf_m0 _) (rf_s_iadd rf_f_L_law_298 (rf_m0 _) (rf_s_ialdR rf_f_L_law_299 (rf_m0 _) fun k469 x470 => (rf_s_aload_n rf_f_L_law_300 rfl (rf_m0 _) (rf_s_iload_n rf_f_L_law_301 rfl (rf_m0 _) (rf_s_iconst rf_f_L_law_302 (rf_m0 _) (rf_s_iadd rf_f_L_law_303 (rf_m0 _) (rf_s_ialdR rf_f_L_law_304 (rf_m0 _) fun k471 x472 => (rf_s_invV0R rf_f_L_law_305 rfl rfl (rf_m0 _) fun k473 q475 x476 h474 => (rf_s_icmp_eq rf_f_L_law_308 rfl rfl (rf_m0 _) rfl (rf_s_iconst rf_f_L_law_311 (rf_m0 _) (rf_s_zretK rf_f_L_law_312 (by decide))))))))))))))))))))))))))))) (rf_tsw_c (rf_tsw_g rfl (rf_m0 _) (rf_s_aload_n rf_f_L_law_313 rfl (rf_m0 _) (rf_s_aload_n rf_f_L_law_314 rfl (rf_m0 _) (rf_s_iload_n rf_f_L_law_315 rfl (rf_m0 _) (rf_s_iconst rf_f_L_law_316 (rf_m0 _) (rf_s_iadd rf_f_L_law_317 (rf_m0 _) (rf_s_ialdR rf_f_L_law_318 (rf_m0 _) fun k449 x450 => (rf_s_invV0R rf_f_L_law_319 rfl rfl (rf_m0 _) fun k451 q453 x454 h452 => (rf_s_aload_n rf_f_L_law_322 rfl (rf_m0 _) (rf_s_aload_n rf_f_L_law_323 rfl (rf_m0 _) (rf_s_iload_n rf_f_L_law_324 rfl (rf_m0 _) (rf_s_iconst rf_f_L_law_325 (rf_m0 _) (rf_s_iadd rf_f_L_law_326 (rf_m0 _) (rf_s_ialdR rf_f_L_law_327 (rf_m0 _) fun k455 x456 => (rf_s_invV0R rf_f_L_law_328 rfl rfl (rf_m0 _) fun k457 q459 x460 h458 => (rf_s_icmp_eq rf_f_L_law_331 rfl rfl (rf_m0 _) rfl (rf_s_iconst rf_f_L_law_334 (rf_m0 _) (rf_s_zretK rf_f_L_law_335 (by decide))))))))))))))))))) (rf_tsw_c (rf_tsw_g rfl (rf_m0 _) (rf_s_aload_n rf_f_L_law_336 rfl (rf_m0 _) (rf_s_aload_n rf_f_L_law_337 rfl (rf_m0 _) (rf_s_iload_n rf_f_L_law_338 rfl (rf_m0 _) (rf_s_iconst rf_f_L_law_339 (rf_m0 _) (rf_s_iadd rf_f_L_law_340 (rf_m0 _) (rf_s_ialdR rf_f_L_law_341 (rf_m0 _) fun k421 x422 => (rf_s_aload_n rf_f_L_law_342 rfl (rf_m0 _) (rf_s_iload_n rf_f_L_law_343 rfl (rf_m0 _) (rf_s_iconst rf_f_L_law_344 (rf_m0 _) (rf_s_iadd rf_f_L_law_345 (rf_m0 _) (rf_s_ialdR rf_f_L_law_346 (rf_m0 _) fun k423 x424 => (rf_s_aload_n rf_f_L_law_347 rfl (rf_m0 _) (rf_s_iload_n rf_f_L_law_348 rfl (rf_m0 _) (rf_s_iconst rf_f_L_law_349 (rf_m0 _) (rf_s_iadd rf_f_L_law_350 (rf_m0 _) (rf_s_ialdR rf_f_L_law_351 (rf_m0 _) fun k425 x426 => (rf_s_aload_n rf_f_L_law_352 rfl (rf_m0 _) (rf_s_iload_n rf_f_L_law_353 rfl (rf_m0 _) (rf_s_iconst rf_f_L_law_354 (rf_m0 _) (rf_s_iadd rf_f_L_law_355 (rf_m0 _) (rf_s_ialdR rf_f_L_law_356 (rf_m0 _) fun k427 x428 => (rf_s_aload_n rf_f_L_law_357 rfl (rf_m0 _) (rf_s_iload_n rf_f_L_law_358 rfl (rf_m0 _) (rf_s_iconst rf_f_L_law_359 (rf_m0 _) (rf_s_iadd rf_f_L_law_360 (rf_m0 _) (rf_s_ialdR rf_f_L_law_361 (rf_m0 _) fun k429 x430 => (rf_s_invV0R rf_f_L_law_362 rfl rfl (rf_m0 _) fun k431 q433 x434 h432 => (rf_s_aload_n rf_f_L_law_365 rfl (rf_m0 _) (rf_s_aload_n rf_f_L_law_366 rfl (rf_m0 _) (rf_s_iload_n rf_f_L_law_367 rfl (rf_m0 _) (rf_s_iconst rf_f_L_law_368 (rf_m0 _) (rf_s_iadd rf_f_L_law_369 (rf_m0 _) (rf_s_ialdR rf_f_L_law_370 (rf_m0 _) fun k435 x436 => (rf_s_aload_n rf_f_L_law_371 rfl (rf_m0 _) (rf_s_iload_n rf_f_L_law_372 rfl (rf_m0 _) (rf_s_iconst rf_f_L_law_373 (rf_m0 _) (rf_s_iadd rf_f_L_law_374 (rf_m0 _) (rf_s_ialdR rf_f_L_law_375 (rf_m0 _) fun k437 x438 => (rf_s_aload_n rf_f_L_law_376 rfl (rf_m0 _) (rf_s_iload_n rf_f_L_law_377 rfl (rf_m0 _) (rf_s_iconst rf_f_L_law_378 (rf_m0 _) (rf_s_iadd rf_f_L_law_379 (rf_m0 _) (rf_s_ialdR rf_f_L_law_380 (rf_m0 _) fun k439 x440 => (rf_s_aload_n rf_f_L_law_381 rfl (rf_m0 _) (rf_s_iload_n rf_f_L_law_382 rfl (rf_m0 _) (rf_s_iconst rf_f_L_law_383 (rf_m0 _) (rf_s_iadd rf_f_L_law_384 (rf_m0 _) (rf_s_ialdR rf_f_L_law_385 (rf_m0 _) fun k441 x442 => (rf_s_aload_n rf_f_L_law_386 rfl (rf_m0 _) (rf_s_iload_n rf_f_L_law_387 rfl (rf_m0 _) (rf_s_iconst rf_f_L_law_388 (rf_m0 _) (rf_s_iadd rf_f_L_law_389 (rf_m0 _) (rf_s_ialdR rf_f_L_law_390 (rf_m0 _) fun k443 x444 => (rf_s_invV0R rf_f_L_law_391 rfl rfl (rf_m0 _) fun k445 q447 x448 h446 => (rf_s_icmp_eq rf_f_L_law_394 rfl rfl (rf_m0 _) rfl (rf_s_iconst rf_f_L_law_397 (rf_m0 _) (rf_s_zretK rf_f_L_law_398 (by decide))))))))))))))))))))))))))))))))))))))))))))))))))))))))))) (rf_tsw_c (rf_tsw_g rfl (rf_m0 _) (rf_s_aload_n rf_f_L_law_399 rfl (rf_m0 _) (rf_s_aload_n rf_f_L_law_400 rfl (rf_m0 _) (rf_s_iload_n rf_f_L_law_401 rfl (rf_m0 _) (rf_s_iconst rf_f_L_law_402 (rf_m0 _) (rf_s_iadd rf_f_L_law_403 (rf_m0 _) (rf_s_ialdR rf_f_L_law_404 (rf_m0 _) fun k409 x410 => (rf_s_invV0R rf_f_L_law_405 rfl rfl (rf_m0 _) fun k411 q413 x414 h412 => (rf_s_aload_n rf_f_L_law_408 rfl (rf_m0 _) (rf_s_aload_n rf_f_L_law_409 rfl (rf_m0 _) (rf_s_iload_n rf_f_L_law_410 rfl (rf_m0 _) (rf_s_iconst rf_f_L_law_411 (rf_m0 _) (rf_s_iadd rf_f_L_law_412 (rf_m0 _) (rf_s_ialdR rf_f_L_law_413 (rf_m0 _) fun k415 x416 => (rf_s_invV0R rf_f_L_law_414 rfl rfl (rf_m0 _) fun k417 q419 x420 h418 => (rf_s_icmp_eq rf_f_L_law_417 rfl rfl (rf_m0 _) rfl (rf_s_iconst rf_f_L_law_420 (rf_m0 _) (rf_s_zretK rf_f_L_law_421 (by decide))))))))))))))))))) (rf_tsw_c (rf_tsw_g rfl (rf_m0 _) (rf_s_aload_n rf_f_L_law_422 rfl (rf_m0 _) (rf_s_aload_n rf_f_L_law_423 rfl (rf_m0 _) (rf_s_iload_n rf_f_L_law_424 rfl (rf_m0 _) (rf_s_iconst rf_f_L_law_425 (rf_m0 _) (rf_s_iadd rf_f_L_law_426 (rf_m0 _) (rf_s_ialdR rf_f_L_law_427 (rf_m0 _) fun k393 x394 => (rf_s_aload_n rf_f_L_law_428 rfl (rf_m0 _) (rf_s_iload_n rf_f_L_law_429 rfl (rf_m0 _) (rf_s_iconst rf_f_L_law_430 (rf_m0 _) (rf_s_iadd rf_f_L_law_431 (rf_m0 _) (rf_s_ialdR rf_f_L_law_432 (rf_m0 _) fun k395 x396 => (rf_s_invV0R rf_f_L_law_433 rfl rfl (rf_m0 _) fun k397 q399 x400 h398 => (rf_s_aload_n rf_f_L_law_436 rfl (rf_m0 _) (rf_s_aload_n rf_f_L_law_437 rfl (rf_m0 _) (rf_s_iload_n rf_f_L_law_438 rfl (rf_m0 _) (rf_s_iconst rf_f_L_law_439 (rf_m0 _) (rf_s_iadd rf_f_L_law_440 (rf_m0 _) (rf_s_ialdR rf_f_L_law_441 (rf_m0 _) fun k401 x402 => (rf_s_aload_n rf_f_L_law_442 rfl (rf_m0 _) (rf_s_iload_n rf_f_L_law_443 rfl (rf_m0 _) (rf_s_iconst rf_f_L_law_444 (rf_m0 _) (rf_s_iadd rf_f_L_law_445 (rf_m0 _) (rf_s_ialdR rf_f_L_law_446 (rf_m0 _) fun k403 x404 => (rf_s_invV0R rf_f_L_law_447 rfl rfl (rf_m0 _) fun k405 q407 x408 h406 => (rf_s_icmp_eq rf_f_L_law_450 rfl rfl (rf_m0 _) rfl (rf_s_iconst rf_f_L_law_453 (rf_m0 _) (rf_s_zretK rf_f_L_law_454 (by decide))))))))))))))))))))))))))))) (rf_tsw_c (rf_tsw_g rfl (rf_m0 _) (rf_s_aload_n rf_f_L_law_455 rfl (rf_m0 _) (rf_s_aload_n rf_f_L_law_456 rfl (rf_m0 _) (rf_s_iload_n rf_f_L_law_457 rfl (rf_m0 _) (rf_s_iconst rf_f_L_law_458 (rf_m0 _) (rf_s_iadd rf_f_L_law_459 (rf_m0 _) (rf_s_ialdR rf_f_L_law_460 (rf_m0 _) fun k373 x374 => (rf_s_aload_n rf_f_L_law_461 rfl (rf_m0 _) (rf_s_iload_n rf_f_L_law_462 rfl (rf_m0 _) (rf_s_iconst rf_f_L_law_463 (rf_m0 _) (rf_s_iadd rf_f_L_law_464 (rf_m0 _) (rf_s_ialdR rf_f_L_law_465 (rf_m0 _) fun k375 x376 => (rf_s_aload_n rf_f_L_law_466 rfl (rf_m0 _) (rf_s_iload_n rf_f_L_law_467 rfl (rf_m0 _) (rf_s_iconst rf_f_L_law_468 (rf_m0 _) (rf_s_iadd rf_f_L_law_469 (rf_m0 _) (rf_s_ialdR rf_f_L_law_470 (rf_m0 _) fun k377 x378 => (rf_s_invV0R rf_f_L_law_471 rfl rfl (rf_m0 _) fun k379 q381 x382 h380 => (rf_s_aload_n rf_f_L_law_474 rfl (rf_m0 _) (rf_s_aload_n rf_f_L_law_475 rfl (rf_m0 _) (rf_s_iload_n rf_f_L_law_476 rfl (rf_m0 _) (rf_s_iconst rf_f_L_law_477 (rf_m0 _) (rf_s_iadd rf_f_L_law_478 (rf_m0 _) (rf_s_ialdR rf_f_L_law_479 (rf_m0 _) fun k383 x384 => (rf_s_aload_n rf_f_L_law_480 rfl (rf_m0 _) (rf_s_iload_n rf_f_L_law_481 rfl (rf_m0 _) (rf_s_iconst rf_f_L_law_482 (rf_m0 _) (rf_s_iadd rf_f_L_law_483 (rf_m0 _) (rf_s_ialdR rf_f_L_law_484 (rf_m0 _) fun k385 x386 => (rf_s_aload_n rf_f_L_law_485 rfl (rf_m0 _) (rf_s_iload_n rf_f_L_law_486 rfl (rf_m0 _) (rf_s_iconst rf_f_L_law_487 (rf_m0 _) (rf_s_iadd rf_f_L_law_488 (rf_m0 _) (rf_s_ialdR rf_f_L_law_489 (rf_m0 _) fun k387 x388 => (rf_s_invV0R rf_f_L_law_490 rfl rfl (rf_m0 _) fun k389 q391 x392 h390 => (rf_s_icmp_eq rf_f_L_law_493 rfl rfl (rf_m0 _) rfl (rf_s_iconst rf_f_L_law_496 (rf_m0 _) (rf_s_zretK rf_f_L_law_497 (by decide))))))))))))))))))))))))))))))))))))))) (rf_tsw_c (rf_tsw_g rfl (rf_m0 _) (rf_s_aload_n rf_f_L_law_498 rfl (rf_m0 _) (rf_s_aload_n rf_f_L_law_499 rfl (rf_m0 _) (rf_s_iload_n rf_f_L_law_500 rfl (rf_m0 _) (rf_s_iconst rf_f_L_law_501 (rf_m0 _) (rf_s_iadd rf_f_L_law_502 (rf_m0 _) (rf_s_ialdR rf_f_L_law_503 (rf_m0 _) fun k361 x362 => (rf_s_invV0R rf_f_L_law_504 rfl rfl (rf_m0 _) fun k363 q365 x366 h364 => (rf_s_aload_n rf_f_L_law_507 rfl (rf_m0 _) (rf_s_aload_n rf_f_L_law_508 rfl (rf_m0 _) (rf_s_iload_n rf_f_L_law_509 rfl (rf_m0 _) (rf_s_iconst rf_f_L_law_510 (rf_m0 _) (rf_s_iadd rf_f_L_law_511 (rf_m0 _) (rf_s_ialdR rf_f_L_law_512 (rf_m0 _) fun k367 x368 => (rf_s_invV0R rf_f_L_law_513 rfl rfl (rf_m0 _) fun k369 q371 x372 h370 => (rf_s_icmp_eq rf_f_L_law_516 rfl rfl (rf_m0 _) rfl (rf_s_iconst rf_f_L_law_519 (rf_m0 _) (rf_s_zretK rf_f_L_law_520 (by decide))))))))))))))))))) (rf_tsw_c (rf_tsw_g rfl (rf_m0 _) (rf_s_aload_n rf_f_L_law_521 rfl (rf_m0 _) (rf_s_aload_n rf_f_L_law_522 rfl (rf_m0 _) (rf_s_iload_n rf_f_L_law_523 rfl (rf_m0 _) (rf_s_iconst rf_f_L_law_524 (rf_m0 _) (rf_s_iadd rf_f_L_law_525 (rf_m0 _) (rf_s_ialdR rf_f_L_law_526 (rf_m0 _) fun k349 x350 => (rf_s_invV0R rf_f_L_law_527 rfl rfl (rf_m0 _) fun k351 q353 x354 h352 => (rf_s_aload_n rf_f_L_law_530 rfl (rf_m0 _) (rf_s_aload_n rf_f_L_law_531 rfl (rf_m0 _) (rf_s_iload_n rf_f_L_law_532 rfl (rf_m0 _) (rf_s_iconst rf_f_L_law_533 (rf_m0 _) (rf_s_iadd rf_f_L_law_534 (rf_m0 _) (rf_s_ialdR rf_f_L_law_535 (rf_m0 _) fun k355 x356 => (rf_s_invV0R rf_f_L_law_536 rfl rfl (rf_m0 _) fun k357 q359 x360 h358 => (rf_s_icmp_eq rf_f_L_law_539 rfl rfl (rf_m0 _) rfl (rf_s_iconst rf_f_L_law_542 (rf_m0 _) (rf_s_zretK rf_f_L_law_543 (by decide))))))))))))))))))) (rf_tsw_c (rf_tsw_g rfl (rf_m0 _) (rf_s_aload_n rf_f_L_law_544 rfl (rf_m0 _) (rf_s_aload_n rf_f_L_law_545 rfl (rf_m0 _) (rf_s_iload_n rf_f_L_law_546 rfl (rf_m0 _) (rf_s_iconst rf_f_L_law_547 (rf_m0 _) (rf_s_iadd rf_f_L_law_548 (rf_m0 _) (rf_s_ialdR rf_f_L_law_549 (rf_m0 _) fun k333 x334 => (rf_s_aload_n rf_f_L_law_550 rfl (rf_m0 _) (rf_s_iload_n rf_f_L_law_551 rfl (rf_m0 _) (rf_s_iconst rf_f_L_law_552 (rf_m0 _) (rf_s_iadd rf_f_L_law_553 (rf_m0 _) (rf_s_ialdR rf_f_L_law_554 (rf_m0 _) fun k335 x336 => (rf_s_invV0R rf_f_L_law_555 rfl rfl (rf_m0 _) fun k337 q339 x340 h338 => (rf_s_aload_n rf_f_L_law_558 rfl (rf_m0 _) (rf_s_aload_n rf_f_L_law_559 rfl (rf_m0 _) (rf_s_iload_n rf_f_L_law_560 rfl (rf_m0 _) (rf_s_iconst rf_f_L_law_561 (rf_m0 _) (rf_s_iadd rf_f_L_law_562 (rf_m0 _) (rf_s_ialdR rf_f_L_law_563 (rf_m0 _) fun k341 x342 => (rf_s_aload_n rf_f_L_law_564 rfl (rf_m0 _) (rf_s_iload_n rf_f_L_law_565 rfl (rf_m0 _) (rf_s_iconst rf_f_L_law_566 (rf_m0 _) (rf_s_iadd rf_f_L_law_567 (rf_m0 _) (rf_s_ialdR rf_f_L_law_568 (rf_m0 _) fun k343 x344 => (rf_s_invV0R rf_f_L_law_569 rfl rfl (rf_m0 _) fun k345 q347 x348 h346 => (rf_s_icmp_eq rf_f_L_law_572 rfl rfl (rf_m0 _) rfl (rf_s_iconst rf_f_L_law_575 (rf_m0 _) (rf_s_zretK rf_f_L_law_576 (by decide))))))))))))))))))))))))))))) (rf_tsw_c (rf_tsw_g rfl (rf_m0 _) (rf_s_aload_n rf_f_L_law_577 rfl (rf_m0 _) (rf_s_aload_n rf_f_L_law_578 rfl (rf_m0 _) (rf_s_iload_n rf_f_L_law_579 rfl (rf_m0 _) (rf_s_iconst rf_f_L_law_580 (rf_m0 _) (rf_s_iadd rf_f_L_law_581 (rf_m0 _) (rf_s_ialdR rf_f_L_law_582 (rf_m0 _) fun k317 x318 => (rf_s_aload_n rf_f_L_law_583 rfl (rf_m0 _) (rf_s_iload_n rf_f_L_law_584 rfl (rf_m0 _) (rf_s_iconst rf_f_L_law_585 (rf_m0 _) (rf_s_iadd rf_f_L_law_586 (rf_m0 _) (rf_s_ialdR rf_f_L_law_587 (rf_m0 _) fun k319 x320 => (rf_s_invV0R rf_f_L_law_588 rfl rfl (rf_m0 _) fun k321 q323 x324 h322 => (rf_s_aload_n rf_f_L_law_591 rfl (rf_m0 _) (rf_s_aload_n rf_f_L_law_592 rfl (rf_m0 _) (rf_s_iload_n rf_f_L_law_593 rfl (rf_m0 _) (rf_s_iconst rf_f_L_law_594 (rf_m0 _) (rf_s_iadd rf_f_L_law_595 (rf_m0 _) (rf_s_ialdR rf_f_L_law_596 (rf_m0 _) fun k325 x326 => (rf_s_aload_n rf_f_L_law_597 rfl (rf_m0 _) (rf_s_iload_n rf_f_L_law_598 rfl (rf_m0 _) (rf_s_iconst rf_f_L_law_599 (rf_m0 _) (rf_s_iadd rf_f_L_law_600 (rf_m0 _) (rf_s_ialdR rf_f_L_law_601 (rf_m0 _) fun k327 x328 => (rf_s_invV0R rf_f_L_law_602 rfl rfl (rf_m0 _) fun k329 q331 x332 h330 => (rf_s_icmp_eq rf_f_L_law_605 rfl rfl (rf_m0 _) rfl (rf_s_iconst rf_f_L_law_608 (rf_m0 _) (rf_s_zretK rf_f_L_law_609 (by decide))))))))))))))))))))))))))))) (rf_tsw_c (rf_tsw_g rfl (rf_m0 _) (rf_s_aload_n rf_f_L_law_610 rfl (rf_m0 _) (rf_s_aload_n rf_f_L_law_611 rfl (rf_m0 _) (rf_s_iload_n rf_f_L_law_612 rfl (rf_m0 _) (rf_s_iconst rf_f_L_law_613 (rf_m0 _) (rf_s_iadd rf_f_L_law_614 (rf_m0 _) (rf_s_ialdR rf_f_L_law_615 (rf_m0 _) fun k305 x306 => (rf_s_invV0R rf_f_L_law_616 rfl rfl (rf_m0 _) fun k307 q309 x310 h308 => (rf_s_aload_n rf_f_L_law_619 rfl (rf_m0 _) (rf_s_aload_n rf_f_L_law_620 rfl (rf_m0 _) (rf_s_iload_n rf_f_L_law_621 rfl (rf_m0 _) (rf_s_iconst rf_f_L_law_622 (rf_m0 _) (rf_s_iadd rf_f_L_law_623 (rf_m0 _) (rf_s_ialdR rf_f_L_law_624 (rf_m0 _) fun k311 x312 => (rf_s_invV0R rf_f_L_law_625 rfl rfl (rf_m0 _) fun k313 q315 x316 h314 => (rf_s_icmp_eq rf_f_L_law_628 rfl rfl (rf_m0 _) rfl (rf_s_iconst rf_f_L_law_631 (rf_m0 _) (rf_s_zretK rf_f_L_law_632 (by decide))))))))))))))))))) (rf_tsw_c (rf_tsw_g rfl (rf_m0 _) (rf_s_aload_n rf_f_L_law_633 rfl (rf_m0 _) (rf_s_aload_n rf_f_L_law_634 rfl (rf_m0 _) (rf_s_iload_n rf_f_L_law_635 rfl (rf_m0 _) (rf_s_iconst rf_f_L_law_636 (rf_m0 _) (rf_s_iadd rf_f_L_law_637 (rf_m0 _) (rf_s_ialdR rf_f_L_law_638 (rf_m0 _) fun k293 x294 => (rf_s_invV0R rf_f_L_law_639 rfl rfl (rf_m0 _) fun k295 q297 x298 h296 => (rf_s_aload_n rf_f_L_law_642 rfl (rf_m0 _) (rf_s_aload_n rf_f_L_law_643 rfl (rf_m0 _) (rf_s_iload_n rf_f_L_law_644 rfl (rf_m0 _) (rf_s_iconst rf_f_L_law_645 (rf_m0 _) (rf_s_iadd rf_f_L_law_646 (rf_m0 _) (rf_s_ialdR rf_f_L_law_647 (rf_m0 _) fun k299 x300 => (rf_s_invV0R rf_f_L_law_648 rfl rfl (rf_m0 _) fun k301 q303 x304 h302 => (rf_s_icmp_eq rf_f_L_law_651 rfl rfl (rf_m0 _) rfl (rf_s_iconst rf_f_L_law_654 (rf_m0 _) (rf_s_zretK rf_f_L_law_655 (by decide))))))))))))))))))) (rf_tsw_c (rf_tsw_g rfl (rf_m0 _) (rf_s_aload_n rf_f_L_law_656 rfl (rf_m0 _) (rf_s_aload_n rf_f_L_law_657 rfl (rf_m0 _) (rf_s_iload_n rf_f_L_law_658 rfl (rf_m0 _) (rf_s_iconst rf_f_L_law_659 (rf_m0 _) (rf_s_iadd rf_f_L_law_660 (rf_m0 _) (rf_s_ialdR rf_f_L_law_661 (rf_m0 _) fun k281 x282 => (rf_s_invV0R rf_f_L_law_662 rfl rfl (rf_m0 _) fun k283 q285 x286 h284 => (rf_s_aload_n rf_f_L_law_665 rfl (rf_m0 _) (rf_s_aload_n rf_f_L_law_666 rfl (rf_m0 _) (rf_s_iload_n rf_f_L_law_667 rfl (rf_m0 _) (rf_s_iconst rf_f_L_law_668 (rf_m0 _) (rf_s_iadd rf_f_L_law_669 (rf_m0 _) (rf_s_ialdR rf_f_L_law_670 (rf_m0 _) fun k287 x288 => (rf_s_invV0R rf_f_L_law_671 rfl rfl (rf_m0 _) fun k289 q291 x292 h290 => (rf_s_icmp_eq rf_f_L_law_674 rfl rfl (rf_m0 _) rfl (rf_s_iconst rf_f_L_law_677 (rf_m0 _) (rf_s_zretK rf_f_L_law_678 (by decide))))))))))))))))))) (rf_tsw_c (rf_tsw_g rfl (rf_m0 _) (rf_s_aload_n rf_f_L_law_679 rfl (rf_m0 _) (rf_s_aload_n rf_f_L_law_680 rfl (rf_m0 _) (rf_s_iload_n rf_f_L_law_681 rfl (rf_m0 _) (rf_s_iconst rf_f_L_law_682 (rf_m0 _) (rf_s_iadd rf_f_L_law_683 (rf_m0 _) (rf_s_ialdR rf_f_L_law_684 (rf_m0 _) fun k269 x270 => (rf_s_invV0R rf_f_L_law_685 rfl rfl (rf_m0 _) fun k271 q273 x274 h272 => (rf_s_aload_n rf_f_L_law_688 rfl (rf_m0 _) (rf_s_aload_n rf_f_L_law_689 rfl (rf_m0 _) (rf_s_iload_n rf_f_L_law_690 rfl (rf_m0 _) (rf_s_iconst rf_f_L_law_691 (rf_m0 _) (rf_s_iadd rf_f_L_law_692 (rf_m0 _) (rf_s_ialdR rf_f_L_law_693 (rf_m0 _) fun k275 x276 => (rf_s_invV0R rf_f_L_law_694 rfl rfl (rf_m0 _) fun k277 q279 x280 h278 => (rf_s_icmp_eq rf_f_L_law_697 rfl rfl (rf_m0 _) rfl (rf_s_iconst rf_f_L_law_700 (rf_m0 _) (rf_s_zretK rf_f_L_law_701 (by decide))))))))))))))))))) (rf_tsw_c (rf_tsw_g rfl (rf_m0 _) (rf_s_aload_n rf_f_L_law_702 rfl (rf_m0 _) (rf_s_aload_n rf_f_L_law_703 rfl (rf_m0 _) (rf_s_iload_n rf_f_L_law_704 rfl (rf_m0 _) (rf_s_iconst rf_f_L_law_705 (rf_m0 _) (rf_s_iadd rf_f_L_law_706 (rf_m0 _) (rf_s_ialdR rf_f_L_law_707 (rf_m0 _) fun k257 x258 => (rf_s_invV0R rf_f_L_law_708 rfl rfl (rf_m0 _) fun k259 q261 x262 h260 => (rf_s_aload_n rf_f_L_law_711 rfl (rf_m0 _) (rf_s_aload_n rf_f_L_law_712 rfl (rf_m0 _) (rf_s_iload_n rf_f_L_law_713 rfl (rf_m0 _) (rf_s_iconst rf_f_L_law_714 (rf_m0 _) (rf_s_iadd rf_f_L_law_715 (rf_m0 _) (rf_s_ialdR rf_f_L_law_716 (rf_m0 _) fun k263 x264 => (rf_s_invV0R rf_f_L_law_717 rfl rfl (rf_m0 _) fun k265 q267 x268 h266 => (rf_s_icmp_eq rf_f_L_law_720 rfl rfl (rf_m0 _) rfl (rf_s_iconst rf_f_L_law_723 (rf_m0 _) (rf_s_zretK rf_f_L_law_724 (by decide))))))))))))))))))) (rf_tsw_c (rf_tsw_g rfl (rf_m0 _) (rf_s_aload_n rf_f_L_law_725 rfl (rf_m0 _) (rf_s_invV0R rf_f_L_law_726 rfl rfl (rf_m0 _) fun k249 q251 x252 h250 => (rf_s_aload_n rf_f_L_law_729 rfl (rf_m0 _) (rf_s_invV0R rf_f_L_law_730 rfl rfl (rf_m0 _) fun k253 q255 x256 h254 => (rf_s_icmp_eq rf_f_L_law_733 rfl rfl (rf_m0 _) rfl (rf_s_iconst rf_f_L_law_736 (rf_m0 _) (rf_s_zretK rf_f_L_law_737 (by decide))))))))) (rf_tsw_c (rf_tsw_g rfl (rf_m0 _) (rf_s_aload_n rf_f_L_law_738 rfl (rf_m0 _) (rf_s_aload_n rf_f_L_law_739 rfl (rf_m0 _) (rf_s_iload_n rf_f_L_law_740 rfl (rf_m0 _) (rf_s_iconst rf_f_L_law_741 (rf_m0 _) (rf_s_iadd rf_f_L_law_742 (rf_m0 _) (rf_s_ialdR rf_f_L_law_743 (rf_m0 _) fun k237 x238 => (rf_s_invV0R rf_f_L_law_744 rfl rfl (rf_m0 _) fun k239 q241 x242 h240 => (rf_s_aload_n rf_f_L_law_747 rfl (rf_m0 _) (rf_s_aload_n rf_f_L_law_748 rfl (rf_m0 _) (rf_s_iload_n rf_f_L_law_749 rfl (rf_m0 _) (rf_s_iconst rf_f_L_law_750 (rf_m0 _) (rf_s_iadd rf_f_L_law_751 (rf_m0 _) (rf_s_ialdR rf_f_L_law_752 (rf_m0 _) fun k243 x244 => (rf_s_invV0R rf_f_L_law_753 rfl rfl (rf_m0 _) fun k245 q247 x248 h246 => (rf_s_icmp_eq rf_f_L_law_756 rfl rfl (rf_m0 _) rfl (rf_s_iconst rf_f_L_law_759 (rf_m0 _) (rf_s_zretK rf_f_L_law_760 (by decide))))))))))))))))))) (rf_tsw_c (rf_tsw_g rfl (rf_m0 _) (rf_s_aload_n rf_f_L_law_761 rfl (rf_m0 _) (rf_s_invV0R rf_f_L_law_762 rfl rfl (rf_m0 _) fun k229 q231 x232 h230 => (rf_s_aload_n rf_f_L_law_765 rfl (rf_m0 _) (rf_s_invV0R rf_f_L_law_766 rfl rfl (rf_m0 _) fun k233 q235 x236 h234 => (rf_s_icmp_eq rf_f_L_law_769 rfl rfl (rf_m0 _) rfl (rf_s_iconst rf_f_L_law_772 (rf_m0 _) (rf_s_zretK rf_f_L_law_773 (by decide))))))))) (rf_tsw_c (rf_tsw_g rfl (rf_m0 _) (rf_s_aload_n rf_f_L_law_774 rfl (rf_m0 _) (rf_s_aload_n rf_f_L_law_775 rfl (rf_m0 _) (rf_s_iload_n rf_f_L_law_776 rfl (rf_m0 _) (rf_s_iconst rf_f_L_law_777 (rf_m0 _) (rf_s_iadd rf_f_L_law_778 (rf_m0 _) (rf_s_ialdR rf_f_L_law_779 (rf_m0 _) fun k217 x218 => (rf_s_invV0R rf_f_L_law_780 rfl rfl (rf_m0 _) fun k219 q221 x222 h220 => (rf_s_aload_n rf_f_L_law_783 rfl (rf_m0 _) (rf_s_aload_n rf_f_L_law_784 rfl (rf_m0 _) (rf_s_iload_n rf_f_L_law_785 rfl (rf_m0 _) (rf_s_iconst rf_f_L_law_786 (rf_m0 _) (rf_s_iadd rf_f_L_law_787 (rf_m0 _) (rf_s_ialdR rf_f_L_law_788 (rf_m0 _) fun k223 x224 => (rf_s_invV0R rf_f_L_law_789 rfl rfl (rf_m0 _) fun k225 q227 x228 h226 => (rf_s_icmp_eq rf_f_L_law_792 rfl rfl (rf_m0 _) rfl (rf_s_iconst rf_f_L_law_795 (rf_m0 _) (rf_s_zretK rf_f_L_law_796 (by decide))))))))))))))))))) (rf_tsw_c (rf_tsw_g rfl (rf_m0 _) (rf_s_aload_n rf_f_L_law_797 rfl (rf_m0 _) (rf_s_invV0R rf_f_L_law_798 rfl rfl (rf_m0 _) fun k209 q211 x212 h210 => (rf_s_aload_n rf_f_L_law_801 rfl (rf_m0 _) (rf_s_invV0R rf_f_L_law_802 rfl rfl (rf_m0 _) fun k213 q215 x216 h214 => (rf_s_icmp_eq rf_f_L_law_805 rfl rfl (rf_m0 _) rfl (rf_s_iconst rf_f_L_law_808 (rf_m0 _) (rf_s_zretK rf_f_L_law_809 (by decide))))))))) (rf_tsw_c (rf_tsw_g rfl (rf_m0 _) (rf_s_aload_n rf_f_L_law_810 rfl (rf_m0 _) (rf_s_aload_n rf_f_L_law_811 rfl (rf_m0 _) (rf_s_iload_n rf_f_L_law_812 rfl (rf_m0 _) (rf_s_iconst rf_f_L_law_813 (rf_m0 _) (rf_s_iadd rf_f_L_law_814 (rf_m0 _) (rf_s_ialdR rf_f_L_law_815 (rf_m0 _) fun k197 x198 => (rf_s_invV0R rf_f_L_law_816 rfl rfl (rf_m0 _) fun k199 q201 x202 h200 => (rf_s_aload_n rf_f_L_law_819 rfl (rf_m0 _) (rf_s_aload_n rf_f_L_law_820 rfl (rf_m0 _) (rf_s_iload_n rf_f_L_law_821 rfl (rf_m0 _) (rf_s_iconst rf_f_L_law_822 (rf_m0 _) (rf_s_iadd rf_f_L_law_823 (rf_m0 _) (rf_s_ialdR rf_f_L_law_824 (rf_m0 _) fun k203 x204 => (rf_s_invV0R rf_f_L_law_825 rfl rfl (rf_m0 _) fun k205 q207 x208 h206 => (rf_s_icmp_eq rf_f_L_law_828 rfl rfl (rf_m0 _) rfl (rf_s_iconst rf_f_L_law_831 (rf_m0 _) (rf_s_zretK rf_f_L_law_832 (by decide))))))))))))))))))) (rf_tsw_c (rf_tsw_g rfl (rf_m0 _) (rf_s_aload_n rf_f_L_law_833 rfl (rf_m0 _) (rf_s_aload_n rf_f_L_law_834 rfl (rf_m0 _) (rf_s_iload_n rf_f_L_law_835 rfl (rf_m0 _) (rf_s_iconst rf_f_L_law_836 (rf_m0 _) (rf_s_iadd rf_f_L_law_837 (rf_m0 _) (rf_s_ialdR rf_f_L_law_838 (rf_m0 _) fun k181 x182 => (rf_s_aload_n rf_f_L_law_839 rfl (rf_m0 _) (rf_s_iload_n rf_f_L_law_840 rfl (rf_m0 _) (rf_s_iconst rf_f_L_law_841 (rf_m0 _) (rf_s_iadd rf_f_L_law_842 (rf_m0 _) (rf_s_ialdR rf_f_L_law_843 (rf_m0 _) fun k183 x184 => (rf_s_invV0R rf_f_L_law_844 rfl rfl (rf_m0 _) fun k185 q187 x188 h186 => (rf_s_aload_n rf_f_L_law_847 rfl (rf_m0 _) (rf_s_aload_n rf_f_L_law_848 rfl (rf_m0 _) (rf_s_iload_n rf_f_L_law_849 rfl (rf_m0 _) (rf_s_iconst rf_f_L_law_850 (rf_m0 _) (rf_s_iadd rf_f_L_law_851 (rf_m0 _) (rf_s_ialdR rf_f_L_law_852 (rf_m0 _) fun k189 x190 => (rf_s_aload_n rf_f_L_law_853 rfl (rf_m0 _) (rf_s_iload_n rf_f_L_law_854 rfl (rf_m0 _) (rf_s_iconst rf_f_L_law_855 (rf_m0 _) (rf_s_iadd rf_f_L_law_856 (rf_m0 _) (rf_s_ialdR rf_f_L_law_857 (rf_m0 _) fun k191 x192 => (rf_s_invV0R rf_f_L_law_858 rfl rfl (rf_m0 _) fun k193 q195 x196 h194 => (rf_s_icmp_eq rf_f_L_law_861 rfl rfl (rf_m0 _) rfl (rf_s_iconst rf_f_L_law_864 (rf_m0 _) (rf_s_zretK rf_f_L_law_865 (by decide))))))))))))))))))))))))))))) (rf_tsw_c (rf_tsw_g rfl (rf_m0 _) (rf_s_aload_n rf_f_L_law_866 rfl (rf_m0 _) (rf_s_aload_n rf_f_L_law_867 rfl (rf_m0 _) (rf_s_iload_n rf_f_L_law_868 rfl (rf_m0 _) (rf_s_iconst rf_f_L_law_869 (rf_m0 _) (rf_s_iadd rf_f_L_law_870 (rf_m0 _) (rf_s_ialdR rf_f_L_law_871 (rf_m0 _) fun k169 x170 => (rf_s_invV0R rf_f_L_law_872 rfl rfl (rf_m0 _) fun k171 q173 x174 h172 => (rf_s_aload_n rf_f_L_law_875 rfl (rf_m0 _) (rf_s_aload_n rf_f_L_law_876 rfl (rf_m0 _) (rf_s_iload_n rf_f_L_law_877 rfl (rf_m0 _) (rf_s_iconst rf_f_L_law_878 (rf_m0 _) (rf_s_iadd rf_f_L_law_879 (rf_m0 _) (rf_s_ialdR rf_f_L_law_880 (rf_m0 _) fun k175 x176 => (rf_s_invV0R rf_f_L_law_881 rfl rfl (rf_m0 _) fun k177 q179 x180 h178 => (rf_s_icmp_eq rf_f_L_law_884 rfl rfl (rf_m0 _) rfl (rf_s_iconst rf_f_L_law_887 (rf_m0 _) (rf_s_zretK rf_f_L_law_888 (by decide))))))))))))))))))) (rf_tsw_c (rf_tsw_g rfl (rf_m0 _) (rf_s_aload_n rf_f_L_law_889 rfl (rf_m0 _) (rf_s_aload_n rf_f_L_law_890 rfl (rf_m0 _) (rf_s_iload_n rf_f_L_law_891 rfl (rf_m0 _) (rf_s_iconst rf_f_L_law_892 (rf_m0 _) (rf_s_iadd rf_f_L_law_893 (rf_m0 _) (rf_s_ialdR rf_f_L_law_894 (rf_m0 _) fun k157 x158 => (rf_s_invV0R rf_f_L_law_895 rfl rfl (rf_m0 _) fun k159 q161 x162 h160 => (rf_s_aload_n rf_f_L_law_898 rfl (rf_m0 _) (rf_s_aload_n rf_f_L_law_899 rfl (rf_m0 _) (rf_s_iload_n rf_f_L_law_900 rfl (rf_m0 _) (rf_s_iconst rf_f_L_law_901 (rf_m0 _) (rf_s_iadd rf_f_L_law_902 (rf_m0 _) (rf_s_ialdR rf_f_L_law_903 (rf_m0 _) fun k163 x164 => (rf_s_invV0R rf_f_L_law_904 rfl rfl (rf_m0 _) fun k165 q167 x168 h166 => (rf_s_icmp_eq rf_f_L_law_907 rfl rfl (rf_m0 _) rfl (rf_s_iconst rf_f_L_law_910 (rf_m0 _) (rf_s_zretK rf_f_L_law_911 (by decide))))))))))))))))))) (rf_tsw_c (rf_tsw_g rfl (rf_m0 _) (rf_s_aload_n rf_f_L_law_912 rfl (rf_m0 _) (rf_s_invV0R rf_f_L_law_913 rfl rfl (rf_m0 _) fun k149 q151 x152 h150 => (rf_s_aload_n rf_f_L_law_916 rfl (rf_m0 _) (rf_s_invV0R rf_f_L_law_917 rfl rfl (rf_m0 _) fun k153 q155 x156 h154 => (rf_s_icmp_eq rf_f_L_law_920 rfl rfl (rf_m0 _) rfl (rf_s_iconst rf_f_L_law_923 (rf_m0 _) (rf_s_zretK rf_f_L_law_924 (by decide))))))))) (rf_tsw_c (rf_tsw_g rfl (rf_m0 _) (rf_s_aload_n rf_f_L_law_925 rfl (rf_m0 _) (rf_s_aload_n rf_f_L_law_926 rfl (rf_m0 _) (rf_s_iload_n rf_f_L_law_927 rfl (rf_m0 _) (rf_s_iconst rf_f_L_law_928 (rf_m0 _) (rf_s_iadd rf_f_L_law_929 (rf_m0 _) (rf_s_ialdR rf_f_L_law_930 (rf_m0 _) fun k129 x130 => (rf_s_aload_n rf_f_L_law_931 rfl (rf_m0 _) (rf_s_iload_n rf_f_L_law_932 rfl (rf_m0 _) (rf_s_iconst rf_f_L_law_933 (rf_m0 _) (rf_s_iadd rf_f_L_law_934 (rf_m0 _) (rf_s_ialdR rf_f_L_law_935 (rf_m0 _) fun k131 x132 => (rf_s_aload_n rf_f_L_law_936 rfl (rf_m0 _) (rf_s_iload_n rf_f_L_law_937 rfl (rf_m0 _) (rf_s_iconst rf_f_L_law_938 (rf_m0 _) (rf_s_iadd rf_f_L_law_939 (rf_m0 _) (rf_s_ialdR rf_f_L_law_940 (rf_m0 _) fun k133 x134 => (rf_s_invV0R rf_f_L_law_941 rfl rfl (rf_m0 _) fun k135 q137 x138 h136 => (rf_s_aload_n rf_f_L_law_944 rfl (rf_m0 _) (rf_s_aload_n rf_f_L_law_945 rfl (rf_m0 _) (rf_s_iload_n rf_f_L_law_946 rfl (rf_m0 _) (rf_s_iconst rf_f_L_law_947 (rf_m0 _) (rf_s_iadd rf_f_L_law_948 (rf_m0 _) (rf_s_ialdR rf_f_L_law_949 (rf_m0 _) fun k139 x140 => (rf_s_aload_n rf_f_L_law_950 rfl (rf_m0 _) (rf_s_iload_n rf_f_L_law_951 rfl (rf_m0 _) (rf_s_iconst rf_f_L_law_952 (rf_m0 _) (rf_s_iadd rf_f_L_law_953 (rf_m0 _) (rf_s_ialdR rf_f_L_law_954 (rf_m0 _) fun k141 x142 => (rf_s_aload_n rf_f_L_law_955 rfl (rf_m0 _) (rf_s_iload_n rf_f_L_law_956 rfl (rf_m0 _) (rf_s_iconst rf_f_L_law_957 (rf_m0 _) (rf_s_iadd rf_f_L_law_958 (rf_m0 _) (rf_s_ialdR rf_f_L_law_959 (rf_m0 _) fun k143 x144 => (rf_s_invV0R rf_f_L_law_960 rfl rfl (rf_m0 _) fun k145 q147 x148 h146 => (rf_s_icmp_eq rf_f_L_law_963 rfl rfl (rf_m0 _) rfl (rf_s_iconst rf_f_L_law_966 (rf_m0 _) (rf_s_zretK rf_f_L_law_967 (by decide))))))))))))))))))))))))))))))))))))))) (rf_tsw_c (rf_tsw_g rfl (rf_m0 _) (rf_s_aload_n rf_f_L_law_968 rfl (rf_m0 _) (rf_s_aload_n rf_f_L_law_969 rfl (rf_m0 _) (rf_s_iload_n rf_f_L_law_970 rfl (rf_m0 _) (rf_s_iconst rf_f_L_law_971 (rf_m0 _) (rf_s_iadd rf_f_L_law_972 (rf_m0 _) (rf_s_ialdR rf_f_L_law_973 (rf_m0 _) fun k117 x118 => (rf_s_invV0R rf_f_L_law_974 rfl rfl (rf_m0 _) fun k119 q121 x122 h120 => (rf_s_aload_n rf_f_L_law_977 rfl (rf_m0 _) (rf_s_aload_n rf_f_L_law_978 rfl (rf_m0 _) (rf_s_iload_n rf_f_L_law_979 rfl (rf_m0 _) (rf_s_iconst rf_f_L_law_980 (rf_m0 _) (rf_s_iadd rf_f_L_law_981 (rf_m0 _) (rf_s_ialdR rf_f_L_law_982 (rf_m0 _) fun k123 x124 => (rf_s_invV0R rf_f_L_law_983 rfl rfl (rf_m0 _) fun k125 q127 x128 h126 => (rf_s_icmp_eq rf_f_L_law_986 rfl rfl (rf_m0 _) rfl (rf_s_iconst rf_f_L_law_989 (rf_m0 _) (rf_s_zretK rf_f_L_law_990 (by decide))))))))))))))))))) (rf_tsw_c (rf_tsw_g rfl (rf_m0 _) (rf_s_aload_n rf_f_L_law_991 rfl (rf_m0 _) (rf_s_aload_n rf_f_L_law_992 rfl (rf_m0 _) (rf_s_iload_n rf_f_L_law_993 rfl (rf_m0 _) (rf_s_iconst rf_f_L_law_994 (rf_m0 _) (rf_s_iadd rf_f_L_law_995 (rf_m0 _) (rf_s_ialdR rf_f_L_law_996 (rf_m0 _) fun k101 x102 => (rf_s_aload_n rf_f_L_law_997 rfl (rf_m0 _) (rf_s_iload_n rf_f_L_law_998 rfl (rf_m0 _) (rf_s_iconst rf_f_L_law_999 (rf_m0 _) (rf_s_iadd rf_f_L_law_1000 (rf_m0 _) (rf_s_ialdR rf_f_L_law_1001 (rf_m0 _) fun k103 x104 => (rf_s_invV0R rf_f_L_law_1002 rfl rfl (rf_m0 _) fun k105 q107 x108 h106 => (rf_s_aload_n rf_f_L_law_1005 rfl (rf_m0 _) (rf_s_aload_n rf_f_L_law_1006 rfl (rf_m0 _) (rf_s_iload_n rf_f_L_law_1007 rfl (rf_m0 _) (rf_s_iconst rf_f_L_law_1008 (rf_m0 _) (rf_s_iadd rf_f_L_law_1009 (rf_m0 _) (rf_s_ialdR rf_f_L_law_1010 (rf_m0 _) fun k109 x110 => (rf_s_aload_n rf_f_L_law_1011 rfl (rf_m0 _) (rf_s_iload_n rf_f_L_law_1012 rfl (rf_m0 _) (rf_s_iconst rf_f_L_law_1013 (rf_m0 _) (rf_s_iadd rf_f_L_law_1014 (rf_m0 _) (rf_s_ialdR rf_f_L_law_1015 (rf_m0 _) fun k111 x112 => (rf_s_invV0R rf_f_L_law_1016 rfl rfl (rf_m0 _) fun k113 q115 x116 h114 => (rf_s_icmp_eq rf_f_L_law_1019 rfl rfl (rf_m0 _) rfl (rf_s_iconst rf_f_L_law_1022 (rf_m0 _) (rf_s_zretK rf_f_L_law_1023 (by decide))))))))))))))))))))))))))))) (rf_tsw_c (rf_tsw_g rfl (rf_m0 _) (rf_s_aload_n rf_f_L_law_1024 rfl (rf_m0 _) (rf_s_aload_n rf_f_L_law_1025 rfl (rf_m0 _) (rf_s_iload_n rf_f_L_law_1026 rfl (rf_m0 _) (rf_s_iconst rf_f_L_law_1027 (rf_m0 _) (rf_s_iadd rf_f_L_law_1028 (rf_m0 _) (rf_s_ialdR rf_f_L_law_1029 (rf_m0 _) fun k85 x86 => (rf_s_aload_n rf_f_L_law_1030 rfl (rf_m0 _) (rf_s_iload_n rf_f_L_law_1031 rfl (rf_m0 _) (rf_s_iconst rf_f_L_law_1032 (rf_m0 _) (rf_s_iadd rf_f_L_law_1033 (rf_m0 _) (rf_s_ialdR rf_f_L_law_1034 (rf_m0 _) fun k87 x88 => (rf_s_invV0R rf_f_L_law_1035 rfl rfl (rf_m0 _) fun k89 q91 x92 h90 => (rf_s_aload_n rf_f_L_law_1038 rfl (rf_m0 _) (rf_s_aload_n rf_f_L_law_1039 rfl (rf_m0 _) (rf_s_iload_n rf_f_L_law_1040 rfl (rf_m0 _) (rf_s_iconst rf_f_L_law_1041 (rf_m0 _) (rf_s_iadd rf_f_L_law_1042 (rf_m0 _) (rf_s_ialdR rf_f_L_law_1043 (rf_m0 _) fun k93 x94 => (rf_s_aload_n rf_f_L_law_1044 rfl (rf_m0 _) (rf_s_iload_n rf_f_L_law_1045 rfl (rf_m0 _) (rf_s_iconst rf_f_L_law_1046 (rf_m0 _) (rf_s_iadd rf_f_L_law_1047 (rf_m0 _) (rf_s_ialdR rf_f_L_law_1048 (rf_m0 _) fun k95 x96 => (rf_s_invV0R rf_f_L_law_1049 rfl rfl (rf_m0 _) fun k97 q99 x100 h98 => (rf_s_icmp_eq rf_f_L_law_1052 rfl rfl (rf_m0 _) rfl (rf_s_iconst rf_f_L_law_1055 (rf_m0 _) (rf_s_zretK rf_f_L_law_1056 (by decide))))))))))))))))))))))))))))) (rf_tsw_c (rf_tsw_g rfl (rf_m0 _) (rf_s_aload_n rf_f_L_law_1057 rfl (rf_m0 _) (rf_s_aload_n rf_f_L_law_1058 rfl (rf_m0 _) (rf_s_iload_n rf_f_L_law_1059 rfl (rf_m0 _) (rf_s_iconst rf_f_L_law_1060 (rf_m0 _) (rf_s_iadd rf_f_L_law_1061 (rf_m0 _) (rf_s_ialdR rf_f_L_law_1062 (rf_m0 _) fun k69 x70 => (rf_s_aload_n rf_f_L_law_1063 rfl (rf_m0 _) (rf_s_iload_n rf_f_L_law_1064 rfl (rf_m0 _) (rf_s_iconst rf_f_L_law_1065 (rf_m0 _) (rf_s_iadd rf_f_L_law_1066 (rf_m0 _) (rf_s_ialdR rf_f_L_law_1067 (rf_m0 _) fun k71 x72 => (rf_s_invV0R rf_f_L_law_1068 rfl rfl (rf_m0 _) fun k73 q75 x76 h74 => (rf_s_aload_n rf_f_L_law_1071 rfl (rf_m0 _) (rf_s_aload_n rf_f_L_law_1072 rfl (rf_m0 _) (rf_s_iload_n rf_f_L_law_1073 rfl (rf_m0 _) (rf_s_iconst rf_f_L_law_1074 (rf_m0 _) (rf_s_iadd rf_f_L_law_1075 (rf_m0 _) (rf_s_ialdR rf_f_L_law_1076 (rf_m0 _) fun k77 x78 => (rf_s_aload_n rf_f_L_law_1077 rfl (rf_m0 _) (rf_s_iload_n rf_f_L_law_1078 rfl (rf_m0 _) (rf_s_iconst rf_f_L_law_1079 (rf_m0 _) (rf_s_iadd rf_f_L_law_1080 (rf_m0 _) (rf_s_ialdR rf_f_L_law_1081 (rf_m0 _) fun k79 x80 => (rf_s_invV0R rf_f_L_law_1082 rfl rfl (rf_m0 _) fun k81 q83 x84 h82 => (rf_s_icmp_eq rf_f_L_law_1085 rfl rfl (rf_m0 _) rfl (rf_s_iconst rf_f_L_law_1088 (rf_m0 _) (rf_s_zretK rf_f_L_law_1089 (by decide))))))))))))))))))))))))))))) (rf_tsw_c (rf_tsw_g rfl (rf_m0 _) (rf_s_aload_n rf_f_L_law_1090 rfl (rf_m0 _) (rf_s_invV0R rf_f_L_law_1091 rfl rfl (rf_m0 _) fun k61 q63 x64 h62 => (rf_s_aload_n rf_f_L_law_1094 rfl (rf_m0 _) (rf_s_invV0R rf_f_L_law_1095 rfl rfl (rf_m0 _) fun k65 q67 x68 h66 => (rf_s_icmp_eq rf_f_L_law_1098 rfl rfl (rf_m0 _) rfl (rf_s_iconst rf_f_L_law_1101 (rf_m0 _) (rf_s_zretK rf_f_L_law_1102 (by decide))))))))) (rf_tsw_c (rf_tsw_g rfl (rf_m0 _) (rf_s_aload_n rf_f_L_law_1103 rfl (rf_m0 _) (rf_s_invV1R rf_f_L_law_1104 rfl rfl (rf_m0 _) fun k53 q55 x56 h54 => (rf_s_aload_n rf_f_L_law_1107 rfl (rf_m0 _) (rf_s_invV1R rf_f_L_law_1108 rfl rfl (rf_m0 _) fun k57 q59 x60 h58 => (rf_s_lcmp rf_f_L_law_1111 (rf_m0 _) (rf_s_if_eq rf_f_L_law_1112 rfl rfl (rf_m0 _) rfl (rf_s_iconst rf_f_L_law_1115 (rf_m0 _) (rf_s_zretK rf_f_L_law_1116 (by decide)))))))))) (rf_tsw_c (rf_tsw_g rfl (rf_m0 _) (rf_s_aload_n rf_f_L_law_1117 rfl (rf_m0 _) (rf_s_invV1R rf_f_L_law_1118 rfl rfl (rf_m0 _) fun k45 q47 x48 h46 => (rf_s_aload_n rf_f_L_law_1121 rfl (rf_m0 _) (rf_s_invV1R rf_f_L_law_1122 rfl rfl (rf_m0 _) fun k49 q51 x52 h50 => (rf_s_lcmp rf_f_L_law_1125 (rf_m0 _) (rf_s_if_eq rf_f_L_law_1126 rfl rfl (rf_m0 _) rfl (rf_s_iconst rf_f_L_law_1129 (rf_m0 _) (rf_s_zretK rf_f_L_law_1130 (by decide)))))))))) (rf_tsw_c (rf_tsw_g rfl (rf_m0 _) (rf_s_aload_n rf_f_L_law_1131 rfl (rf_m0 _) (rf_s_aload_n rf_f_L_law_1132 rfl (rf_m0 _) (rf_s_iload_n rf_f_L_law_1133 rfl (rf_m0 _) (rf_s_iconst rf_f_L_law_1134 (rf_m0 _) (rf_s_iadd rf_f_L_law_1135 (rf_m0 _) (rf_s_ialdR rf_f_L_law_1136 (rf_m0 _) fun k33 x34 => (rf_s_invV0R rf_f_L_law_1137 rfl rfl (rf_m0 _) fun k35 q37 x38 h36 => (rf_s_aload_n rf_f_L_law_1140 rfl (rf_m0 _) (rf_s_aload_n rf_f_L_law_1141 rfl (rf_m0 _) (rf_s_iload_n rf_f_L_law_1142 rfl (rf_m0 _) (rf_s_iconst rf_f_L_law_1143 (rf_m0 _) (rf_s_iadd rf_f_L_law_1144 (rf_m0 _) (rf_s_ialdR rf_f_L_law_1145 (rf_m0 _) fun k39 x40 => (rf_s_invV0R rf_f_L_law_1146 rfl rfl (rf_m0 _) fun k41 q43 x44 h42 => (rf_s_icmp_eq rf_f_L_law_1149 rfl rfl (rf_m0 _) rfl (rf_s_iconst rf_f_L_law_1152 (rf_m0 _) (rf_s_zretK rf_f_L_law_1153 (by decide))))))))))))))))))) (rf_tsw_c (rf_tsw_g rfl (rf_m0 _) (rf_s_aload_n rf_f_L_law_1154 rfl (rf_m0 _) (rf_s_invV0R rf_f_L_law_1155 rfl rfl (rf_m0 _) fun k25 q27 x28 h26 => (rf_s_aload_n rf_f_L_law_1158 rfl (rf_m0 _) (rf_s_invV0R rf_f_L_law_1159 rfl rfl (rf_m0 _) fun k29 q31 x32 h30 => (rf_s_icmp_eq rf_f_L_law_1162 rfl rfl (rf_m0 _) rfl (rf_s_iconst rf_f_L_law_1165 (rf_m0 _) (rf_s_zretK rf_f_L_law_1166 (by decide))))))))) (rf_tsw_c (rf_tsw_g rfl (rf_m0 _) (rf_s_aload_n rf_f_L_law_1167 rfl (rf_m0 _) (rf_s_aload_n rf_f_L_law_1168 rfl (rf_m0 _) (rf_s_iload_n rf_f_L_law_1169 rfl (rf_m0 _) (rf_s_iconst rf_f_L_law_1170 (rf_m0 _) (rf_s_iadd rf_f_L_law_1171 (rf_m0 _) (rf_s_ialdR rf_f_L_law_1172 (rf_m0 _) fun k13 x14 => (rf_s_invV0R rf_f_L_law_1173 rfl rfl (rf_m0 _) fun k15 q17 x18 h16 => (rf_s_aload_n rf_f_L_law_1176 rfl (rf_m0 _) (rf_s_aload_n rf_f_L_law_1177 rfl (rf_m0 _) (rf_s_iload_n rf_f_L_law_1178 rfl (rf_m0 _) (rf_s_iconst rf_f_L_law_1179 (rf_m0 _) (rf_s_iadd rf_f_L_law_1180 (rf_m0 _) (rf_s_ialdR rf_f_L_law_1181 (rf_m0 _) fun k19 x20 => (rf_s_invV0R rf_f_L_law_1182 rfl rfl (rf_m0 _) fun k21 q23 x24 h22 => (rf_s_icmp_eq rf_f_L_law_1185 rfl rfl (rf_m0 _) rfl (rf_s_iconst rf_f_L_law_1188 (rf_m0 _) (rf_s_zretK rf_f_L_law_1189 (by decide))))))))))))))))))) (rf_tsw_c (rf_tsw_g rfl (rf_m0 _) (rf_s_aload_n rf_f_L_law_1190 rfl (rf_m0 _) (rf_s_invV1R rf_f_L_law_1191 rfl rfl (rf_m0 _) fun k5 q7 x8 h6 => (rf_s_aload_n rf_f_L_law_1194 rfl (rf_m0 _) (rf_s_invV1R rf_f_L_law_1195 rfl rfl (rf_m0 _) fun k9 q11 x12 h10 => (rf_s_lcmp rf_f_L_law_1198 (rf_m0 _) (rf_s_if_eq rf_f_L_law_1199 rfl rfl (rf_m0 _) rfl (rf_s_iconst rf_f_L_law_1202 (rf_m0 _) (rf_s_zretK rf_f_L_law_1203 (by decide)))))))))) (rf_tsw_n (rf_tsw_g rfl rfl rfl))))))))))))))))))))))))))))))))))))))))))))))))))))) : rf_den (rf_call d) rf_m_L_law (18, [some (.inr (.inr l0)), some (.inr (.inr l1)), some (.inr (.inr l2)), some (.inl l3)], [], h) = _)
set_option maxRecDepth 20000 in
set_option maxHeartbeats 2000000 in
theorem rf_e_L_law_1204 (d : Nat) (l0 : Option Nat) (l1 : Option Nat) (l2 : Option Nat) (l3 : Int) (h : rf_H) : rf_j_L_law_1204 d l0 l1 l2 l3 h = rf_j_L_law_18 d l0 l1 l2 (rf_w (l3 + 6)) h :=
  ((rf_s_iinc (L' := [some (.inr (.inr l0)), some (.inr (.inr l1)), some (.inr (.inr l2)), some (.inl (rf_w (l3 + 6)))]) rf_f_L_law_1204 rfl rfl (rf_s_goto rf_f_L_law_1207 rfl rfl rfl)) : rf_den (rf_call d) rf_m_L_law (1204, [some (.inr (.inr l0)), some (.inr (.inr l1)), some (.inr (.inr l2)), some (.inl l3)], [], h) = _)

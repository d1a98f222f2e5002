/-! The law's cases: one call of the class, the same of the model. -/
def lw_fg (xs : Nat → Int32) (i : Nat) : Int64 := ((lw_x xs i 2).toInt64 <<< ((Int32.ofInt 32).toInt64 &&& 63)) ||| ((lw_x xs i 3).toInt64 &&& Int64.ofInt 4294967295)
theorem lw_cmp {x y : Int} (h : x = y) : lg_cmp (Int64.ofInt x) (Int64.ofInt y) = 0 := by
  subst h
  unfold lg_cmp
  simp
theorem dL_law_192 : decode cL_law 192 = .ok (.aload_n 1, 1) := by decide +kernel
theorem dL_law_193 : decode cL_law 193 = .ok (.aload_n 0, 1) := by decide +kernel
theorem dL_law_194 : decode cL_law 194 = .ok (.iload_n 3, 1) := by decide +kernel
theorem dL_law_195 : decode cL_law 195 = .ok (.iconst 1, 1) := by decide +kernel
theorem dL_law_196 : decode cL_law 196 = .ok (.iadd, 1) := by decide +kernel
theorem dL_law_197 : decode cL_law 197 = .ok (.iaload, 1) := by decide +kernel
theorem dL_law_198 : decode cL_law 198 = .ok (.aload_n 0, 1) := by decide +kernel
theorem dL_law_199 : decode cL_law 199 = .ok (.iload_n 3, 1) := by decide +kernel
theorem dL_law_200 : decode cL_law 200 = .ok (.iconst 2, 1) := by decide +kernel
theorem dL_law_201 : decode cL_law 201 = .ok (.iadd, 1) := by decide +kernel
theorem dL_law_202 : decode cL_law 202 = .ok (.iaload, 1) := by decide +kernel
theorem dL_law_203 : decode cL_law 203 = .ok (.aload_n 0, 1) := by decide +kernel
theorem dL_law_204 : decode cL_law 204 = .ok (.iload_n 3, 1) := by decide +kernel
theorem dL_law_205 : decode cL_law 205 = .ok (.iconst 3, 1) := by decide +kernel
theorem dL_law_206 : decode cL_law 206 = .ok (.iadd, 1) := by decide +kernel
theorem dL_law_207 : decode cL_law 207 = .ok (.iaload, 1) := by decide +kernel
theorem dL_law_208 : decode cL_law 208 = .ok (.invokevirtual 13, 3) := by decide +kernel
theorem dL_law_211 : decode cL_law 211 = .ok (.aload_n 2, 1) := by decide +kernel
theorem dL_law_212 : decode cL_law 212 = .ok (.aload_n 0, 1) := by decide +kernel
theorem dL_law_213 : decode cL_law 213 = .ok (.iload_n 3, 1) := by decide +kernel
theorem dL_law_214 : decode cL_law 214 = .ok (.iconst 1, 1) := by decide +kernel
theorem dL_law_215 : decode cL_law 215 = .ok (.iadd, 1) := by decide +kernel
theorem dL_law_216 : decode cL_law 216 = .ok (.iaload, 1) := by decide +kernel
theorem dL_law_217 : decode cL_law 217 = .ok (.aload_n 0, 1) := by decide +kernel
theorem dL_law_218 : decode cL_law 218 = .ok (.iload_n 3, 1) := by decide +kernel
theorem dL_law_219 : decode cL_law 219 = .ok (.iconst 2, 1) := by decide +kernel
theorem dL_law_220 : decode cL_law 220 = .ok (.iadd, 1) := by decide +kernel
theorem dL_law_221 : decode cL_law 221 = .ok (.iaload, 1) := by decide +kernel
theorem dL_law_222 : decode cL_law 222 = .ok (.aload_n 0, 1) := by decide +kernel
theorem dL_law_223 : decode cL_law 223 = .ok (.iload_n 3, 1) := by decide +kernel
theorem dL_law_224 : decode cL_law 224 = .ok (.iconst 3, 1) := by decide +kernel
theorem dL_law_225 : decode cL_law 225 = .ok (.iadd, 1) := by decide +kernel
theorem dL_law_226 : decode cL_law 226 = .ok (.iaload, 1) := by decide +kernel
theorem dL_law_227 : decode cL_law 227 = .ok (.invokevirtual 17, 3) := by decide +kernel
theorem dL_law_230 : decode cL_law 230 = .ok (.if_icmp .eq 1114, 3) := by decide +kernel
theorem dL_law_235 : decode cL_law 235 = .ok (.aload_n 1, 1) := by decide +kernel
theorem dL_law_236 : decode cL_law 236 = .ok (.aload_n 0, 1) := by decide +kernel
theorem dL_law_237 : decode cL_law 237 = .ok (.iload_n 3, 1) := by decide +kernel
theorem dL_law_238 : decode cL_law 238 = .ok (.iconst 1, 1) := by decide +kernel
theorem dL_law_239 : decode cL_law 239 = .ok (.iadd, 1) := by decide +kernel
theorem dL_law_240 : decode cL_law 240 = .ok (.iaload, 1) := by decide +kernel
theorem dL_law_241 : decode cL_law 241 = .ok (.aload_n 0, 1) := by decide +kernel
theorem dL_law_242 : decode cL_law 242 = .ok (.iload_n 3, 1) := by decide +kernel
theorem dL_law_243 : decode cL_law 243 = .ok (.iconst 2, 1) := by decide +kernel
theorem dL_law_244 : decode cL_law 244 = .ok (.iadd, 1) := by decide +kernel
theorem dL_law_245 : decode cL_law 245 = .ok (.iaload, 1) := by decide +kernel
theorem dL_law_246 : decode cL_law 246 = .ok (.invokevirtual 18, 3) := by decide +kernel
theorem dL_law_249 : decode cL_law 249 = .ok (.aload_n 2, 1) := by decide +kernel
theorem dL_law_250 : decode cL_law 250 = .ok (.aload_n 0, 1) := by decide +kernel
theorem dL_law_251 : decode cL_law 251 = .ok (.iload_n 3, 1) := by decide +kernel
theorem dL_law_252 : decode cL_law 252 = .ok (.iconst 1, 1) := by decide +kernel
theorem dL_law_253 : decode cL_law 253 = .ok (.iadd, 1) := by decide +kernel
theorem dL_law_254 : decode cL_law 254 = .ok (.iaload, 1) := by decide +kernel
theorem dL_law_255 : decode cL_law 255 = .ok (.aload_n 0, 1) := by decide +kernel
theorem dL_law_256 : decode cL_law 256 = .ok (.iload_n 3, 1) := by decide +kernel
theorem dL_law_257 : decode cL_law 257 = .ok (.iconst 2, 1) := by decide +kernel
theorem dL_law_258 : decode cL_law 258 = .ok (.iadd, 1) := by decide +kernel
theorem dL_law_259 : decode cL_law 259 = .ok (.iaload, 1) := by decide +kernel
theorem dL_law_260 : decode cL_law 260 = .ok (.invokevirtual 22, 3) := by decide +kernel
theorem dL_law_263 : decode cL_law 263 = .ok (.if_icmp .eq 1081, 3) := by decide +kernel
theorem dL_law_268 : decode cL_law 268 = .ok (.aload_n 1, 1) := by decide +kernel
theorem dL_law_269 : decode cL_law 269 = .ok (.aload_n 0, 1) := by decide +kernel
theorem dL_law_270 : decode cL_law 270 = .ok (.iload_n 3, 1) := by decide +kernel
theorem dL_law_271 : decode cL_law 271 = .ok (.iconst 1, 1) := by decide +kernel
theorem dL_law_272 : decode cL_law 272 = .ok (.iadd, 1) := by decide +kernel
theorem dL_law_273 : decode cL_law 273 = .ok (.iaload, 1) := by decide +kernel
theorem dL_law_274 : decode cL_law 274 = .ok (.aload_n 0, 1) := by decide +kernel
theorem dL_law_275 : decode cL_law 275 = .ok (.iload_n 3, 1) := by decide +kernel
theorem dL_law_276 : decode cL_law 276 = .ok (.iconst 2, 1) := by decide +kernel
theorem dL_law_277 : decode cL_law 277 = .ok (.iadd, 1) := by decide +kernel
theorem dL_law_278 : decode cL_law 278 = .ok (.iaload, 1) := by decide +kernel
theorem dL_law_279 : decode cL_law 279 = .ok (.aload_n 0, 1) := by decide +kernel
theorem dL_law_280 : decode cL_law 280 = .ok (.iload_n 3, 1) := by decide +kernel
theorem dL_law_281 : decode cL_law 281 = .ok (.iconst 3, 1) := by decide +kernel
theorem dL_law_282 : decode cL_law 282 = .ok (.iadd, 1) := by decide +kernel
theorem dL_law_283 : decode cL_law 283 = .ok (.iaload, 1) := by decide +kernel
theorem dL_law_284 : decode cL_law 284 = .ok (.invokevirtual 23, 3) := by decide +kernel
theorem dL_law_287 : decode cL_law 287 = .ok (.aload_n 2, 1) := by decide +kernel
theorem dL_law_288 : decode cL_law 288 = .ok (.aload_n 0, 1) := by decide +kernel
theorem dL_law_289 : decode cL_law 289 = .ok (.iload_n 3, 1) := by decide +kernel
theorem dL_law_290 : decode cL_law 290 = .ok (.iconst 1, 1) := by decide +kernel
theorem dL_law_291 : decode cL_law 291 = .ok (.iadd, 1) := by decide +kernel
theorem dL_law_292 : decode cL_law 292 = .ok (.iaload, 1) := by decide +kernel
theorem dL_law_293 : decode cL_law 293 = .ok (.aload_n 0, 1) := by decide +kernel
theorem dL_law_294 : decode cL_law 294 = .ok (.iload_n 3, 1) := by decide +kernel
theorem dL_law_295 : decode cL_law 295 = .ok (.iconst 2, 1) := by decide +kernel
theorem dL_law_296 : decode cL_law 296 = .ok (.iadd, 1) := by decide +kernel
theorem dL_law_297 : decode cL_law 297 = .ok (.iaload, 1) := by decide +kernel
theorem dL_law_298 : decode cL_law 298 = .ok (.aload_n 0, 1) := by decide +kernel
theorem dL_law_299 : decode cL_law 299 = .ok (.iload_n 3, 1) := by decide +kernel
theorem dL_law_300 : decode cL_law 300 = .ok (.iconst 3, 1) := by decide +kernel
theorem dL_law_301 : decode cL_law 301 = .ok (.iadd, 1) := by decide +kernel
theorem dL_law_302 : decode cL_law 302 = .ok (.iaload, 1) := by decide +kernel
theorem dL_law_303 : decode cL_law 303 = .ok (.invokevirtual 26, 3) := by decide +kernel
theorem dL_law_306 : decode cL_law 306 = .ok (.if_icmp .eq 1038, 3) := by decide +kernel
theorem dL_law_311 : decode cL_law 311 = .ok (.aload_n 1, 1) := by decide +kernel
theorem dL_law_312 : decode cL_law 312 = .ok (.aload_n 0, 1) := by decide +kernel
theorem dL_law_313 : decode cL_law 313 = .ok (.iload_n 3, 1) := by decide +kernel
theorem dL_law_314 : decode cL_law 314 = .ok (.iconst 1, 1) := by decide +kernel
theorem dL_law_315 : decode cL_law 315 = .ok (.iadd, 1) := by decide +kernel
theorem dL_law_316 : decode cL_law 316 = .ok (.iaload, 1) := by decide +kernel
theorem dL_law_317 : decode cL_law 317 = .ok (.aload_n 0, 1) := by decide +kernel
theorem dL_law_318 : decode cL_law 318 = .ok (.iload_n 3, 1) := by decide +kernel
theorem dL_law_319 : decode cL_law 319 = .ok (.iconst 2, 1) := by decide +kernel
theorem dL_law_320 : decode cL_law 320 = .ok (.iadd, 1) := by decide +kernel
theorem dL_law_321 : decode cL_law 321 = .ok (.iaload, 1) := by decide +kernel
theorem dL_law_322 : decode cL_law 322 = .ok (.aload_n 0, 1) := by decide +kernel
theorem dL_law_323 : decode cL_law 323 = .ok (.iload_n 3, 1) := by decide +kernel
theorem dL_law_324 : decode cL_law 324 = .ok (.iconst 3, 1) := by decide +kernel
theorem dL_law_325 : decode cL_law 325 = .ok (.iadd, 1) := by decide +kernel
theorem dL_law_326 : decode cL_law 326 = .ok (.iaload, 1) := by decide +kernel
theorem dL_law_327 : decode cL_law 327 = .ok (.aload_n 0, 1) := by decide +kernel
theorem dL_law_328 : decode cL_law 328 = .ok (.iload_n 3, 1) := by decide +kernel
theorem dL_law_329 : decode cL_law 329 = .ok (.iconst 4, 1) := by decide +kernel
theorem dL_law_330 : decode cL_law 330 = .ok (.iadd, 1) := by decide +kernel
theorem dL_law_331 : decode cL_law 331 = .ok (.iaload, 1) := by decide +kernel
theorem dL_law_332 : decode cL_law 332 = .ok (.aload_n 0, 1) := by decide +kernel
theorem dL_law_333 : decode cL_law 333 = .ok (.iload_n 3, 1) := by decide +kernel
theorem dL_law_334 : decode cL_law 334 = .ok (.iconst 5, 1) := by decide +kernel
theorem dL_law_335 : decode cL_law 335 = .ok (.iadd, 1) := by decide +kernel
theorem dL_law_336 : decode cL_law 336 = .ok (.iaload, 1) := by decide +kernel
theorem dL_law_337 : decode cL_law 337 = .ok (.invokevirtual 27, 3) := by decide +kernel
theorem dL_law_340 : decode cL_law 340 = .ok (.aload_n 2, 1) := by decide +kernel
theorem dL_law_341 : decode cL_law 341 = .ok (.aload_n 0, 1) := by decide +kernel
theorem dL_law_342 : decode cL_law 342 = .ok (.iload_n 3, 1) := by decide +kernel
theorem dL_law_343 : decode cL_law 343 = .ok (.iconst 1, 1) := by decide +kernel
theorem dL_law_344 : decode cL_law 344 = .ok (.iadd, 1) := by decide +kernel
theorem dL_law_345 : decode cL_law 345 = .ok (.iaload, 1) := by decide +kernel
theorem dL_law_346 : decode cL_law 346 = .ok (.aload_n 0, 1) := by decide +kernel
theorem dL_law_347 : decode cL_law 347 = .ok (.iload_n 3, 1) := by decide +kernel
theorem dL_law_348 : decode cL_law 348 = .ok (.iconst 2, 1) := by decide +kernel
theorem dL_law_349 : decode cL_law 349 = .ok (.iadd, 1) := by decide +kernel
theorem dL_law_350 : decode cL_law 350 = .ok (.iaload, 1) := by decide +kernel
theorem dL_law_351 : decode cL_law 351 = .ok (.aload_n 0, 1) := by decide +kernel
theorem dL_law_352 : decode cL_law 352 = .ok (.iload_n 3, 1) := by decide +kernel
theorem dL_law_353 : decode cL_law 353 = .ok (.iconst 3, 1) := by decide +kernel
theorem dL_law_354 : decode cL_law 354 = .ok (.iadd, 1) := by decide +kernel
theorem dL_law_355 : decode cL_law 355 = .ok (.iaload, 1) := by decide +kernel
theorem dL_law_356 : decode cL_law 356 = .ok (.aload_n 0, 1) := by decide +kernel
theorem dL_law_357 : decode cL_law 357 = .ok (.iload_n 3, 1) := by decide +kernel
theorem dL_law_358 : decode cL_law 358 = .ok (.iconst 4, 1) := by decide +kernel
theorem dL_law_359 : decode cL_law 359 = .ok (.iadd, 1) := by decide +kernel
theorem dL_law_360 : decode cL_law 360 = .ok (.iaload, 1) := by decide +kernel
theorem dL_law_361 : decode cL_law 361 = .ok (.aload_n 0, 1) := by decide +kernel
theorem dL_law_362 : decode cL_law 362 = .ok (.iload_n 3, 1) := by decide +kernel
theorem dL_law_363 : decode cL_law 363 = .ok (.iconst 5, 1) := by decide +kernel
theorem dL_law_364 : decode cL_law 364 = .ok (.iadd, 1) := by decide +kernel
theorem dL_law_365 : decode cL_law 365 = .ok (.iaload, 1) := by decide +kernel
theorem dL_law_366 : decode cL_law 366 = .ok (.invokevirtual 31, 3) := by decide +kernel
theorem dL_law_369 : decode cL_law 369 = .ok (.if_icmp .eq 975, 3) := by decide +kernel
theorem dL_law_374 : decode cL_law 374 = .ok (.aload_n 1, 1) := by decide +kernel
theorem dL_law_375 : decode cL_law 375 = .ok (.aload_n 0, 1) := by decide +kernel
theorem dL_law_376 : decode cL_law 376 = .ok (.iload_n 3, 1) := by decide +kernel
theorem dL_law_377 : decode cL_law 377 = .ok (.iconst 1, 1) := by decide +kernel
theorem dL_law_378 : decode cL_law 378 = .ok (.iadd, 1) := by decide +kernel
theorem dL_law_379 : decode cL_law 379 = .ok (.iaload, 1) := by decide +kernel
theorem dL_law_380 : decode cL_law 380 = .ok (.aload_n 0, 1) := by decide +kernel
theorem dL_law_381 : decode cL_law 381 = .ok (.iload_n 3, 1) := by decide +kernel
theorem dL_law_382 : decode cL_law 382 = .ok (.iconst 2, 1) := by decide +kernel
theorem dL_law_383 : decode cL_law 383 = .ok (.iadd, 1) := by decide +kernel
theorem dL_law_384 : decode cL_law 384 = .ok (.iaload, 1) := by decide +kernel
theorem dL_law_385 : decode cL_law 385 = .ok (.invokevirtual 32, 3) := by decide +kernel
theorem dL_law_388 : decode cL_law 388 = .ok (.aload_n 2, 1) := by decide +kernel
theorem dL_law_389 : decode cL_law 389 = .ok (.aload_n 0, 1) := by decide +kernel
theorem dL_law_390 : decode cL_law 390 = .ok (.iload_n 3, 1) := by decide +kernel
theorem dL_law_391 : decode cL_law 391 = .ok (.iconst 1, 1) := by decide +kernel
theorem dL_law_392 : decode cL_law 392 = .ok (.iadd, 1) := by decide +kernel
theorem dL_law_393 : decode cL_law 393 = .ok (.iaload, 1) := by decide +kernel
theorem dL_law_394 : decode cL_law 394 = .ok (.aload_n 0, 1) := by decide +kernel
theorem dL_law_395 : decode cL_law 395 = .ok (.iload_n 3, 1) := by decide +kernel
theorem dL_law_396 : decode cL_law 396 = .ok (.iconst 2, 1) := by decide +kernel
theorem dL_law_397 : decode cL_law 397 = .ok (.iadd, 1) := by decide +kernel
theorem dL_law_398 : decode cL_law 398 = .ok (.iaload, 1) := by decide +kernel
theorem dL_law_399 : decode cL_law 399 = .ok (.invokevirtual 35, 3) := by decide +kernel
theorem dL_law_402 : decode cL_law 402 = .ok (.if_icmp .eq 942, 3) := by decide +kernel
theorem dL_law_407 : decode cL_law 407 = .ok (.aload_n 1, 1) := by decide +kernel
theorem dL_law_408 : decode cL_law 408 = .ok (.aload_n 0, 1) := by decide +kernel
theorem dL_law_409 : decode cL_law 409 = .ok (.iload_n 3, 1) := by decide +kernel
theorem dL_law_410 : decode cL_law 410 = .ok (.iconst 1, 1) := by decide +kernel
theorem dL_law_411 : decode cL_law 411 = .ok (.iadd, 1) := by decide +kernel
theorem dL_law_412 : decode cL_law 412 = .ok (.iaload, 1) := by decide +kernel
theorem dL_law_413 : decode cL_law 413 = .ok (.invokevirtual 36, 3) := by decide +kernel
theorem dL_law_416 : decode cL_law 416 = .ok (.aload_n 2, 1) := by decide +kernel
theorem dL_law_417 : decode cL_law 417 = .ok (.aload_n 0, 1) := by decide +kernel
theorem dL_law_418 : decode cL_law 418 = .ok (.iload_n 3, 1) := by decide +kernel
theorem dL_law_419 : decode cL_law 419 = .ok (.iconst 1, 1) := by decide +kernel
theorem dL_law_420 : decode cL_law 420 = .ok (.iadd, 1) := by decide +kernel
theorem dL_law_421 : decode cL_law 421 = .ok (.iaload, 1) := by decide +kernel
theorem dL_law_422 : decode cL_law 422 = .ok (.invokevirtual 40, 3) := by decide +kernel
theorem dL_law_425 : decode cL_law 425 = .ok (.if_icmp .eq 919, 3) := by decide +kernel
section LWK
variable {p : Program} {l : Launch} {e : Env} {s : State} {m : MethodId} {below : List Frame} {meth : Method} {c : Code} {cells slots : Nat} {Q : State → Prop} {D : va_G} {G : pm_G} {b L sa sv : Nat} {xs : Nat → Int32}
set_option maxHeartbeats 4000000 in
set_option maxRecDepth 100000 in
theorem law_c0 (C : lw_C p s m c b L xs D G sa sv) {i : Nat} (hi : i + 6 ≤ L) {ls : Array Slot} (hl : lv_has ls 4 (lw_L s b i)) {j : pH} {H : Heap} {locs : List Loc} (I : lw_I D G s j H locs) (hcs : cells ≤ 600000 ∧ slots ≤ 7302250) (kk : ∀ (j1 : pH) (H1 : Heap) (locs1 : List Loc), lw_I D G s j1 H1 locs1 → W p l e room_1 s m #[Value.ref b] below meth c H1 locs1 cells slots Q (F0 m 1344 ls [])) : W p l e room_1 s m #[Value.ref b] below meth c H locs cells slots Q (F0 m 192 ls []) := by
  obtain ⟨hx, hb, hml, hown, hts, -, -, -, -, -, hL3⟩ := id C
  obtain ⟨hok, al, ft, hP, hS⟩ := I
  obtain ⟨a1, a2, ft2⟩ := joint (H := fun h => H_X11_room (lw_x xs i 1).toInt (lw_x xs i 2).toInt (lw_x xs i 3).toInt h) (G := fun g => H_X12_room (lw_x xs i 1).toInt (lw_x xs i 2).toInt (lw_x xs i 3).toInt g) al ft (fun h g al => (m_room al (lw_x xs i 1).toInt (lw_x xs i 2).toInt (lw_x xs i 3).toInt).2)
  have a1 : AL j (H_X11_room (lw_x xs i 1).toInt (lw_x xs i 2).toInt (lw_x xs i 3).toInt j) := a1
  have a2 : AL (H_X12_room (lw_x xs i 1).toInt (lw_x xs i 2).toInt (lw_x xs i 3).toInt (H_X11_room (lw_x xs i 1).toInt (lw_x xs i 2).toInt (lw_x xs i 3).toInt j)) (H_X12_room (lw_x xs i 1).toInt (lw_x xs i 2).toInt (lw_x xs i 3).toInt (H_X11_room (lw_x xs i 1).toInt (lw_x xs i 2).toInt (lw_x xs i 3).toInt j)) := a2
  have ft2 : FIT (H_X12_room (lw_x xs i 1).toInt (lw_x xs i 2).toInt (lw_x xs i 3).toInt (H_X11_room (lw_x xs i 1).toInt (lw_x xs i 2).toInt (lw_x xs i 3).toInt j)) := ft2
  have q1 := m_room al (lw_x xs i 1).toInt (lw_x xs i 2).toInt (lw_x xs i 3).toInt
  have q2 := m_room a1 (lw_x xs i 1).toInt (lw_x xs i 2).toInt (lw_x xs i 3).toInt
  have hF : (F_X11_room (lw_x xs i 1).toInt (lw_x xs i 2).toInt (lw_x xs i 3).toInt j) = (F_X12_room (lw_x xs i 1).toInt (lw_x xs i 2).toInt (lw_x xs i 3).toInt (H_X11_room (lw_x xs i 1).toInt (lw_x xs i 2).toInt (lw_x xs i 3).toInt j)) := q2.1
  refine lv_aload_n hx hb dL_law_192 rfl (lv_at hl 2 rfl) ?_
  refine lw_ld C (kn := 1) (by omega) hl hS dL_law_193 dL_law_194 dL_law_195 (by decide) dL_law_196 dL_law_197 ?_
  refine lw_ld C (kn := 2) (by omega) hl hS dL_law_198 dL_law_199 dL_law_200 (by decide) dL_law_201 dL_law_202 ?_
  refine lw_ld C (kn := 3) (by omega) hl hS dL_law_203 dL_law_204 dL_law_205 (by decide) dL_law_206 dL_law_207 ?_
  refine lw_call C (k := 96) (tag := 13) (a := 0) (as := [(0, (lw_x xs i 1).toInt), (0, (lw_x xs i 2).toInt), (0, (lw_x xs i 3).toInt)]) (rv := .int (Int32.ofInt (F_X11_room (lw_x xs i 1).toInt (lw_x xs i 2).toInt (lw_x xs i 3).toInt j))) (rest := []) (by decide) hok hP hS (c_X11_room (lw_x xs i 1).toInt (lw_x xs i 2).toInt (lw_x xs i 3).toInt j) rfl rfl (by decide) (List.forall_mem_cons.mpr ⟨lw_ok0, List.forall_mem_cons.mpr ⟨lw_oki (lw_x xs i 1), List.forall_mem_cons.mpr ⟨lw_oki (lw_x xs i 2), List.forall_mem_cons.mpr ⟨lw_oki (lw_x xs i 3), fun _ h => absurd h List.not_mem_nil⟩⟩⟩⟩) (pm_TB_in (j := 562) (by decide +kernel) rfl) (by decide +kernel) hl.1 (Nat.le_of_ble_eq_true rfl) (by rw [show ([(0, (lw_x xs i 1).toInt), (0, (lw_x xs i 2).toInt), (0, (lw_x xs i 3).toInt)] : List pV).map (pm_emb (lw_ad s) sa) = [Value.int (lw_x xs i 1), Value.int (lw_x xs i 2), Value.int (lw_x xs i 3)] from by simp only [List.map_cons, List.map_nil, lw_ei, lw_el]]; rfl) rfl hcs dL_law_208 (fun H locs hok hP hS => ?_)
  refine lv_aload_n hx hb dL_law_211 rfl (lv_at hl 3 rfl) ?_
  refine lw_ld C (kn := 1) (by omega) hl hS dL_law_212 dL_law_213 dL_law_214 (by decide) dL_law_215 dL_law_216 ?_
  refine lw_ld C (kn := 2) (by omega) hl hS dL_law_217 dL_law_218 dL_law_219 (by decide) dL_law_220 dL_law_221 ?_
  refine lw_ld C (kn := 3) (by omega) hl hS dL_law_222 dL_law_223 dL_law_224 (by decide) dL_law_225 dL_law_226 ?_
  refine lw_call C (k := 144) (tag := 14) (a := 248) (as := [(0, (lw_x xs i 1).toInt), (0, (lw_x xs i 2).toInt), (0, (lw_x xs i 3).toInt)]) (rv := .int (Int32.ofInt (F_X12_room (lw_x xs i 1).toInt (lw_x xs i 2).toInt (lw_x xs i 3).toInt (H_X11_room (lw_x xs i 1).toInt (lw_x xs i 2).toInt (lw_x xs i 3).toInt j)))) (rest := [Value.int (Int32.ofInt (F_X11_room (lw_x xs i 1).toInt (lw_x xs i 2).toInt (lw_x xs i 3).toInt j))]) (by decide) hok hP hS (c_X12_room (lw_x xs i 1).toInt (lw_x xs i 2).toInt (lw_x xs i 3).toInt (H_X11_room (lw_x xs i 1).toInt (lw_x xs i 2).toInt (lw_x xs i 3).toInt j)) rfl rfl (by decide) (List.forall_mem_cons.mpr ⟨lw_ok248, List.forall_mem_cons.mpr ⟨lw_oki (lw_x xs i 1), List.forall_mem_cons.mpr ⟨lw_oki (lw_x xs i 2), List.forall_mem_cons.mpr ⟨lw_oki (lw_x xs i 3), fun _ h => absurd h List.not_mem_nil⟩⟩⟩⟩) (pm_TB_in (j := 1367) (by decide +kernel) rfl) (by decide +kernel) hl.1 (Nat.le_of_ble_eq_true rfl) (by rw [show ([(0, (lw_x xs i 1).toInt), (0, (lw_x xs i 2).toInt), (0, (lw_x xs i 3).toInt)] : List pV).map (pm_emb (lw_ad s) sa) = [Value.int (lw_x xs i 1), Value.int (lw_x xs i 2), Value.int (lw_x xs i 3)] from by simp only [List.map_cons, List.map_nil, lw_ei, lw_el]]; rfl) rfl hcs dL_law_227 (fun H locs hok hP hS => ?_)
  exact lv_icmp_eq (tgt := 1344) hx hb dL_law_230 (by decide) (fun _ => kk _ H locs ⟨hok, a2, ft2, hP, hS⟩) (fun c9 => absurd (congrArg Int32.ofInt hF) c9)
set_option maxHeartbeats 4000000 in
set_option maxRecDepth 100000 in
theorem law_c1 (C : lw_C p s m c b L xs D G sa sv) {i : Nat} (hi : i + 6 ≤ L) {ls : Array Slot} (hl : lv_has ls 4 (lw_L s b i)) {j : pH} {H : Heap} {locs : List Loc} (I : lw_I D G s j H locs) (hcs : cells ≤ 600000 ∧ slots ≤ 7302250) (kk : ∀ (j1 : pH) (H1 : Heap) (locs1 : List Loc), lw_I D G s j1 H1 locs1 → W p l e room_1 s m #[Value.ref b] below meth c H1 locs1 cells slots Q (F0 m 1344 ls [])) : W p l e room_1 s m #[Value.ref b] below meth c H locs cells slots Q (F0 m 235 ls []) := by
  obtain ⟨hx, hb, hml, hown, hts, -, -, -, -, -, hL3⟩ := id C
  obtain ⟨hok, al, ft, hP, hS⟩ := I
  obtain ⟨a1, a2, ft2⟩ := joint (H := fun h => H_X11_heat (lw_x xs i 1).toInt (lw_x xs i 2).toInt h) (G := fun g => H_X12_heat (lw_x xs i 1).toInt (lw_x xs i 2).toInt g) al ft (fun h g al => (m_heat al (lw_x xs i 1).toInt (lw_x xs i 2).toInt).2.2.2)
  have a1 : AL j (H_X11_heat (lw_x xs i 1).toInt (lw_x xs i 2).toInt j) := a1
  have a2 : AL (H_X12_heat (lw_x xs i 1).toInt (lw_x xs i 2).toInt (H_X11_heat (lw_x xs i 1).toInt (lw_x xs i 2).toInt j)) (H_X12_heat (lw_x xs i 1).toInt (lw_x xs i 2).toInt (H_X11_heat (lw_x xs i 1).toInt (lw_x xs i 2).toInt j)) := a2
  have ft2 : FIT (H_X12_heat (lw_x xs i 1).toInt (lw_x xs i 2).toInt (H_X11_heat (lw_x xs i 1).toInt (lw_x xs i 2).toInt j)) := ft2
  have q1 := m_heat al (lw_x xs i 1).toInt (lw_x xs i 2).toInt
  have q2 := m_heat a1 (lw_x xs i 1).toInt (lw_x xs i 2).toInt
  have hF : (F_X11_heat (lw_x xs i 1).toInt (lw_x xs i 2).toInt j) = (F_X12_heat (lw_x xs i 1).toInt (lw_x xs i 2).toInt (H_X11_heat (lw_x xs i 1).toInt (lw_x xs i 2).toInt j)) := q2.2.2.1
  refine lv_aload_n hx hb dL_law_235 rfl (lv_at hl 2 rfl) ?_
  refine lw_ld C (kn := 1) (by omega) hl hS dL_law_236 dL_law_237 dL_law_238 (by decide) dL_law_239 dL_law_240 ?_
  refine lw_ld C (kn := 2) (by omega) hl hS dL_law_241 dL_law_242 dL_law_243 (by decide) dL_law_244 dL_law_245 ?_
  refine lw_call C (k := 97) (tag := 13) (a := 0) (as := [(0, (lw_x xs i 1).toInt), (0, (lw_x xs i 2).toInt)]) (rv := .int (Int32.ofInt (F_X11_heat (lw_x xs i 1).toInt (lw_x xs i 2).toInt j))) (rest := []) (by decide) hok hP hS (c_X11_heat (lw_x xs i 1).toInt (lw_x xs i 2).toInt j (q1.1)) rfl rfl (by decide) (List.forall_mem_cons.mpr ⟨lw_ok0, List.forall_mem_cons.mpr ⟨lw_oki (lw_x xs i 1), List.forall_mem_cons.mpr ⟨lw_oki (lw_x xs i 2), fun _ h => absurd h List.not_mem_nil⟩⟩⟩) (pm_TB_in (j := 569) (by decide +kernel) rfl) (by decide +kernel) hl.1 (Nat.le_of_ble_eq_true rfl) (by rw [show ([(0, (lw_x xs i 1).toInt), (0, (lw_x xs i 2).toInt)] : List pV).map (pm_emb (lw_ad s) sa) = [Value.int (lw_x xs i 1), Value.int (lw_x xs i 2)] from by simp only [List.map_cons, List.map_nil, lw_ei, lw_el]]; rfl) rfl hcs dL_law_246 (fun H locs hok hP hS => ?_)
  refine lv_aload_n hx hb dL_law_249 rfl (lv_at hl 3 rfl) ?_
  refine lw_ld C (kn := 1) (by omega) hl hS dL_law_250 dL_law_251 dL_law_252 (by decide) dL_law_253 dL_law_254 ?_
  refine lw_ld C (kn := 2) (by omega) hl hS dL_law_255 dL_law_256 dL_law_257 (by decide) dL_law_258 dL_law_259 ?_
  refine lw_call C (k := 146) (tag := 14) (a := 248) (as := [(0, (lw_x xs i 1).toInt), (0, (lw_x xs i 2).toInt)]) (rv := .int (Int32.ofInt (F_X12_heat (lw_x xs i 1).toInt (lw_x xs i 2).toInt (H_X11_heat (lw_x xs i 1).toInt (lw_x xs i 2).toInt j)))) (rest := [Value.int (Int32.ofInt (F_X11_heat (lw_x xs i 1).toInt (lw_x xs i 2).toInt j))]) (by decide) hok hP hS (c_X12_heat (lw_x xs i 1).toInt (lw_x xs i 2).toInt (H_X11_heat (lw_x xs i 1).toInt (lw_x xs i 2).toInt j) (q2.2.1)) rfl rfl (by decide) (List.forall_mem_cons.mpr ⟨lw_ok248, List.forall_mem_cons.mpr ⟨lw_oki (lw_x xs i 1), List.forall_mem_cons.mpr ⟨lw_oki (lw_x xs i 2), fun _ h => absurd h List.not_mem_nil⟩⟩⟩) (pm_TB_in (j := 1375) (by decide +kernel) rfl) (by decide +kernel) hl.1 (Nat.le_of_ble_eq_true rfl) (by rw [show ([(0, (lw_x xs i 1).toInt), (0, (lw_x xs i 2).toInt)] : List pV).map (pm_emb (lw_ad s) sa) = [Value.int (lw_x xs i 1), Value.int (lw_x xs i 2)] from by simp only [List.map_cons, List.map_nil, lw_ei, lw_el]]; rfl) rfl hcs dL_law_260 (fun H locs hok hP hS => ?_)
  exact lv_icmp_eq (tgt := 1344) hx hb dL_law_263 (by decide) (fun _ => kk _ H locs ⟨hok, a2, ft2, hP, hS⟩) (fun c9 => absurd (congrArg Int32.ofInt hF) c9)
set_option maxHeartbeats 4000000 in
set_option maxRecDepth 100000 in
theorem law_c2 (C : lw_C p s m c b L xs D G sa sv) {i : Nat} (hi : i + 6 ≤ L) {ls : Array Slot} (hl : lv_has ls 4 (lw_L s b i)) {j : pH} {H : Heap} {locs : List Loc} (I : lw_I D G s j H locs) (hcs : cells ≤ 600000 ∧ slots ≤ 7302250) (kk : ∀ (j1 : pH) (H1 : Heap) (locs1 : List Loc), lw_I D G s j1 H1 locs1 → W p l e room_1 s m #[Value.ref b] below meth c H1 locs1 cells slots Q (F0 m 1344 ls [])) : W p l e room_1 s m #[Value.ref b] below meth c H locs cells slots Q (F0 m 268 ls []) := by
  obtain ⟨hx, hb, hml, hown, hts, -, -, -, -, -, hL3⟩ := id C
  obtain ⟨hok, al, ft, hP, hS⟩ := I
  obtain ⟨a1, a2, ft2⟩ := joint (H := fun h => H_X11_cooler (lw_x xs i 1).toInt (lw_x xs i 2).toInt (lw_x xs i 3).toInt h) (G := fun g => H_X12_cooler (lw_x xs i 1).toInt (lw_x xs i 2).toInt (lw_x xs i 3).toInt g) al ft (fun h g al => (m_cooler al (lw_x xs i 1).toInt (lw_x xs i 2).toInt (lw_x xs i 3).toInt).2.2.2)
  have a1 : AL j (H_X11_cooler (lw_x xs i 1).toInt (lw_x xs i 2).toInt (lw_x xs i 3).toInt j) := a1
  have a2 : AL (H_X12_cooler (lw_x xs i 1).toInt (lw_x xs i 2).toInt (lw_x xs i 3).toInt (H_X11_cooler (lw_x xs i 1).toInt (lw_x xs i 2).toInt (lw_x xs i 3).toInt j)) (H_X12_cooler (lw_x xs i 1).toInt (lw_x xs i 2).toInt (lw_x xs i 3).toInt (H_X11_cooler (lw_x xs i 1).toInt (lw_x xs i 2).toInt (lw_x xs i 3).toInt j)) := a2
  have ft2 : FIT (H_X12_cooler (lw_x xs i 1).toInt (lw_x xs i 2).toInt (lw_x xs i 3).toInt (H_X11_cooler (lw_x xs i 1).toInt (lw_x xs i 2).toInt (lw_x xs i 3).toInt j)) := ft2
  have q1 := m_cooler al (lw_x xs i 1).toInt (lw_x xs i 2).toInt (lw_x xs i 3).toInt
  have q2 := m_cooler a1 (lw_x xs i 1).toInt (lw_x xs i 2).toInt (lw_x xs i 3).toInt
  have hF : (F_X11_cooler (lw_x xs i 1).toInt (lw_x xs i 2).toInt (lw_x xs i 3).toInt j) = (F_X12_cooler (lw_x xs i 1).toInt (lw_x xs i 2).toInt (lw_x xs i 3).toInt (H_X11_cooler (lw_x xs i 1).toInt (lw_x xs i 2).toInt (lw_x xs i 3).toInt j)) := q2.2.2.1
  refine lv_aload_n hx hb dL_law_268 rfl (lv_at hl 2 rfl) ?_
  refine lw_ld C (kn := 1) (by omega) hl hS dL_law_269 dL_law_270 dL_law_271 (by decide) dL_law_272 dL_law_273 ?_
  refine lw_ld C (kn := 2) (by omega) hl hS dL_law_274 dL_law_275 dL_law_276 (by decide) dL_law_277 dL_law_278 ?_
  refine lw_ld C (kn := 3) (by omega) hl hS dL_law_279 dL_law_280 dL_law_281 (by decide) dL_law_282 dL_law_283 ?_
  refine lw_call C (k := 98) (tag := 13) (a := 0) (as := [(0, (lw_x xs i 1).toInt), (0, (lw_x xs i 2).toInt), (0, (lw_x xs i 3).toInt)]) (rv := .int (Int32.ofInt (F_X11_cooler (lw_x xs i 1).toInt (lw_x xs i 2).toInt (lw_x xs i 3).toInt j))) (rest := []) (by decide) hok hP hS (c_X11_cooler (lw_x xs i 1).toInt (lw_x xs i 2).toInt (lw_x xs i 3).toInt j (q1.1)) rfl rfl (by decide) (List.forall_mem_cons.mpr ⟨lw_ok0, List.forall_mem_cons.mpr ⟨lw_oki (lw_x xs i 1), List.forall_mem_cons.mpr ⟨lw_oki (lw_x xs i 2), List.forall_mem_cons.mpr ⟨lw_oki (lw_x xs i 3), fun _ h => absurd h List.not_mem_nil⟩⟩⟩⟩) (pm_TB_in (j := 578) (by decide +kernel) rfl) (by decide +kernel) hl.1 (Nat.le_of_ble_eq_true rfl) (by rw [show ([(0, (lw_x xs i 1).toInt), (0, (lw_x xs i 2).toInt), (0, (lw_x xs i 3).toInt)] : List pV).map (pm_emb (lw_ad s) sa) = [Value.int (lw_x xs i 1), Value.int (lw_x xs i 2), Value.int (lw_x xs i 3)] from by simp only [List.map_cons, List.map_nil, lw_ei, lw_el]]; rfl) rfl hcs dL_law_284 (fun H locs hok hP hS => ?_)
  refine lv_aload_n hx hb dL_law_287 rfl (lv_at hl 3 rfl) ?_
  refine lw_ld C (kn := 1) (by omega) hl hS dL_law_288 dL_law_289 dL_law_290 (by decide) dL_law_291 dL_law_292 ?_
  refine lw_ld C (kn := 2) (by omega) hl hS dL_law_293 dL_law_294 dL_law_295 (by decide) dL_law_296 dL_law_297 ?_
  refine lw_ld C (kn := 3) (by omega) hl hS dL_law_298 dL_law_299 dL_law_300 (by decide) dL_law_301 dL_law_302 ?_
  refine lw_call C (k := 147) (tag := 14) (a := 248) (as := [(0, (lw_x xs i 1).toInt), (0, (lw_x xs i 2).toInt), (0, (lw_x xs i 3).toInt)]) (rv := .int (Int32.ofInt (F_X12_cooler (lw_x xs i 1).toInt (lw_x xs i 2).toInt (lw_x xs i 3).toInt (H_X11_cooler (lw_x xs i 1).toInt (lw_x xs i 2).toInt (lw_x xs i 3).toInt j)))) (rest := [Value.int (Int32.ofInt (F_X11_cooler (lw_x xs i 1).toInt (lw_x xs i 2).toInt (lw_x xs i 3).toInt j))]) (by decide) hok hP hS (c_X12_cooler (lw_x xs i 1).toInt (lw_x xs i 2).toInt (lw_x xs i 3).toInt (H_X11_cooler (lw_x xs i 1).toInt (lw_x xs i 2).toInt (lw_x xs i 3).toInt j) (q2.2.1)) rfl rfl (by decide) (List.forall_mem_cons.mpr ⟨lw_ok248, List.forall_mem_cons.mpr ⟨lw_oki (lw_x xs i 1), List.forall_mem_cons.mpr ⟨lw_oki (lw_x xs i 2), List.forall_mem_cons.mpr ⟨lw_oki (lw_x xs i 3), fun _ h => absurd h List.not_mem_nil⟩⟩⟩⟩) (pm_TB_in (j := 1388) (by decide +kernel) rfl) (by decide +kernel) hl.1 (Nat.le_of_ble_eq_true rfl) (by rw [show ([(0, (lw_x xs i 1).toInt), (0, (lw_x xs i 2).toInt), (0, (lw_x xs i 3).toInt)] : List pV).map (pm_emb (lw_ad s) sa) = [Value.int (lw_x xs i 1), Value.int (lw_x xs i 2), Value.int (lw_x xs i 3)] from by simp only [List.map_cons, List.map_nil, lw_ei, lw_el]]; rfl) rfl hcs dL_law_303 (fun H locs hok hP hS => ?_)
  exact lv_icmp_eq (tgt := 1344) hx hb dL_law_306 (by decide) (fun _ => kk _ H locs ⟨hok, a2, ft2, hP, hS⟩) (fun c9 => absurd (congrArg Int32.ofInt hF) c9)
set_option maxHeartbeats 4000000 in
set_option maxRecDepth 100000 in
theorem law_c3 (C : lw_C p s m c b L xs D G sa sv) {i : Nat} (hi : i + 6 ≤ L) {ls : Array Slot} (hl : lv_has ls 4 (lw_L s b i)) {j : pH} {H : Heap} {locs : List Loc} (I : lw_I D G s j H locs) (hcs : cells ≤ 600000 ∧ slots ≤ 7302250) (kk : ∀ (j1 : pH) (H1 : Heap) (locs1 : List Loc), lw_I D G s j1 H1 locs1 → W p l e room_1 s m #[Value.ref b] below meth c H1 locs1 cells slots Q (F0 m 1344 ls [])) : W p l e room_1 s m #[Value.ref b] below meth c H locs cells slots Q (F0 m 311 ls []) := by
  obtain ⟨hx, hb, hml, hown, hts, -, -, -, -, -, hL3⟩ := id C
  obtain ⟨hok, al, ft, hP, hS⟩ := I
  obtain ⟨a1, a2, ft2⟩ := joint (H := fun h => H_X11_machine (lw_x xs i 1).toInt (lw_x xs i 2).toInt (lw_x xs i 3).toInt (lw_x xs i 4).toInt (lw_x xs i 5).toInt h) (G := fun g => H_X12_machine (lw_x xs i 1).toInt (lw_x xs i 2).toInt (lw_x xs i 3).toInt (lw_x xs i 4).toInt (lw_x xs i 5).toInt g) al ft (fun h g al => (m_machine al (lw_x xs i 1).toInt (lw_x xs i 2).toInt (lw_x xs i 3).toInt (lw_x xs i 4).toInt (lw_x xs i 5).toInt).2.2.2)
  have a1 : AL j (H_X11_machine (lw_x xs i 1).toInt (lw_x xs i 2).toInt (lw_x xs i 3).toInt (lw_x xs i 4).toInt (lw_x xs i 5).toInt j) := a1
  have a2 : AL (H_X12_machine (lw_x xs i 1).toInt (lw_x xs i 2).toInt (lw_x xs i 3).toInt (lw_x xs i 4).toInt (lw_x xs i 5).toInt (H_X11_machine (lw_x xs i 1).toInt (lw_x xs i 2).toInt (lw_x xs i 3).toInt (lw_x xs i 4).toInt (lw_x xs i 5).toInt j)) (H_X12_machine (lw_x xs i 1).toInt (lw_x xs i 2).toInt (lw_x xs i 3).toInt (lw_x xs i 4).toInt (lw_x xs i 5).toInt (H_X11_machine (lw_x xs i 1).toInt (lw_x xs i 2).toInt (lw_x xs i 3).toInt (lw_x xs i 4).toInt (lw_x xs i 5).toInt j)) := a2
  have ft2 : FIT (H_X12_machine (lw_x xs i 1).toInt (lw_x xs i 2).toInt (lw_x xs i 3).toInt (lw_x xs i 4).toInt (lw_x xs i 5).toInt (H_X11_machine (lw_x xs i 1).toInt (lw_x xs i 2).toInt (lw_x xs i 3).toInt (lw_x xs i 4).toInt (lw_x xs i 5).toInt j)) := ft2
  have q1 := m_machine al (lw_x xs i 1).toInt (lw_x xs i 2).toInt (lw_x xs i 3).toInt (lw_x xs i 4).toInt (lw_x xs i 5).toInt
  have q2 := m_machine a1 (lw_x xs i 1).toInt (lw_x xs i 2).toInt (lw_x xs i 3).toInt (lw_x xs i 4).toInt (lw_x xs i 5).toInt
  have hF : (F_X11_machine (lw_x xs i 1).toInt (lw_x xs i 2).toInt (lw_x xs i 3).toInt (lw_x xs i 4).toInt (lw_x xs i 5).toInt j) = (F_X12_machine (lw_x xs i 1).toInt (lw_x xs i 2).toInt (lw_x xs i 3).toInt (lw_x xs i 4).toInt (lw_x xs i 5).toInt (H_X11_machine (lw_x xs i 1).toInt (lw_x xs i 2).toInt (lw_x xs i 3).toInt (lw_x xs i 4).toInt (lw_x xs i 5).toInt j)) := q2.2.2.1
  refine lv_aload_n hx hb dL_law_311 rfl (lv_at hl 2 rfl) ?_
  refine lw_ld C (kn := 1) (by omega) hl hS dL_law_312 dL_law_313 dL_law_314 (by decide) dL_law_315 dL_law_316 ?_
  refine lw_ld C (kn := 2) (by omega) hl hS dL_law_317 dL_law_318 dL_law_319 (by decide) dL_law_320 dL_law_321 ?_
  refine lw_ld C (kn := 3) (by omega) hl hS dL_law_322 dL_law_323 dL_law_324 (by decide) dL_law_325 dL_law_326 ?_
  refine lw_ld C (kn := 4) (by omega) hl hS dL_law_327 dL_law_328 dL_law_329 (by decide) dL_law_330 dL_law_331 ?_
  refine lw_ld C (kn := 5) (by omega) hl hS dL_law_332 dL_law_333 dL_law_334 (by decide) dL_law_335 dL_law_336 ?_
  refine lw_call C (k := 99) (tag := 13) (a := 0) (as := [(0, (lw_x xs i 1).toInt), (0, (lw_x xs i 2).toInt), (0, (lw_x xs i 3).toInt), (0, (lw_x xs i 4).toInt), (0, (lw_x xs i 5).toInt)]) (rv := .int (Int32.ofInt (F_X11_machine (lw_x xs i 1).toInt (lw_x xs i 2).toInt (lw_x xs i 3).toInt (lw_x xs i 4).toInt (lw_x xs i 5).toInt j))) (rest := []) (by decide) hok hP hS (c_X11_machine (lw_x xs i 1).toInt (lw_x xs i 2).toInt (lw_x xs i 3).toInt (lw_x xs i 4).toInt (lw_x xs i 5).toInt j (q1.1)) rfl rfl (by decide) (List.forall_mem_cons.mpr ⟨lw_ok0, List.forall_mem_cons.mpr ⟨lw_oki (lw_x xs i 1), List.forall_mem_cons.mpr ⟨lw_oki (lw_x xs i 2), List.forall_mem_cons.mpr ⟨lw_oki (lw_x xs i 3), List.forall_mem_cons.mpr ⟨lw_oki (lw_x xs i 4), List.forall_mem_cons.mpr ⟨lw_oki (lw_x xs i 5), fun _ h => absurd h List.not_mem_nil⟩⟩⟩⟩⟩⟩) (pm_TB_in (j := 582) (by decide +kernel) rfl) (by decide +kernel) hl.1 (Nat.le_of_ble_eq_true rfl) (by rw [show ([(0, (lw_x xs i 1).toInt), (0, (lw_x xs i 2).toInt), (0, (lw_x xs i 3).toInt), (0, (lw_x xs i 4).toInt), (0, (lw_x xs i 5).toInt)] : List pV).map (pm_emb (lw_ad s) sa) = [Value.int (lw_x xs i 1), Value.int (lw_x xs i 2), Value.int (lw_x xs i 3), Value.int (lw_x xs i 4), Value.int (lw_x xs i 5)] from by simp only [List.map_cons, List.map_nil, lw_ei, lw_el]]; rfl) rfl hcs dL_law_337 (fun H locs hok hP hS => ?_)
  refine lv_aload_n hx hb dL_law_340 rfl (lv_at hl 3 rfl) ?_
  refine lw_ld C (kn := 1) (by omega) hl hS dL_law_341 dL_law_342 dL_law_343 (by decide) dL_law_344 dL_law_345 ?_
  refine lw_ld C (kn := 2) (by omega) hl hS dL_law_346 dL_law_347 dL_law_348 (by decide) dL_law_349 dL_law_350 ?_
  refine lw_ld C (kn := 3) (by omega) hl hS dL_law_351 dL_law_352 dL_law_353 (by decide) dL_law_354 dL_law_355 ?_
  refine lw_ld C (kn := 4) (by omega) hl hS dL_law_356 dL_law_357 dL_law_358 (by decide) dL_law_359 dL_law_360 ?_
  refine lw_ld C (kn := 5) (by omega) hl hS dL_law_361 dL_law_362 dL_law_363 (by decide) dL_law_364 dL_law_365 ?_
  refine lw_call C (k := 149) (tag := 14) (a := 248) (as := [(0, (lw_x xs i 1).toInt), (0, (lw_x xs i 2).toInt), (0, (lw_x xs i 3).toInt), (0, (lw_x xs i 4).toInt), (0, (lw_x xs i 5).toInt)]) (rv := .int (Int32.ofInt (F_X12_machine (lw_x xs i 1).toInt (lw_x xs i 2).toInt (lw_x xs i 3).toInt (lw_x xs i 4).toInt (lw_x xs i 5).toInt (H_X11_machine (lw_x xs i 1).toInt (lw_x xs i 2).toInt (lw_x xs i 3).toInt (lw_x xs i 4).toInt (lw_x xs i 5).toInt j)))) (rest := [Value.int (Int32.ofInt (F_X11_machine (lw_x xs i 1).toInt (lw_x xs i 2).toInt (lw_x xs i 3).toInt (lw_x xs i 4).toInt (lw_x xs i 5).toInt j))]) (by decide) hok hP hS (c_X12_machine (lw_x xs i 1).toInt (lw_x xs i 2).toInt (lw_x xs i 3).toInt (lw_x xs i 4).toInt (lw_x xs i 5).toInt (H_X11_machine (lw_x xs i 1).toInt (lw_x xs i 2).toInt (lw_x xs i 3).toInt (lw_x xs i 4).toInt (lw_x xs i 5).toInt j) (q2.2.1)) rfl rfl (by decide) (List.forall_mem_cons.mpr ⟨lw_ok248, List.forall_mem_cons.mpr ⟨lw_oki (lw_x xs i 1), List.forall_mem_cons.mpr ⟨lw_oki (lw_x xs i 2), List.forall_mem_cons.mpr ⟨lw_oki (lw_x xs i 3), List.forall_mem_cons.mpr ⟨lw_oki (lw_x xs i 4), List.forall_mem_cons.mpr ⟨lw_oki (lw_x xs i 5), fun _ h => absurd h List.not_mem_nil⟩⟩⟩⟩⟩⟩) (pm_TB_in (j := 1393) (by decide +kernel) rfl) (by decide +kernel) hl.1 (Nat.le_of_ble_eq_true rfl) (by rw [show ([(0, (lw_x xs i 1).toInt), (0, (lw_x xs i 2).toInt), (0, (lw_x xs i 3).toInt), (0, (lw_x xs i 4).toInt), (0, (lw_x xs i 5).toInt)] : List pV).map (pm_emb (lw_ad s) sa) = [Value.int (lw_x xs i 1), Value.int (lw_x xs i 2), Value.int (lw_x xs i 3), Value.int (lw_x xs i 4), Value.int (lw_x xs i 5)] from by simp only [List.map_cons, List.map_nil, lw_ei, lw_el]]; rfl) rfl hcs dL_law_366 (fun H locs hok hP hS => ?_)
  exact lv_icmp_eq (tgt := 1344) hx hb dL_law_369 (by decide) (fun _ => kk _ H locs ⟨hok, a2, ft2, hP, hS⟩) (fun c9 => absurd (congrArg Int32.ofInt hF) c9)
set_option maxHeartbeats 4000000 in
set_option maxRecDepth 100000 in
theorem law_c4 (C : lw_C p s m c b L xs D G sa sv) {i : Nat} (hi : i + 6 ≤ L) {ls : Array Slot} (hl : lv_has ls 4 (lw_L s b i)) {j : pH} {H : Heap} {locs : List Loc} (I : lw_I D G s j H locs) (hcs : cells ≤ 600000 ∧ slots ≤ 7302250) (kk : ∀ (j1 : pH) (H1 : Heap) (locs1 : List Loc), lw_I D G s j1 H1 locs1 → W p l e room_1 s m #[Value.ref b] below meth c H1 locs1 cells slots Q (F0 m 1344 ls [])) : W p l e room_1 s m #[Value.ref b] below meth c H locs cells slots Q (F0 m 374 ls []) := by
  obtain ⟨hx, hb, hml, hown, hts, -, -, -, -, -, hL3⟩ := id C
  obtain ⟨hok, al, ft, hP, hS⟩ := I
  obtain ⟨a1, a2, ft2⟩ := joint (H := fun h => H_X11_feed (lw_x xs i 1).toInt (lw_x xs i 2).toInt h) (G := fun g => H_X12_feed (lw_x xs i 1).toInt (lw_x xs i 2).toInt g) al ft (fun h g al => (m_feed al (lw_x xs i 1).toInt (lw_x xs i 2).toInt).2.2.2)
  have a1 : AL j (H_X11_feed (lw_x xs i 1).toInt (lw_x xs i 2).toInt j) := a1
  have a2 : AL (H_X12_feed (lw_x xs i 1).toInt (lw_x xs i 2).toInt (H_X11_feed (lw_x xs i 1).toInt (lw_x xs i 2).toInt j)) (H_X12_feed (lw_x xs i 1).toInt (lw_x xs i 2).toInt (H_X11_feed (lw_x xs i 1).toInt (lw_x xs i 2).toInt j)) := a2
  have ft2 : FIT (H_X12_feed (lw_x xs i 1).toInt (lw_x xs i 2).toInt (H_X11_feed (lw_x xs i 1).toInt (lw_x xs i 2).toInt j)) := ft2
  have q1 := m_feed al (lw_x xs i 1).toInt (lw_x xs i 2).toInt
  have q2 := m_feed a1 (lw_x xs i 1).toInt (lw_x xs i 2).toInt
  have hF : (F_X11_feed (lw_x xs i 1).toInt (lw_x xs i 2).toInt j) = (F_X12_feed (lw_x xs i 1).toInt (lw_x xs i 2).toInt (H_X11_feed (lw_x xs i 1).toInt (lw_x xs i 2).toInt j)) := q2.2.2.1
  refine lv_aload_n hx hb dL_law_374 rfl (lv_at hl 2 rfl) ?_
  refine lw_ld C (kn := 1) (by omega) hl hS dL_law_375 dL_law_376 dL_law_377 (by decide) dL_law_378 dL_law_379 ?_
  refine lw_ld C (kn := 2) (by omega) hl hS dL_law_380 dL_law_381 dL_law_382 (by decide) dL_law_383 dL_law_384 ?_
  refine lw_call C (k := 100) (tag := 13) (a := 0) (as := [(0, (lw_x xs i 1).toInt), (0, (lw_x xs i 2).toInt)]) (rv := .int (Int32.ofInt (F_X11_feed (lw_x xs i 1).toInt (lw_x xs i 2).toInt j))) (rest := []) (by decide) hok hP hS (c_X11_feed (lw_x xs i 1).toInt (lw_x xs i 2).toInt j (q1.1)) rfl rfl (by decide) (List.forall_mem_cons.mpr ⟨lw_ok0, List.forall_mem_cons.mpr ⟨lw_oki (lw_x xs i 1), List.forall_mem_cons.mpr ⟨lw_oki (lw_x xs i 2), fun _ h => absurd h List.not_mem_nil⟩⟩⟩) (pm_TB_in (j := 590) (by decide +kernel) rfl) (by decide +kernel) hl.1 (Nat.le_of_ble_eq_true rfl) (by rw [show ([(0, (lw_x xs i 1).toInt), (0, (lw_x xs i 2).toInt)] : List pV).map (pm_emb (lw_ad s) sa) = [Value.int (lw_x xs i 1), Value.int (lw_x xs i 2)] from by simp only [List.map_cons, List.map_nil, lw_ei, lw_el]]; rfl) rfl hcs dL_law_385 (fun H locs hok hP hS => ?_)
  refine lv_aload_n hx hb dL_law_388 rfl (lv_at hl 3 rfl) ?_
  refine lw_ld C (kn := 1) (by omega) hl hS dL_law_389 dL_law_390 dL_law_391 (by decide) dL_law_392 dL_law_393 ?_
  refine lw_ld C (kn := 2) (by omega) hl hS dL_law_394 dL_law_395 dL_law_396 (by decide) dL_law_397 dL_law_398 ?_
  refine lw_call C (k := 150) (tag := 14) (a := 248) (as := [(0, (lw_x xs i 1).toInt), (0, (lw_x xs i 2).toInt)]) (rv := .int (Int32.ofInt (F_X12_feed (lw_x xs i 1).toInt (lw_x xs i 2).toInt (H_X11_feed (lw_x xs i 1).toInt (lw_x xs i 2).toInt j)))) (rest := [Value.int (Int32.ofInt (F_X11_feed (lw_x xs i 1).toInt (lw_x xs i 2).toInt j))]) (by decide) hok hP hS (c_X12_feed (lw_x xs i 1).toInt (lw_x xs i 2).toInt (H_X11_feed (lw_x xs i 1).toInt (lw_x xs i 2).toInt j) (q2.2.1)) rfl rfl (by decide) (List.forall_mem_cons.mpr ⟨lw_ok248, List.forall_mem_cons.mpr ⟨lw_oki (lw_x xs i 1), List.forall_mem_cons.mpr ⟨lw_oki (lw_x xs i 2), fun _ h => absurd h List.not_mem_nil⟩⟩⟩) (pm_TB_in (j := 1407) (by decide +kernel) rfl) (by decide +kernel) hl.1 (Nat.le_of_ble_eq_true rfl) (by rw [show ([(0, (lw_x xs i 1).toInt), (0, (lw_x xs i 2).toInt)] : List pV).map (pm_emb (lw_ad s) sa) = [Value.int (lw_x xs i 1), Value.int (lw_x xs i 2)] from by simp only [List.map_cons, List.map_nil, lw_ei, lw_el]]; rfl) rfl hcs dL_law_399 (fun H locs hok hP hS => ?_)
  exact lv_icmp_eq (tgt := 1344) hx hb dL_law_402 (by decide) (fun _ => kk _ H locs ⟨hok, a2, ft2, hP, hS⟩) (fun c9 => absurd (congrArg Int32.ofInt hF) c9)
set_option maxHeartbeats 4000000 in
set_option maxRecDepth 100000 in
theorem law_c5 (C : lw_C p s m c b L xs D G sa sv) {i : Nat} (hi : i + 6 ≤ L) {ls : Array Slot} (hl : lv_has ls 4 (lw_L s b i)) {j : pH} {H : Heap} {locs : List Loc} (I : lw_I D G s j H locs) (hcs : cells ≤ 600000 ∧ slots ≤ 7302250) (kk : ∀ (j1 : pH) (H1 : Heap) (locs1 : List Loc), lw_I D G s j1 H1 locs1 → W p l e room_1 s m #[Value.ref b] below meth c H1 locs1 cells slots Q (F0 m 1344 ls [])) : W p l e room_1 s m #[Value.ref b] below meth c H locs cells slots Q (F0 m 407 ls []) := by
  obtain ⟨hx, hb, hml, hown, hts, -, -, -, -, -, hL3⟩ := id C
  obtain ⟨hok, al, ft, hP, hS⟩ := I
  obtain ⟨a1, a2, ft2⟩ := joint (H := fun h => H_X11_net (lw_x xs i 1).toInt h) (G := fun g => H_X12_net (lw_x xs i 1).toInt g) al ft (fun h g al => (m_net al (lw_x xs i 1).toInt).2.2)
  have a1 : AL j (H_X11_net (lw_x xs i 1).toInt j) := a1
  have a2 : AL (H_X12_net (lw_x xs i 1).toInt (H_X11_net (lw_x xs i 1).toInt j)) (H_X12_net (lw_x xs i 1).toInt (H_X11_net (lw_x xs i 1).toInt j)) := a2
  have ft2 : FIT (H_X12_net (lw_x xs i 1).toInt (H_X11_net (lw_x xs i 1).toInt j)) := ft2
  have q1 := m_net al (lw_x xs i 1).toInt
  have q2 := m_net a1 (lw_x xs i 1).toInt
  have hF : (F_X11_net (lw_x xs i 1).toInt j) = (F_X12_net (lw_x xs i 1).toInt (H_X11_net (lw_x xs i 1).toInt j)) := q2.2.1
  refine lv_aload_n hx hb dL_law_407 rfl (lv_at hl 2 rfl) ?_
  refine lw_ld C (kn := 1) (by omega) hl hS dL_law_408 dL_law_409 dL_law_410 (by decide) dL_law_411 dL_law_412 ?_
  refine lw_call C (k := 101) (tag := 13) (a := 0) (as := [(0, (lw_x xs i 1).toInt)]) (rv := .int (Int32.ofInt (F_X11_net (lw_x xs i 1).toInt j))) (rest := []) (by decide) hok hP hS (c_X11_net (lw_x xs i 1).toInt j) rfl rfl (by decide) (List.forall_mem_cons.mpr ⟨lw_ok0, List.forall_mem_cons.mpr ⟨lw_oki (lw_x xs i 1), fun _ h => absurd h List.not_mem_nil⟩⟩) (pm_TB_in (j := 594) (by decide +kernel) rfl) (by decide +kernel) hl.1 (Nat.le_of_ble_eq_true rfl) (by rw [show ([(0, (lw_x xs i 1).toInt)] : List pV).map (pm_emb (lw_ad s) sa) = [Value.int (lw_x xs i 1)] from by simp only [List.map_cons, List.map_nil, lw_ei, lw_el]]; rfl) rfl hcs dL_law_413 (fun H locs hok hP hS => ?_)
  refine lv_aload_n hx hb dL_law_416 rfl (lv_at hl 3 rfl) ?_
  refine lw_ld C (kn := 1) (by omega) hl hS dL_law_417 dL_law_418 dL_law_419 (by decide) dL_law_420 dL_law_421 ?_
  refine lw_call C (k := 151) (tag := 14) (a := 248) (as := [(0, (lw_x xs i 1).toInt)]) (rv := .int (Int32.ofInt (F_X12_net (lw_x xs i 1).toInt (H_X11_net (lw_x xs i 1).toInt j)))) (rest := [Value.int (Int32.ofInt (F_X11_net (lw_x xs i 1).toInt j))]) (by decide) hok hP hS (c_X12_net (lw_x xs i 1).toInt (H_X11_net (lw_x xs i 1).toInt j) (q2.1)) rfl rfl (by decide) (List.forall_mem_cons.mpr ⟨lw_ok248, List.forall_mem_cons.mpr ⟨lw_oki (lw_x xs i 1), fun _ h => absurd h List.not_mem_nil⟩⟩) (pm_TB_in (j := 1411) (by decide +kernel) rfl) (by decide +kernel) hl.1 (Nat.le_of_ble_eq_true rfl) (by rw [show ([(0, (lw_x xs i 1).toInt)] : List pV).map (pm_emb (lw_ad s) sa) = [Value.int (lw_x xs i 1)] from by simp only [List.map_cons, List.map_nil, lw_ei, lw_el]]; rfl) rfl hcs dL_law_422 (fun H locs hok hP hS => ?_)
  exact lv_icmp_eq (tgt := 1344) hx hb dL_law_425 (by decide) (fun _ => kk _ H locs ⟨hok, a2, ft2, hP, hS⟩) (fun c9 => absurd (congrArg Int32.ofInt hF) c9)
end LWK

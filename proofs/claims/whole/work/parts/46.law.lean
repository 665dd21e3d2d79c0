def R_law : String := "DeadMondayLaw"
def lw_P (b : Addr) (xs : List Int32) (args : Array Value) (s : State) : Prop := args = #[.ref b] ∧ s.IntsAt b xs ∧ xs.length ≤ 3072 ∧ (Jvm.Cond.and given_1 narrow_1).before args s = true
def lw_Q (_ : Array Value) (s : State) (o : Outcome) (t : State) : Prop := o = .returned (some (.int 1)) ∧ Framed s o t [] 601024 7293034
def lw_Z (below : List Frame) (a : Array Value) (s : State) : State → Prop := fun t => ∃ o, t.status = .running ∧ Ended t below o ∧ lw_Q a s o t
/-- the law's own end, with 1 on the stack, nothing written that was there before, its room as the claim has it -/
theorem lw_ret {p : Program} {l : Launch} {e : Env} {s : State} {m : MethodId} {below : List Frame} {meth : Method} {c : Code} {b : Nat} (hx : p.tables.exec = Jvm.exec) (hb : c.code = code) (hr : meth.sig.returnType = ret) (hlocks : meth.locks = false) {pc : Nat} {H : Heap} {ls : Array Slot} (hdg : decode code pc = .ok (.ireturn, 1)) : W p l e room_1 s m #[Value.ref b] below meth c H [] 601024 7293034 (lw_Z below #[Value.ref b] s) (F0 m pc ls [.int 1]) := by
  intro T hT X
  obtain ⟨fs, hret, hrun, hended, hW, hframe⟩ := X.leave (v := some (.int 1)) (hlocks := hlocks) (fun h => by rw [hr] at h; cases h)
  have hmeth' : T.vm.method? m = some meth := X.method'
  refine ⟨T.setFrames fs, ?_, .returned (some (.int 1)), hrun, hended, rfl, ⟨_, rfl⟩, hW, hframe⟩
  jvm_step X.here [X.here.top, hx, hb, hdg, hmeth', hr, ret, narrow_b1]
  (try refine ⟨rfl, ?_⟩); (try refine ⟨rfl, ?_⟩)
  first | (intro acts; rw [hret _ acts rfl rfl rfl]) | rw [hret _ _ rfl rfl rfl]
  exact Steps.refl _
/-- what holds at the law's entry: the machine, the code, the tables' words (any of lw_tbl by 'hts w (by decide +kernel)'), the script of L ints xs at the cell b, what the Statement gives of the start (any of its parts by flat_of_before) -/
def lw_At (p : Program) (s : State) (m : MethodId) (meth : Method) (c : Code) (b L : Nat) (xs : Nat → Int32) : Prop :=
  p.tables.exec = Jvm.exec ∧ c.code = code ∧ meth.sig.returnType = ret ∧ c.maxLocals = 7 ∧ s.vm.findClass R_law = some m.cls ∧ (∀ w ∈ lw_tbl, w.before #[Value.ref b] s = true) ∧ va_X b L xs s s.heap ∧ b < s.heap.size ∧ meth.locks = false ∧ (Jvm.Cond.and given_1 narrow_1).before #[Value.ref b] s = true
theorem dL_thing_0 : decode cL_thing 0 = .ok (.aload_n 3, 1) := by decide +kernel
theorem dL_thing_1 : decode cL_thing 1 = .ok (.iconst 0, 1) := by decide +kernel
theorem dL_thing_2 : decode cL_thing 2 = .ok (.aload_n 0, 1) := by decide +kernel
theorem dL_thing_3 : decode cL_thing 3 = .ok (.iload_n 1, 1) := by decide +kernel
theorem dL_thing_4 : decode cL_thing 4 = .ok (.iload_n 2, 1) := by decide +kernel
theorem dL_thing_5 : decode cL_thing 5 = .ok (.invokevirtual 7, 3) := by decide +kernel
theorem dL_thing_8 : decode cL_thing 8 = .ok (.i2l, 1) := by decide +kernel
theorem dL_thing_9 : decode cL_thing 9 = .ok (.lastore, 1) := by decide +kernel
theorem dL_thing_10 : decode cL_thing 10 = .ok (.goto 11, 3) := by decide +kernel
theorem dL_thing_13 : decode cL_thing 13 = .ok (.astore 4, 2) := by decide +kernel
theorem dL_thing_15 : decode cL_thing 15 = .ok (.iconst 1, 1) := by decide +kernel
theorem dL_thing_16 : decode cL_thing 16 = .ok (.ireturn, 1) := by decide +kernel
theorem dL_thing_17 : decode cL_thing 17 = .ok (.astore 4, 2) := by decide +kernel
theorem dL_thing_19 : decode cL_thing 19 = .ok (.iconst 2, 1) := by decide +kernel
theorem dL_thing_20 : decode cL_thing 20 = .ok (.ireturn, 1) := by decide +kernel
theorem dL_thing_21 : decode cL_thing 21 = .ok (.iconst 0, 1) := by decide +kernel
theorem dL_thing_22 : decode cL_thing 22 = .ok (.ireturn, 1) := by decide +kernel
theorem dL_law_0 : decode cL_law 0 = .ok (.new 8, 3) := by decide +kernel
theorem dL_law_3 : decode cL_law 3 = .ok (.dup, 1) := by decide +kernel
theorem dL_law_4 : decode cL_law 4 = .ok (.invokespecial 17, 3) := by decide +kernel
theorem dL_law_7 : decode cL_law 7 = .ok (.astore_n 1, 1) := by decide +kernel
theorem dL_law_8 : decode cL_law 8 = .ok (.new 18, 3) := by decide +kernel
theorem dL_law_11 : decode cL_law 11 = .ok (.dup, 1) := by decide +kernel
theorem dL_law_12 : decode cL_law 12 = .ok (.invokespecial 20, 3) := by decide +kernel
theorem dL_law_15 : decode cL_law 15 = .ok (.astore_n 2, 1) := by decide +kernel
theorem dL_law_16 : decode cL_law 16 = .ok (.iconst 1, 1) := by decide +kernel
theorem dL_law_17 : decode cL_law 17 = .ok (.newarray .long, 2) := by decide +kernel
theorem dL_law_19 : decode cL_law 19 = .ok (.astore_n 3, 1) := by decide +kernel
theorem dL_law_20 : decode cL_law 20 = .ok (.iconst 0, 1) := by decide +kernel
theorem dL_law_21 : decode cL_law 21 = .ok (.istore 4, 2) := by decide +kernel
theorem dL_law_23 : decode cL_law 23 = .ok (.iload 4, 2) := by decide +kernel
theorem dL_law_25 : decode cL_law 25 = .ok (.aload_n 0, 1) := by decide +kernel
theorem dL_law_26 : decode cL_law 26 = .ok (.arraylength, 1) := by decide +kernel
theorem dL_law_27 : decode cL_law 27 = .ok (.bipush 6, 2) := by decide +kernel
theorem dL_law_29 : decode cL_law 29 = .ok (.isub, 1) := by decide +kernel
theorem dL_law_30 : decode cL_law 30 = .ok (.if_icmp .gt 1516, 3) := by decide +kernel
theorem dL_law_33 : decode cL_law 33 = .ok (.aload_n 0, 1) := by decide +kernel
theorem dL_law_34 : decode cL_law 34 = .ok (.iload 4, 2) := by decide +kernel
theorem dL_law_36 : decode cL_law 36 = .ok (.iaload, 1) := by decide +kernel
theorem dL_law_37 : decode cL_law 37 = .ok (.bipush 63, 2) := by decide +kernel
theorem dL_law_39 : decode cL_law 39 = .ok (.iand, 1) := by decide +kernel
theorem dL_law_40 : decode cL_law 40 = .ok (.tableswitch 1500 0 38 #[172, 245, 270, 295, 332, 400, 437, 474, 511, 536, 573, 623, 660, 713, 738, 763, 812, 825, 850, 863, 912, 937, 974, 987, 1012, 1049, 1111, 1136, 1149, 1174, 1251, 1276, 1301, 1326, 1387, 1436, 1449, 1462, 1475], 172) := by decide +kernel
theorem dL_law_212 : decode cL_law 212 = .ok (.aload_n 1, 1) := by decide +kernel
theorem dL_law_213 : decode cL_law 213 = .ok (.aload_n 0, 1) := by decide +kernel
theorem dL_law_214 : decode cL_law 214 = .ok (.iload 4, 2) := by decide +kernel
theorem dL_law_216 : decode cL_law 216 = .ok (.iconst 1, 1) := by decide +kernel
theorem dL_law_217 : decode cL_law 217 = .ok (.iadd, 1) := by decide +kernel
theorem dL_law_218 : decode cL_law 218 = .ok (.iaload, 1) := by decide +kernel
theorem dL_law_219 : decode cL_law 219 = .ok (.aload_n 0, 1) := by decide +kernel
theorem dL_law_220 : decode cL_law 220 = .ok (.iload 4, 2) := by decide +kernel
theorem dL_law_222 : decode cL_law 222 = .ok (.iconst 2, 1) := by decide +kernel
theorem dL_law_223 : decode cL_law 223 = .ok (.iadd, 1) := by decide +kernel
theorem dL_law_224 : decode cL_law 224 = .ok (.iaload, 1) := by decide +kernel
theorem dL_law_225 : decode cL_law 225 = .ok (.aload_n 0, 1) := by decide +kernel
theorem dL_law_226 : decode cL_law 226 = .ok (.iload 4, 2) := by decide +kernel
theorem dL_law_228 : decode cL_law 228 = .ok (.iconst 3, 1) := by decide +kernel
theorem dL_law_229 : decode cL_law 229 = .ok (.iadd, 1) := by decide +kernel
theorem dL_law_230 : decode cL_law 230 = .ok (.iaload, 1) := by decide +kernel
theorem dL_law_231 : decode cL_law 231 = .ok (.aload_n 0, 1) := by decide +kernel
theorem dL_law_232 : decode cL_law 232 = .ok (.iload 4, 2) := by decide +kernel
theorem dL_law_234 : decode cL_law 234 = .ok (.iconst 4, 1) := by decide +kernel
theorem dL_law_235 : decode cL_law 235 = .ok (.iadd, 1) := by decide +kernel
theorem dL_law_236 : decode cL_law 236 = .ok (.iaload, 1) := by decide +kernel
theorem dL_law_237 : decode cL_law 237 = .ok (.aload_n 0, 1) := by decide +kernel
theorem dL_law_238 : decode cL_law 238 = .ok (.iload 4, 2) := by decide +kernel
theorem dL_law_240 : decode cL_law 240 = .ok (.iconst 5, 1) := by decide +kernel
theorem dL_law_241 : decode cL_law 241 = .ok (.iadd, 1) := by decide +kernel
theorem dL_law_242 : decode cL_law 242 = .ok (.iaload, 1) := by decide +kernel
theorem dL_law_243 : decode cL_law 243 = .ok (.invokevirtual 21, 3) := by decide +kernel
theorem dL_law_246 : decode cL_law 246 = .ok (.aload_n 2, 1) := by decide +kernel
theorem dL_law_247 : decode cL_law 247 = .ok (.aload_n 0, 1) := by decide +kernel
theorem dL_law_248 : decode cL_law 248 = .ok (.iload 4, 2) := by decide +kernel
theorem dL_law_250 : decode cL_law 250 = .ok (.iconst 1, 1) := by decide +kernel
theorem dL_law_251 : decode cL_law 251 = .ok (.iadd, 1) := by decide +kernel
theorem dL_law_252 : decode cL_law 252 = .ok (.iaload, 1) := by decide +kernel
theorem dL_law_253 : decode cL_law 253 = .ok (.aload_n 0, 1) := by decide +kernel
theorem dL_law_254 : decode cL_law 254 = .ok (.iload 4, 2) := by decide +kernel
theorem dL_law_256 : decode cL_law 256 = .ok (.iconst 2, 1) := by decide +kernel
theorem dL_law_257 : decode cL_law 257 = .ok (.iadd, 1) := by decide +kernel
theorem dL_law_258 : decode cL_law 258 = .ok (.iaload, 1) := by decide +kernel
theorem dL_law_259 : decode cL_law 259 = .ok (.aload_n 0, 1) := by decide +kernel
theorem dL_law_260 : decode cL_law 260 = .ok (.iload 4, 2) := by decide +kernel
theorem dL_law_262 : decode cL_law 262 = .ok (.iconst 3, 1) := by decide +kernel
theorem dL_law_263 : decode cL_law 263 = .ok (.iadd, 1) := by decide +kernel
theorem dL_law_264 : decode cL_law 264 = .ok (.iaload, 1) := by decide +kernel
theorem dL_law_265 : decode cL_law 265 = .ok (.aload_n 0, 1) := by decide +kernel
theorem dL_law_266 : decode cL_law 266 = .ok (.iload 4, 2) := by decide +kernel
theorem dL_law_268 : decode cL_law 268 = .ok (.iconst 4, 1) := by decide +kernel
theorem dL_law_269 : decode cL_law 269 = .ok (.iadd, 1) := by decide +kernel
theorem dL_law_270 : decode cL_law 270 = .ok (.iaload, 1) := by decide +kernel
theorem dL_law_271 : decode cL_law 271 = .ok (.aload_n 0, 1) := by decide +kernel
theorem dL_law_272 : decode cL_law 272 = .ok (.iload 4, 2) := by decide +kernel
theorem dL_law_274 : decode cL_law 274 = .ok (.iconst 5, 1) := by decide +kernel
theorem dL_law_275 : decode cL_law 275 = .ok (.iadd, 1) := by decide +kernel
theorem dL_law_276 : decode cL_law 276 = .ok (.iaload, 1) := by decide +kernel
theorem dL_law_277 : decode cL_law 277 = .ok (.invokevirtual 25, 3) := by decide +kernel
theorem dL_law_280 : decode cL_law 280 = .ok (.if_icmp .eq 1260, 3) := by decide +kernel
theorem dL_law_283 : decode cL_law 283 = .ok (.iconst 0, 1) := by decide +kernel
theorem dL_law_284 : decode cL_law 284 = .ok (.ireturn, 1) := by decide +kernel
theorem dL_law_285 : decode cL_law 285 = .ok (.aload_n 1, 1) := by decide +kernel
theorem dL_law_286 : decode cL_law 286 = .ok (.aload_n 0, 1) := by decide +kernel
theorem dL_law_287 : decode cL_law 287 = .ok (.iload 4, 2) := by decide +kernel
theorem dL_law_289 : decode cL_law 289 = .ok (.iconst 1, 1) := by decide +kernel
theorem dL_law_290 : decode cL_law 290 = .ok (.iadd, 1) := by decide +kernel
theorem dL_law_291 : decode cL_law 291 = .ok (.iaload, 1) := by decide +kernel
theorem dL_law_292 : decode cL_law 292 = .ok (.invokevirtual 26, 3) := by decide +kernel
theorem dL_law_295 : decode cL_law 295 = .ok (.aload_n 2, 1) := by decide +kernel
theorem dL_law_296 : decode cL_law 296 = .ok (.aload_n 0, 1) := by decide +kernel
theorem dL_law_297 : decode cL_law 297 = .ok (.iload 4, 2) := by decide +kernel
theorem dL_law_299 : decode cL_law 299 = .ok (.iconst 1, 1) := by decide +kernel
theorem dL_law_300 : decode cL_law 300 = .ok (.iadd, 1) := by decide +kernel
theorem dL_law_301 : decode cL_law 301 = .ok (.iaload, 1) := by decide +kernel
theorem dL_law_302 : decode cL_law 302 = .ok (.invokevirtual 30, 3) := by decide +kernel
theorem dL_law_305 : decode cL_law 305 = .ok (.if_icmp .eq 1235, 3) := by decide +kernel
theorem dL_law_308 : decode cL_law 308 = .ok (.iconst 0, 1) := by decide +kernel
theorem dL_law_309 : decode cL_law 309 = .ok (.ireturn, 1) := by decide +kernel
theorem dL_law_310 : decode cL_law 310 = .ok (.aload_n 1, 1) := by decide +kernel
theorem dL_law_311 : decode cL_law 311 = .ok (.aload_n 0, 1) := by decide +kernel
theorem dL_law_312 : decode cL_law 312 = .ok (.iload 4, 2) := by decide +kernel
theorem dL_law_314 : decode cL_law 314 = .ok (.iconst 1, 1) := by decide +kernel
theorem dL_law_315 : decode cL_law 315 = .ok (.iadd, 1) := by decide +kernel
theorem dL_law_316 : decode cL_law 316 = .ok (.iaload, 1) := by decide +kernel
theorem dL_law_317 : decode cL_law 317 = .ok (.invokevirtual 31, 3) := by decide +kernel
theorem dL_law_320 : decode cL_law 320 = .ok (.aload_n 2, 1) := by decide +kernel
theorem dL_law_321 : decode cL_law 321 = .ok (.aload_n 0, 1) := by decide +kernel
theorem dL_law_322 : decode cL_law 322 = .ok (.iload 4, 2) := by decide +kernel
theorem dL_law_324 : decode cL_law 324 = .ok (.iconst 1, 1) := by decide +kernel
theorem dL_law_325 : decode cL_law 325 = .ok (.iadd, 1) := by decide +kernel
theorem dL_law_326 : decode cL_law 326 = .ok (.iaload, 1) := by decide +kernel
theorem dL_law_327 : decode cL_law 327 = .ok (.invokevirtual 34, 3) := by decide +kernel
theorem dL_law_330 : decode cL_law 330 = .ok (.if_icmp .eq 1210, 3) := by decide +kernel
theorem dL_law_333 : decode cL_law 333 = .ok (.iconst 0, 1) := by decide +kernel
theorem dL_law_334 : decode cL_law 334 = .ok (.ireturn, 1) := by decide +kernel
theorem dL_law_335 : decode cL_law 335 = .ok (.aload_n 1, 1) := by decide +kernel
theorem dL_law_336 : decode cL_law 336 = .ok (.aload_n 0, 1) := by decide +kernel
theorem dL_law_337 : decode cL_law 337 = .ok (.iload 4, 2) := by decide +kernel
theorem dL_law_339 : decode cL_law 339 = .ok (.iconst 1, 1) := by decide +kernel
theorem dL_law_340 : decode cL_law 340 = .ok (.iadd, 1) := by decide +kernel
theorem dL_law_341 : decode cL_law 341 = .ok (.iaload, 1) := by decide +kernel
theorem dL_law_342 : decode cL_law 342 = .ok (.aload_n 0, 1) := by decide +kernel
theorem dL_law_343 : decode cL_law 343 = .ok (.iload 4, 2) := by decide +kernel
theorem dL_law_345 : decode cL_law 345 = .ok (.iconst 2, 1) := by decide +kernel
theorem dL_law_346 : decode cL_law 346 = .ok (.iadd, 1) := by decide +kernel
theorem dL_law_347 : decode cL_law 347 = .ok (.iaload, 1) := by decide +kernel
theorem dL_law_348 : decode cL_law 348 = .ok (.invokevirtual 35, 3) := by decide +kernel
theorem dL_law_351 : decode cL_law 351 = .ok (.aload_n 2, 1) := by decide +kernel
theorem dL_law_352 : decode cL_law 352 = .ok (.aload_n 0, 1) := by decide +kernel
theorem dL_law_353 : decode cL_law 353 = .ok (.iload 4, 2) := by decide +kernel
theorem dL_law_355 : decode cL_law 355 = .ok (.iconst 1, 1) := by decide +kernel
theorem dL_law_356 : decode cL_law 356 = .ok (.iadd, 1) := by decide +kernel
theorem dL_law_357 : decode cL_law 357 = .ok (.iaload, 1) := by decide +kernel
theorem dL_law_358 : decode cL_law 358 = .ok (.aload_n 0, 1) := by decide +kernel
theorem dL_law_359 : decode cL_law 359 = .ok (.iload 4, 2) := by decide +kernel
theorem dL_law_361 : decode cL_law 361 = .ok (.iconst 2, 1) := by decide +kernel
theorem dL_law_362 : decode cL_law 362 = .ok (.iadd, 1) := by decide +kernel
theorem dL_law_363 : decode cL_law 363 = .ok (.iaload, 1) := by decide +kernel
theorem dL_law_364 : decode cL_law 364 = .ok (.invokevirtual 38, 3) := by decide +kernel
theorem dL_law_367 : decode cL_law 367 = .ok (.if_icmp .eq 1173, 3) := by decide +kernel
theorem dL_law_370 : decode cL_law 370 = .ok (.iconst 0, 1) := by decide +kernel
theorem dL_law_371 : decode cL_law 371 = .ok (.ireturn, 1) := by decide +kernel
theorem dL_law_372 : decode cL_law 372 = .ok (.aload_n 1, 1) := by decide +kernel
theorem dL_law_373 : decode cL_law 373 = .ok (.aload_n 0, 1) := by decide +kernel
theorem dL_law_374 : decode cL_law 374 = .ok (.iload 4, 2) := by decide +kernel
theorem dL_law_376 : decode cL_law 376 = .ok (.iconst 1, 1) := by decide +kernel
theorem dL_law_377 : decode cL_law 377 = .ok (.iadd, 1) := by decide +kernel
theorem dL_law_378 : decode cL_law 378 = .ok (.iaload, 1) := by decide +kernel
theorem dL_law_379 : decode cL_law 379 = .ok (.aload_n 0, 1) := by decide +kernel
theorem dL_law_380 : decode cL_law 380 = .ok (.iload 4, 2) := by decide +kernel
theorem dL_law_382 : decode cL_law 382 = .ok (.iconst 2, 1) := by decide +kernel
theorem dL_law_383 : decode cL_law 383 = .ok (.iadd, 1) := by decide +kernel
theorem dL_law_384 : decode cL_law 384 = .ok (.iaload, 1) := by decide +kernel
theorem dL_law_385 : decode cL_law 385 = .ok (.aload_n 3, 1) := by decide +kernel
theorem dL_law_386 : decode cL_law 386 = .ok (.invokestatic 39, 3) := by decide +kernel
theorem dL_law_389 : decode cL_law 389 = .ok (.istore 5, 2) := by decide +kernel
theorem dL_law_391 : decode cL_law 391 = .ok (.aload_n 2, 1) := by decide +kernel
theorem dL_law_392 : decode cL_law 392 = .ok (.aload_n 0, 1) := by decide +kernel
theorem dL_law_393 : decode cL_law 393 = .ok (.iload 4, 2) := by decide +kernel
theorem dL_law_395 : decode cL_law 395 = .ok (.iconst 1, 1) := by decide +kernel
theorem dL_law_396 : decode cL_law 396 = .ok (.iadd, 1) := by decide +kernel
theorem dL_law_397 : decode cL_law 397 = .ok (.iaload, 1) := by decide +kernel
theorem dL_law_398 : decode cL_law 398 = .ok (.aload_n 0, 1) := by decide +kernel
theorem dL_law_399 : decode cL_law 399 = .ok (.iload 4, 2) := by decide +kernel
theorem dL_law_401 : decode cL_law 401 = .ok (.iconst 2, 1) := by decide +kernel
theorem dL_law_402 : decode cL_law 402 = .ok (.iadd, 1) := by decide +kernel
theorem dL_law_403 : decode cL_law 403 = .ok (.iaload, 1) := by decide +kernel
theorem dL_law_404 : decode cL_law 404 = .ok (.invokevirtual 44, 3) := by decide +kernel
theorem dL_law_407 : decode cL_law 407 = .ok (.istore 6, 2) := by decide +kernel
theorem dL_law_409 : decode cL_law 409 = .ok (.aload_n 2, 1) := by decide +kernel
theorem dL_law_410 : decode cL_law 410 = .ok (.invokevirtual 45, 3) := by decide +kernel
theorem dL_law_413 : decode cL_law 413 = .ok (.iload 5, 2) := by decide +kernel
theorem dL_law_415 : decode cL_law 415 = .ok (.if_icmp .eq 5, 3) := by decide +kernel
theorem dL_law_418 : decode cL_law 418 = .ok (.iconst 0, 1) := by decide +kernel
theorem dL_law_419 : decode cL_law 419 = .ok (.ireturn, 1) := by decide +kernel
theorem dL_law_420 : decode cL_law 420 = .ok (.iload 5, 2) := by decide +kernel
theorem dL_law_422 : decode cL_law 422 = .ok (.ifCond .ne 15, 3) := by decide +kernel
theorem dL_law_425 : decode cL_law 425 = .ok (.aload_n 3, 1) := by decide +kernel
theorem dL_law_426 : decode cL_law 426 = .ok (.iconst 0, 1) := by decide +kernel
theorem dL_law_427 : decode cL_law 427 = .ok (.laload, 1) := by decide +kernel
theorem dL_law_428 : decode cL_law 428 = .ok (.iload 6, 2) := by decide +kernel
theorem dL_law_430 : decode cL_law 430 = .ok (.i2l, 1) := by decide +kernel
theorem dL_law_431 : decode cL_law 431 = .ok (.lcmp, 1) := by decide +kernel
theorem dL_law_432 : decode cL_law 432 = .ok (.ifCond .eq 5, 3) := by decide +kernel
theorem dL_law_435 : decode cL_law 435 = .ok (.iconst 0, 1) := by decide +kernel
theorem dL_law_436 : decode cL_law 436 = .ok (.ireturn, 1) := by decide +kernel
theorem dL_law_437 : decode cL_law 437 = .ok (.goto 1103, 3) := by decide +kernel
theorem dL_law_440 : decode cL_law 440 = .ok (.aload_n 1, 1) := by decide +kernel
theorem dL_law_441 : decode cL_law 441 = .ok (.aload_n 0, 1) := by decide +kernel
theorem dL_law_442 : decode cL_law 442 = .ok (.iload 4, 2) := by decide +kernel
theorem dL_law_444 : decode cL_law 444 = .ok (.iconst 1, 1) := by decide +kernel
theorem dL_law_445 : decode cL_law 445 = .ok (.iadd, 1) := by decide +kernel
theorem dL_law_446 : decode cL_law 446 = .ok (.iaload, 1) := by decide +kernel
theorem dL_law_447 : decode cL_law 447 = .ok (.aload_n 0, 1) := by decide +kernel
theorem dL_law_448 : decode cL_law 448 = .ok (.iload 4, 2) := by decide +kernel
theorem dL_law_450 : decode cL_law 450 = .ok (.iconst 2, 1) := by decide +kernel
theorem dL_law_451 : decode cL_law 451 = .ok (.iadd, 1) := by decide +kernel
theorem dL_law_452 : decode cL_law 452 = .ok (.iaload, 1) := by decide +kernel
theorem dL_law_453 : decode cL_law 453 = .ok (.invokevirtual 49, 3) := by decide +kernel
theorem dL_law_456 : decode cL_law 456 = .ok (.aload_n 2, 1) := by decide +kernel
theorem dL_law_457 : decode cL_law 457 = .ok (.aload_n 0, 1) := by decide +kernel
theorem dL_law_458 : decode cL_law 458 = .ok (.iload 4, 2) := by decide +kernel
theorem dL_law_460 : decode cL_law 460 = .ok (.iconst 1, 1) := by decide +kernel
theorem dL_law_461 : decode cL_law 461 = .ok (.iadd, 1) := by decide +kernel
theorem dL_law_462 : decode cL_law 462 = .ok (.iaload, 1) := by decide +kernel
theorem dL_law_463 : decode cL_law 463 = .ok (.aload_n 0, 1) := by decide +kernel
theorem dL_law_464 : decode cL_law 464 = .ok (.iload 4, 2) := by decide +kernel
theorem dL_law_466 : decode cL_law 466 = .ok (.iconst 2, 1) := by decide +kernel
theorem dL_law_467 : decode cL_law 467 = .ok (.iadd, 1) := by decide +kernel
theorem dL_law_468 : decode cL_law 468 = .ok (.iaload, 1) := by decide +kernel
theorem dL_law_469 : decode cL_law 469 = .ok (.invokevirtual 52, 3) := by decide +kernel
theorem dL_law_472 : decode cL_law 472 = .ok (.if_icmp .eq 1068, 3) := by decide +kernel
theorem dL_law_475 : decode cL_law 475 = .ok (.iconst 0, 1) := by decide +kernel
theorem dL_law_476 : decode cL_law 476 = .ok (.ireturn, 1) := by decide +kernel
theorem dL_law_477 : decode cL_law 477 = .ok (.aload_n 1, 1) := by decide +kernel
theorem dL_law_478 : decode cL_law 478 = .ok (.aload_n 0, 1) := by decide +kernel
theorem dL_law_479 : decode cL_law 479 = .ok (.iload 4, 2) := by decide +kernel
theorem dL_law_481 : decode cL_law 481 = .ok (.iconst 1, 1) := by decide +kernel
theorem dL_law_482 : decode cL_law 482 = .ok (.iadd, 1) := by decide +kernel
theorem dL_law_483 : decode cL_law 483 = .ok (.iaload, 1) := by decide +kernel
theorem dL_law_484 : decode cL_law 484 = .ok (.aload_n 0, 1) := by decide +kernel
theorem dL_law_485 : decode cL_law 485 = .ok (.iload 4, 2) := by decide +kernel
theorem dL_law_487 : decode cL_law 487 = .ok (.iconst 2, 1) := by decide +kernel
theorem dL_law_488 : decode cL_law 488 = .ok (.iadd, 1) := by decide +kernel
theorem dL_law_489 : decode cL_law 489 = .ok (.iaload, 1) := by decide +kernel
theorem dL_law_490 : decode cL_law 490 = .ok (.invokevirtual 53, 3) := by decide +kernel
theorem dL_law_493 : decode cL_law 493 = .ok (.aload_n 2, 1) := by decide +kernel
theorem dL_law_494 : decode cL_law 494 = .ok (.aload_n 0, 1) := by decide +kernel
theorem dL_law_495 : decode cL_law 495 = .ok (.iload 4, 2) := by decide +kernel
theorem dL_law_497 : decode cL_law 497 = .ok (.iconst 1, 1) := by decide +kernel
theorem dL_law_498 : decode cL_law 498 = .ok (.iadd, 1) := by decide +kernel
theorem dL_law_499 : decode cL_law 499 = .ok (.iaload, 1) := by decide +kernel
theorem dL_law_500 : decode cL_law 500 = .ok (.aload_n 0, 1) := by decide +kernel
theorem dL_law_501 : decode cL_law 501 = .ok (.iload 4, 2) := by decide +kernel
theorem dL_law_503 : decode cL_law 503 = .ok (.iconst 2, 1) := by decide +kernel
theorem dL_law_504 : decode cL_law 504 = .ok (.iadd, 1) := by decide +kernel
theorem dL_law_505 : decode cL_law 505 = .ok (.iaload, 1) := by decide +kernel
theorem dL_law_506 : decode cL_law 506 = .ok (.invokevirtual 56, 3) := by decide +kernel
theorem dL_law_509 : decode cL_law 509 = .ok (.if_icmp .eq 1031, 3) := by decide +kernel
theorem dL_law_512 : decode cL_law 512 = .ok (.iconst 0, 1) := by decide +kernel
theorem dL_law_513 : decode cL_law 513 = .ok (.ireturn, 1) := by decide +kernel
theorem dL_law_514 : decode cL_law 514 = .ok (.aload_n 1, 1) := by decide +kernel
theorem dL_law_515 : decode cL_law 515 = .ok (.aload_n 0, 1) := by decide +kernel
theorem dL_law_516 : decode cL_law 516 = .ok (.iload 4, 2) := by decide +kernel
theorem dL_law_518 : decode cL_law 518 = .ok (.iconst 1, 1) := by decide +kernel
theorem dL_law_519 : decode cL_law 519 = .ok (.iadd, 1) := by decide +kernel
theorem dL_law_520 : decode cL_law 520 = .ok (.iaload, 1) := by decide +kernel
theorem dL_law_521 : decode cL_law 521 = .ok (.aload_n 0, 1) := by decide +kernel
theorem dL_law_522 : decode cL_law 522 = .ok (.iload 4, 2) := by decide +kernel
theorem dL_law_524 : decode cL_law 524 = .ok (.iconst 2, 1) := by decide +kernel
theorem dL_law_525 : decode cL_law 525 = .ok (.iadd, 1) := by decide +kernel
theorem dL_law_526 : decode cL_law 526 = .ok (.iaload, 1) := by decide +kernel
theorem dL_law_527 : decode cL_law 527 = .ok (.invokevirtual 57, 3) := by decide +kernel
theorem dL_law_530 : decode cL_law 530 = .ok (.aload_n 2, 1) := by decide +kernel
theorem dL_law_531 : decode cL_law 531 = .ok (.aload_n 0, 1) := by decide +kernel
theorem dL_law_532 : decode cL_law 532 = .ok (.iload 4, 2) := by decide +kernel
theorem dL_law_534 : decode cL_law 534 = .ok (.iconst 1, 1) := by decide +kernel
theorem dL_law_535 : decode cL_law 535 = .ok (.iadd, 1) := by decide +kernel
theorem dL_law_536 : decode cL_law 536 = .ok (.iaload, 1) := by decide +kernel
theorem dL_law_537 : decode cL_law 537 = .ok (.aload_n 0, 1) := by decide +kernel
theorem dL_law_538 : decode cL_law 538 = .ok (.iload 4, 2) := by decide +kernel
theorem dL_law_540 : decode cL_law 540 = .ok (.iconst 2, 1) := by decide +kernel
theorem dL_law_541 : decode cL_law 541 = .ok (.iadd, 1) := by decide +kernel
theorem dL_law_542 : decode cL_law 542 = .ok (.iaload, 1) := by decide +kernel
theorem dL_law_543 : decode cL_law 543 = .ok (.invokevirtual 60, 3) := by decide +kernel
theorem dL_law_546 : decode cL_law 546 = .ok (.if_icmp .eq 994, 3) := by decide +kernel
theorem dL_law_549 : decode cL_law 549 = .ok (.iconst 0, 1) := by decide +kernel
theorem dL_law_550 : decode cL_law 550 = .ok (.ireturn, 1) := by decide +kernel
theorem dL_law_551 : decode cL_law 551 = .ok (.aload_n 1, 1) := by decide +kernel
theorem dL_law_552 : decode cL_law 552 = .ok (.aload_n 0, 1) := by decide +kernel
theorem dL_law_553 : decode cL_law 553 = .ok (.iload 4, 2) := by decide +kernel
theorem dL_law_555 : decode cL_law 555 = .ok (.iconst 1, 1) := by decide +kernel
theorem dL_law_556 : decode cL_law 556 = .ok (.iadd, 1) := by decide +kernel
theorem dL_law_557 : decode cL_law 557 = .ok (.iaload, 1) := by decide +kernel
theorem dL_law_558 : decode cL_law 558 = .ok (.invokevirtual 61, 3) := by decide +kernel
theorem dL_law_561 : decode cL_law 561 = .ok (.aload_n 2, 1) := by decide +kernel
theorem dL_law_562 : decode cL_law 562 = .ok (.aload_n 0, 1) := by decide +kernel
theorem dL_law_563 : decode cL_law 563 = .ok (.iload 4, 2) := by decide +kernel
theorem dL_law_565 : decode cL_law 565 = .ok (.iconst 1, 1) := by decide +kernel
theorem dL_law_566 : decode cL_law 566 = .ok (.iadd, 1) := by decide +kernel
theorem dL_law_567 : decode cL_law 567 = .ok (.iaload, 1) := by decide +kernel
theorem dL_law_568 : decode cL_law 568 = .ok (.invokevirtual 64, 3) := by decide +kernel
theorem dL_law_571 : decode cL_law 571 = .ok (.if_icmp .eq 969, 3) := by decide +kernel
theorem dL_law_574 : decode cL_law 574 = .ok (.iconst 0, 1) := by decide +kernel
theorem dL_law_575 : decode cL_law 575 = .ok (.ireturn, 1) := by decide +kernel
theorem dL_law_576 : decode cL_law 576 = .ok (.aload_n 1, 1) := by decide +kernel
theorem dL_law_577 : decode cL_law 577 = .ok (.aload_n 0, 1) := by decide +kernel
theorem dL_law_578 : decode cL_law 578 = .ok (.iload 4, 2) := by decide +kernel
theorem dL_law_580 : decode cL_law 580 = .ok (.iconst 1, 1) := by decide +kernel
theorem dL_law_581 : decode cL_law 581 = .ok (.iadd, 1) := by decide +kernel
theorem dL_law_582 : decode cL_law 582 = .ok (.iaload, 1) := by decide +kernel
theorem dL_law_583 : decode cL_law 583 = .ok (.aload_n 0, 1) := by decide +kernel
theorem dL_law_584 : decode cL_law 584 = .ok (.iload 4, 2) := by decide +kernel
theorem dL_law_586 : decode cL_law 586 = .ok (.iconst 2, 1) := by decide +kernel
theorem dL_law_587 : decode cL_law 587 = .ok (.iadd, 1) := by decide +kernel
theorem dL_law_588 : decode cL_law 588 = .ok (.iaload, 1) := by decide +kernel
theorem dL_law_589 : decode cL_law 589 = .ok (.invokevirtual 65, 3) := by decide +kernel
theorem dL_law_592 : decode cL_law 592 = .ok (.aload_n 2, 1) := by decide +kernel
theorem dL_law_593 : decode cL_law 593 = .ok (.aload_n 0, 1) := by decide +kernel
theorem dL_law_594 : decode cL_law 594 = .ok (.iload 4, 2) := by decide +kernel
theorem dL_law_596 : decode cL_law 596 = .ok (.iconst 1, 1) := by decide +kernel
theorem dL_law_597 : decode cL_law 597 = .ok (.iadd, 1) := by decide +kernel
theorem dL_law_598 : decode cL_law 598 = .ok (.iaload, 1) := by decide +kernel
theorem dL_law_599 : decode cL_law 599 = .ok (.aload_n 0, 1) := by decide +kernel
theorem dL_law_600 : decode cL_law 600 = .ok (.iload 4, 2) := by decide +kernel
theorem dL_law_602 : decode cL_law 602 = .ok (.iconst 2, 1) := by decide +kernel
theorem dL_law_603 : decode cL_law 603 = .ok (.iadd, 1) := by decide +kernel
theorem dL_law_604 : decode cL_law 604 = .ok (.iaload, 1) := by decide +kernel
theorem dL_law_605 : decode cL_law 605 = .ok (.invokevirtual 68, 3) := by decide +kernel
theorem dL_law_608 : decode cL_law 608 = .ok (.if_icmp .eq 932, 3) := by decide +kernel
theorem dL_law_611 : decode cL_law 611 = .ok (.iconst 0, 1) := by decide +kernel
theorem dL_law_612 : decode cL_law 612 = .ok (.ireturn, 1) := by decide +kernel
theorem dL_law_613 : decode cL_law 613 = .ok (.aload_n 1, 1) := by decide +kernel
theorem dL_law_614 : decode cL_law 614 = .ok (.aload_n 0, 1) := by decide +kernel
theorem dL_law_615 : decode cL_law 615 = .ok (.iload 4, 2) := by decide +kernel
theorem dL_law_617 : decode cL_law 617 = .ok (.iconst 1, 1) := by decide +kernel
theorem dL_law_618 : decode cL_law 618 = .ok (.iadd, 1) := by decide +kernel
theorem dL_law_619 : decode cL_law 619 = .ok (.iaload, 1) := by decide +kernel
theorem dL_law_620 : decode cL_law 620 = .ok (.aload_n 0, 1) := by decide +kernel
theorem dL_law_621 : decode cL_law 621 = .ok (.iload 4, 2) := by decide +kernel
theorem dL_law_623 : decode cL_law 623 = .ok (.iconst 2, 1) := by decide +kernel
theorem dL_law_624 : decode cL_law 624 = .ok (.iadd, 1) := by decide +kernel
theorem dL_law_625 : decode cL_law 625 = .ok (.iaload, 1) := by decide +kernel
theorem dL_law_626 : decode cL_law 626 = .ok (.aload_n 0, 1) := by decide +kernel
theorem dL_law_627 : decode cL_law 627 = .ok (.iload 4, 2) := by decide +kernel
theorem dL_law_629 : decode cL_law 629 = .ok (.iconst 3, 1) := by decide +kernel
theorem dL_law_630 : decode cL_law 630 = .ok (.iadd, 1) := by decide +kernel
theorem dL_law_631 : decode cL_law 631 = .ok (.iaload, 1) := by decide +kernel
theorem dL_law_632 : decode cL_law 632 = .ok (.invokevirtual 69, 3) := by decide +kernel
theorem dL_law_635 : decode cL_law 635 = .ok (.aload_n 2, 1) := by decide +kernel
theorem dL_law_636 : decode cL_law 636 = .ok (.aload_n 0, 1) := by decide +kernel
theorem dL_law_637 : decode cL_law 637 = .ok (.iload 4, 2) := by decide +kernel
theorem dL_law_639 : decode cL_law 639 = .ok (.iconst 1, 1) := by decide +kernel
theorem dL_law_640 : decode cL_law 640 = .ok (.iadd, 1) := by decide +kernel
theorem dL_law_641 : decode cL_law 641 = .ok (.iaload, 1) := by decide +kernel
theorem dL_law_642 : decode cL_law 642 = .ok (.aload_n 0, 1) := by decide +kernel
theorem dL_law_643 : decode cL_law 643 = .ok (.iload 4, 2) := by decide +kernel
theorem dL_law_645 : decode cL_law 645 = .ok (.iconst 2, 1) := by decide +kernel
theorem dL_law_646 : decode cL_law 646 = .ok (.iadd, 1) := by decide +kernel
theorem dL_law_647 : decode cL_law 647 = .ok (.iaload, 1) := by decide +kernel
theorem dL_law_648 : decode cL_law 648 = .ok (.aload_n 0, 1) := by decide +kernel
theorem dL_law_649 : decode cL_law 649 = .ok (.iload 4, 2) := by decide +kernel
theorem dL_law_651 : decode cL_law 651 = .ok (.iconst 3, 1) := by decide +kernel
theorem dL_law_652 : decode cL_law 652 = .ok (.iadd, 1) := by decide +kernel
theorem dL_law_653 : decode cL_law 653 = .ok (.iaload, 1) := by decide +kernel
theorem dL_law_654 : decode cL_law 654 = .ok (.invokevirtual 73, 3) := by decide +kernel
theorem dL_law_657 : decode cL_law 657 = .ok (.lcmp, 1) := by decide +kernel
theorem dL_law_658 : decode cL_law 658 = .ok (.ifCond .eq 882, 3) := by decide +kernel
theorem dL_law_661 : decode cL_law 661 = .ok (.iconst 0, 1) := by decide +kernel
theorem dL_law_662 : decode cL_law 662 = .ok (.ireturn, 1) := by decide +kernel
theorem dL_law_663 : decode cL_law 663 = .ok (.aload_n 1, 1) := by decide +kernel
theorem dL_law_664 : decode cL_law 664 = .ok (.aload_n 0, 1) := by decide +kernel
theorem dL_law_665 : decode cL_law 665 = .ok (.iload 4, 2) := by decide +kernel
theorem dL_law_667 : decode cL_law 667 = .ok (.iconst 1, 1) := by decide +kernel
theorem dL_law_668 : decode cL_law 668 = .ok (.iadd, 1) := by decide +kernel
theorem dL_law_669 : decode cL_law 669 = .ok (.iaload, 1) := by decide +kernel
theorem dL_law_670 : decode cL_law 670 = .ok (.aload_n 0, 1) := by decide +kernel
theorem dL_law_671 : decode cL_law 671 = .ok (.iload 4, 2) := by decide +kernel
theorem dL_law_673 : decode cL_law 673 = .ok (.iconst 2, 1) := by decide +kernel
theorem dL_law_674 : decode cL_law 674 = .ok (.iadd, 1) := by decide +kernel
theorem dL_law_675 : decode cL_law 675 = .ok (.iaload, 1) := by decide +kernel
theorem dL_law_676 : decode cL_law 676 = .ok (.invokevirtual 74, 3) := by decide +kernel
theorem dL_law_679 : decode cL_law 679 = .ok (.aload_n 2, 1) := by decide +kernel
theorem dL_law_680 : decode cL_law 680 = .ok (.aload_n 0, 1) := by decide +kernel
theorem dL_law_681 : decode cL_law 681 = .ok (.iload 4, 2) := by decide +kernel
theorem dL_law_683 : decode cL_law 683 = .ok (.iconst 1, 1) := by decide +kernel
theorem dL_law_684 : decode cL_law 684 = .ok (.iadd, 1) := by decide +kernel
theorem dL_law_685 : decode cL_law 685 = .ok (.iaload, 1) := by decide +kernel
theorem dL_law_686 : decode cL_law 686 = .ok (.aload_n 0, 1) := by decide +kernel
theorem dL_law_687 : decode cL_law 687 = .ok (.iload 4, 2) := by decide +kernel
theorem dL_law_689 : decode cL_law 689 = .ok (.iconst 2, 1) := by decide +kernel
theorem dL_law_690 : decode cL_law 690 = .ok (.iadd, 1) := by decide +kernel
theorem dL_law_691 : decode cL_law 691 = .ok (.iaload, 1) := by decide +kernel
theorem dL_law_692 : decode cL_law 692 = .ok (.invokevirtual 78, 3) := by decide +kernel
theorem dL_law_695 : decode cL_law 695 = .ok (.if_icmp .eq 845, 3) := by decide +kernel
theorem dL_law_698 : decode cL_law 698 = .ok (.iconst 0, 1) := by decide +kernel
theorem dL_law_699 : decode cL_law 699 = .ok (.ireturn, 1) := by decide +kernel
theorem dL_law_700 : decode cL_law 700 = .ok (.aload_n 1, 1) := by decide +kernel
theorem dL_law_701 : decode cL_law 701 = .ok (.aload_n 0, 1) := by decide +kernel
theorem dL_law_702 : decode cL_law 702 = .ok (.iload 4, 2) := by decide +kernel
theorem dL_law_704 : decode cL_law 704 = .ok (.iconst 1, 1) := by decide +kernel
theorem dL_law_705 : decode cL_law 705 = .ok (.iadd, 1) := by decide +kernel
theorem dL_law_706 : decode cL_law 706 = .ok (.iaload, 1) := by decide +kernel
theorem dL_law_707 : decode cL_law 707 = .ok (.aload_n 0, 1) := by decide +kernel
theorem dL_law_708 : decode cL_law 708 = .ok (.iload 4, 2) := by decide +kernel
theorem dL_law_710 : decode cL_law 710 = .ok (.iconst 2, 1) := by decide +kernel
theorem dL_law_711 : decode cL_law 711 = .ok (.iadd, 1) := by decide +kernel
theorem dL_law_712 : decode cL_law 712 = .ok (.iaload, 1) := by decide +kernel
theorem dL_law_713 : decode cL_law 713 = .ok (.ifCond .eq 7, 3) := by decide +kernel
theorem dL_law_716 : decode cL_law 716 = .ok (.iconst 1, 1) := by decide +kernel
theorem dL_law_717 : decode cL_law 717 = .ok (.goto 4, 3) := by decide +kernel
theorem dL_law_720 : decode cL_law 720 = .ok (.iconst 0, 1) := by decide +kernel
theorem dL_law_721 : decode cL_law 721 = .ok (.invokevirtual 79, 3) := by decide +kernel
theorem dL_law_724 : decode cL_law 724 = .ok (.aload_n 2, 1) := by decide +kernel
theorem dL_law_725 : decode cL_law 725 = .ok (.aload_n 0, 1) := by decide +kernel
theorem dL_law_726 : decode cL_law 726 = .ok (.iload 4, 2) := by decide +kernel
theorem dL_law_728 : decode cL_law 728 = .ok (.iconst 1, 1) := by decide +kernel
theorem dL_law_729 : decode cL_law 729 = .ok (.iadd, 1) := by decide +kernel
theorem dL_law_730 : decode cL_law 730 = .ok (.iaload, 1) := by decide +kernel
theorem dL_law_731 : decode cL_law 731 = .ok (.aload_n 0, 1) := by decide +kernel
theorem dL_law_732 : decode cL_law 732 = .ok (.iload 4, 2) := by decide +kernel
theorem dL_law_734 : decode cL_law 734 = .ok (.iconst 2, 1) := by decide +kernel
theorem dL_law_735 : decode cL_law 735 = .ok (.iadd, 1) := by decide +kernel
theorem dL_law_736 : decode cL_law 736 = .ok (.iaload, 1) := by decide +kernel
theorem dL_law_737 : decode cL_law 737 = .ok (.ifCond .eq 7, 3) := by decide +kernel
theorem dL_law_740 : decode cL_law 740 = .ok (.iconst 1, 1) := by decide +kernel
theorem dL_law_741 : decode cL_law 741 = .ok (.goto 4, 3) := by decide +kernel
theorem dL_law_744 : decode cL_law 744 = .ok (.iconst 0, 1) := by decide +kernel
theorem dL_law_745 : decode cL_law 745 = .ok (.invokevirtual 83, 3) := by decide +kernel
theorem dL_law_748 : decode cL_law 748 = .ok (.if_icmp .eq 792, 3) := by decide +kernel
theorem dL_law_751 : decode cL_law 751 = .ok (.iconst 0, 1) := by decide +kernel
theorem dL_law_752 : decode cL_law 752 = .ok (.ireturn, 1) := by decide +kernel
theorem dL_law_753 : decode cL_law 753 = .ok (.aload_n 1, 1) := by decide +kernel
theorem dL_law_754 : decode cL_law 754 = .ok (.aload_n 0, 1) := by decide +kernel
theorem dL_law_755 : decode cL_law 755 = .ok (.iload 4, 2) := by decide +kernel
theorem dL_law_757 : decode cL_law 757 = .ok (.iconst 1, 1) := by decide +kernel
theorem dL_law_758 : decode cL_law 758 = .ok (.iadd, 1) := by decide +kernel
theorem dL_law_759 : decode cL_law 759 = .ok (.iaload, 1) := by decide +kernel
theorem dL_law_760 : decode cL_law 760 = .ok (.invokevirtual 84, 3) := by decide +kernel
theorem dL_law_763 : decode cL_law 763 = .ok (.aload_n 2, 1) := by decide +kernel
theorem dL_law_764 : decode cL_law 764 = .ok (.aload_n 0, 1) := by decide +kernel
theorem dL_law_765 : decode cL_law 765 = .ok (.iload 4, 2) := by decide +kernel
theorem dL_law_767 : decode cL_law 767 = .ok (.iconst 1, 1) := by decide +kernel
theorem dL_law_768 : decode cL_law 768 = .ok (.iadd, 1) := by decide +kernel
theorem dL_law_769 : decode cL_law 769 = .ok (.iaload, 1) := by decide +kernel
theorem dL_law_770 : decode cL_law 770 = .ok (.invokevirtual 88, 3) := by decide +kernel
theorem dL_law_773 : decode cL_law 773 = .ok (.if_icmp .eq 767, 3) := by decide +kernel
theorem dL_law_776 : decode cL_law 776 = .ok (.iconst 0, 1) := by decide +kernel
theorem dL_law_777 : decode cL_law 777 = .ok (.ireturn, 1) := by decide +kernel
theorem dL_law_778 : decode cL_law 778 = .ok (.aload_n 1, 1) := by decide +kernel
theorem dL_law_779 : decode cL_law 779 = .ok (.aload_n 0, 1) := by decide +kernel
theorem dL_law_780 : decode cL_law 780 = .ok (.iload 4, 2) := by decide +kernel
theorem dL_law_782 : decode cL_law 782 = .ok (.iconst 1, 1) := by decide +kernel
theorem dL_law_783 : decode cL_law 783 = .ok (.iadd, 1) := by decide +kernel
theorem dL_law_784 : decode cL_law 784 = .ok (.iaload, 1) := by decide +kernel
theorem dL_law_785 : decode cL_law 785 = .ok (.invokevirtual 89, 3) := by decide +kernel
theorem dL_law_788 : decode cL_law 788 = .ok (.aload_n 2, 1) := by decide +kernel
theorem dL_law_789 : decode cL_law 789 = .ok (.aload_n 0, 1) := by decide +kernel
theorem dL_law_790 : decode cL_law 790 = .ok (.iload 4, 2) := by decide +kernel
theorem dL_law_792 : decode cL_law 792 = .ok (.iconst 1, 1) := by decide +kernel
theorem dL_law_793 : decode cL_law 793 = .ok (.iadd, 1) := by decide +kernel
theorem dL_law_794 : decode cL_law 794 = .ok (.iaload, 1) := by decide +kernel
theorem dL_law_795 : decode cL_law 795 = .ok (.invokevirtual 92, 3) := by decide +kernel
theorem dL_law_798 : decode cL_law 798 = .ok (.if_icmp .eq 742, 3) := by decide +kernel
theorem dL_law_801 : decode cL_law 801 = .ok (.iconst 0, 1) := by decide +kernel
theorem dL_law_802 : decode cL_law 802 = .ok (.ireturn, 1) := by decide +kernel
theorem dL_law_803 : decode cL_law 803 = .ok (.aload_n 1, 1) := by decide +kernel
theorem dL_law_804 : decode cL_law 804 = .ok (.aload_n 0, 1) := by decide +kernel
theorem dL_law_805 : decode cL_law 805 = .ok (.iload 4, 2) := by decide +kernel
theorem dL_law_807 : decode cL_law 807 = .ok (.iconst 1, 1) := by decide +kernel
theorem dL_law_808 : decode cL_law 808 = .ok (.iadd, 1) := by decide +kernel
theorem dL_law_809 : decode cL_law 809 = .ok (.iaload, 1) := by decide +kernel
theorem dL_law_810 : decode cL_law 810 = .ok (.aload_n 0, 1) := by decide +kernel
theorem dL_law_811 : decode cL_law 811 = .ok (.iload 4, 2) := by decide +kernel
theorem dL_law_813 : decode cL_law 813 = .ok (.iconst 2, 1) := by decide +kernel
theorem dL_law_814 : decode cL_law 814 = .ok (.iadd, 1) := by decide +kernel
theorem dL_law_815 : decode cL_law 815 = .ok (.iaload, 1) := by decide +kernel
theorem dL_law_816 : decode cL_law 816 = .ok (.aload_n 0, 1) := by decide +kernel
theorem dL_law_817 : decode cL_law 817 = .ok (.iload 4, 2) := by decide +kernel
theorem dL_law_819 : decode cL_law 819 = .ok (.iconst 3, 1) := by decide +kernel
theorem dL_law_820 : decode cL_law 820 = .ok (.iadd, 1) := by decide +kernel
theorem dL_law_821 : decode cL_law 821 = .ok (.iaload, 1) := by decide +kernel
theorem dL_law_822 : decode cL_law 822 = .ok (.invokevirtual 93, 3) := by decide +kernel
theorem dL_law_825 : decode cL_law 825 = .ok (.aload_n 2, 1) := by decide +kernel
theorem dL_law_826 : decode cL_law 826 = .ok (.aload_n 0, 1) := by decide +kernel
theorem dL_law_827 : decode cL_law 827 = .ok (.iload 4, 2) := by decide +kernel
theorem dL_law_829 : decode cL_law 829 = .ok (.iconst 1, 1) := by decide +kernel
theorem dL_law_830 : decode cL_law 830 = .ok (.iadd, 1) := by decide +kernel
theorem dL_law_831 : decode cL_law 831 = .ok (.iaload, 1) := by decide +kernel
theorem dL_law_832 : decode cL_law 832 = .ok (.aload_n 0, 1) := by decide +kernel
theorem dL_law_833 : decode cL_law 833 = .ok (.iload 4, 2) := by decide +kernel
theorem dL_law_835 : decode cL_law 835 = .ok (.iconst 2, 1) := by decide +kernel
theorem dL_law_836 : decode cL_law 836 = .ok (.iadd, 1) := by decide +kernel
theorem dL_law_837 : decode cL_law 837 = .ok (.iaload, 1) := by decide +kernel
theorem dL_law_838 : decode cL_law 838 = .ok (.aload_n 0, 1) := by decide +kernel
theorem dL_law_839 : decode cL_law 839 = .ok (.iload 4, 2) := by decide +kernel
theorem dL_law_841 : decode cL_law 841 = .ok (.iconst 3, 1) := by decide +kernel
theorem dL_law_842 : decode cL_law 842 = .ok (.iadd, 1) := by decide +kernel
theorem dL_law_843 : decode cL_law 843 = .ok (.iaload, 1) := by decide +kernel
theorem dL_law_844 : decode cL_law 844 = .ok (.invokevirtual 97, 3) := by decide +kernel
theorem dL_law_847 : decode cL_law 847 = .ok (.if_icmp .eq 693, 3) := by decide +kernel
theorem dL_law_850 : decode cL_law 850 = .ok (.iconst 0, 1) := by decide +kernel
theorem dL_law_851 : decode cL_law 851 = .ok (.ireturn, 1) := by decide +kernel
theorem dL_law_852 : decode cL_law 852 = .ok (.aload_n 1, 1) := by decide +kernel
theorem dL_law_853 : decode cL_law 853 = .ok (.invokevirtual 98, 3) := by decide +kernel
theorem dL_law_856 : decode cL_law 856 = .ok (.aload_n 2, 1) := by decide +kernel
theorem dL_law_857 : decode cL_law 857 = .ok (.invokevirtual 101, 3) := by decide +kernel
theorem dL_law_860 : decode cL_law 860 = .ok (.if_icmp .eq 680, 3) := by decide +kernel
theorem dL_law_863 : decode cL_law 863 = .ok (.iconst 0, 1) := by decide +kernel
theorem dL_law_864 : decode cL_law 864 = .ok (.ireturn, 1) := by decide +kernel
theorem dL_law_865 : decode cL_law 865 = .ok (.aload_n 1, 1) := by decide +kernel
theorem dL_law_866 : decode cL_law 866 = .ok (.aload_n 0, 1) := by decide +kernel
theorem dL_law_867 : decode cL_law 867 = .ok (.iload 4, 2) := by decide +kernel
theorem dL_law_869 : decode cL_law 869 = .ok (.iconst 1, 1) := by decide +kernel
theorem dL_law_870 : decode cL_law 870 = .ok (.iadd, 1) := by decide +kernel
theorem dL_law_871 : decode cL_law 871 = .ok (.iaload, 1) := by decide +kernel
theorem dL_law_872 : decode cL_law 872 = .ok (.invokevirtual 102, 3) := by decide +kernel
theorem dL_law_875 : decode cL_law 875 = .ok (.aload_n 2, 1) := by decide +kernel
theorem dL_law_876 : decode cL_law 876 = .ok (.aload_n 0, 1) := by decide +kernel
theorem dL_law_877 : decode cL_law 877 = .ok (.iload 4, 2) := by decide +kernel
theorem dL_law_879 : decode cL_law 879 = .ok (.iconst 1, 1) := by decide +kernel
theorem dL_law_880 : decode cL_law 880 = .ok (.iadd, 1) := by decide +kernel
theorem dL_law_881 : decode cL_law 881 = .ok (.iaload, 1) := by decide +kernel
theorem dL_law_882 : decode cL_law 882 = .ok (.invokevirtual 105, 3) := by decide +kernel
theorem dL_law_885 : decode cL_law 885 = .ok (.if_icmp .eq 655, 3) := by decide +kernel
theorem dL_law_888 : decode cL_law 888 = .ok (.iconst 0, 1) := by decide +kernel
theorem dL_law_889 : decode cL_law 889 = .ok (.ireturn, 1) := by decide +kernel
theorem dL_law_890 : decode cL_law 890 = .ok (.aload_n 1, 1) := by decide +kernel
theorem dL_law_891 : decode cL_law 891 = .ok (.invokevirtual 106, 3) := by decide +kernel
theorem dL_law_894 : decode cL_law 894 = .ok (.aload_n 2, 1) := by decide +kernel
theorem dL_law_895 : decode cL_law 895 = .ok (.invokevirtual 109, 3) := by decide +kernel
theorem dL_law_898 : decode cL_law 898 = .ok (.if_icmp .eq 642, 3) := by decide +kernel
theorem dL_law_901 : decode cL_law 901 = .ok (.iconst 0, 1) := by decide +kernel
theorem dL_law_902 : decode cL_law 902 = .ok (.ireturn, 1) := by decide +kernel
theorem dL_law_903 : decode cL_law 903 = .ok (.aload_n 1, 1) := by decide +kernel
theorem dL_law_904 : decode cL_law 904 = .ok (.aload_n 0, 1) := by decide +kernel
theorem dL_law_905 : decode cL_law 905 = .ok (.iload 4, 2) := by decide +kernel
theorem dL_law_907 : decode cL_law 907 = .ok (.iconst 1, 1) := by decide +kernel
theorem dL_law_908 : decode cL_law 908 = .ok (.iadd, 1) := by decide +kernel
theorem dL_law_909 : decode cL_law 909 = .ok (.iaload, 1) := by decide +kernel
theorem dL_law_910 : decode cL_law 910 = .ok (.aload_n 0, 1) := by decide +kernel
theorem dL_law_911 : decode cL_law 911 = .ok (.iload 4, 2) := by decide +kernel
theorem dL_law_913 : decode cL_law 913 = .ok (.iconst 2, 1) := by decide +kernel
theorem dL_law_914 : decode cL_law 914 = .ok (.iadd, 1) := by decide +kernel
theorem dL_law_915 : decode cL_law 915 = .ok (.iaload, 1) := by decide +kernel
theorem dL_law_916 : decode cL_law 916 = .ok (.aload_n 0, 1) := by decide +kernel
theorem dL_law_917 : decode cL_law 917 = .ok (.iload 4, 2) := by decide +kernel
theorem dL_law_919 : decode cL_law 919 = .ok (.iconst 3, 1) := by decide +kernel
theorem dL_law_920 : decode cL_law 920 = .ok (.iadd, 1) := by decide +kernel
theorem dL_law_921 : decode cL_law 921 = .ok (.iaload, 1) := by decide +kernel
theorem dL_law_922 : decode cL_law 922 = .ok (.invokevirtual 110, 3) := by decide +kernel
theorem dL_law_925 : decode cL_law 925 = .ok (.aload_n 2, 1) := by decide +kernel
theorem dL_law_926 : decode cL_law 926 = .ok (.aload_n 0, 1) := by decide +kernel
theorem dL_law_927 : decode cL_law 927 = .ok (.iload 4, 2) := by decide +kernel
theorem dL_law_929 : decode cL_law 929 = .ok (.iconst 1, 1) := by decide +kernel
theorem dL_law_930 : decode cL_law 930 = .ok (.iadd, 1) := by decide +kernel
theorem dL_law_931 : decode cL_law 931 = .ok (.iaload, 1) := by decide +kernel
theorem dL_law_932 : decode cL_law 932 = .ok (.aload_n 0, 1) := by decide +kernel
theorem dL_law_933 : decode cL_law 933 = .ok (.iload 4, 2) := by decide +kernel
theorem dL_law_935 : decode cL_law 935 = .ok (.iconst 2, 1) := by decide +kernel
theorem dL_law_936 : decode cL_law 936 = .ok (.iadd, 1) := by decide +kernel
theorem dL_law_937 : decode cL_law 937 = .ok (.iaload, 1) := by decide +kernel
theorem dL_law_938 : decode cL_law 938 = .ok (.aload_n 0, 1) := by decide +kernel
theorem dL_law_939 : decode cL_law 939 = .ok (.iload 4, 2) := by decide +kernel
theorem dL_law_941 : decode cL_law 941 = .ok (.iconst 3, 1) := by decide +kernel
theorem dL_law_942 : decode cL_law 942 = .ok (.iadd, 1) := by decide +kernel
theorem dL_law_943 : decode cL_law 943 = .ok (.iaload, 1) := by decide +kernel
theorem dL_law_944 : decode cL_law 944 = .ok (.invokevirtual 113, 3) := by decide +kernel
theorem dL_law_947 : decode cL_law 947 = .ok (.if_icmp .eq 593, 3) := by decide +kernel
theorem dL_law_950 : decode cL_law 950 = .ok (.iconst 0, 1) := by decide +kernel
theorem dL_law_951 : decode cL_law 951 = .ok (.ireturn, 1) := by decide +kernel
theorem dL_law_952 : decode cL_law 952 = .ok (.aload_n 1, 1) := by decide +kernel
theorem dL_law_953 : decode cL_law 953 = .ok (.aload_n 0, 1) := by decide +kernel
theorem dL_law_954 : decode cL_law 954 = .ok (.iload 4, 2) := by decide +kernel
theorem dL_law_956 : decode cL_law 956 = .ok (.iconst 1, 1) := by decide +kernel
theorem dL_law_957 : decode cL_law 957 = .ok (.iadd, 1) := by decide +kernel
theorem dL_law_958 : decode cL_law 958 = .ok (.iaload, 1) := by decide +kernel
theorem dL_law_959 : decode cL_law 959 = .ok (.invokevirtual 114, 3) := by decide +kernel
theorem dL_law_962 : decode cL_law 962 = .ok (.aload_n 2, 1) := by decide +kernel
theorem dL_law_963 : decode cL_law 963 = .ok (.aload_n 0, 1) := by decide +kernel
theorem dL_law_964 : decode cL_law 964 = .ok (.iload 4, 2) := by decide +kernel
theorem dL_law_966 : decode cL_law 966 = .ok (.iconst 1, 1) := by decide +kernel
theorem dL_law_967 : decode cL_law 967 = .ok (.iadd, 1) := by decide +kernel
theorem dL_law_968 : decode cL_law 968 = .ok (.iaload, 1) := by decide +kernel
theorem dL_law_969 : decode cL_law 969 = .ok (.invokevirtual 117, 3) := by decide +kernel
theorem dL_law_972 : decode cL_law 972 = .ok (.if_icmp .eq 568, 3) := by decide +kernel
theorem dL_law_975 : decode cL_law 975 = .ok (.iconst 0, 1) := by decide +kernel
theorem dL_law_976 : decode cL_law 976 = .ok (.ireturn, 1) := by decide +kernel
theorem dL_law_977 : decode cL_law 977 = .ok (.aload_n 1, 1) := by decide +kernel
theorem dL_law_978 : decode cL_law 978 = .ok (.aload_n 0, 1) := by decide +kernel
theorem dL_law_979 : decode cL_law 979 = .ok (.iload 4, 2) := by decide +kernel
theorem dL_law_981 : decode cL_law 981 = .ok (.iconst 1, 1) := by decide +kernel
theorem dL_law_982 : decode cL_law 982 = .ok (.iadd, 1) := by decide +kernel
theorem dL_law_983 : decode cL_law 983 = .ok (.iaload, 1) := by decide +kernel
theorem dL_law_984 : decode cL_law 984 = .ok (.aload_n 0, 1) := by decide +kernel
theorem dL_law_985 : decode cL_law 985 = .ok (.iload 4, 2) := by decide +kernel
theorem dL_law_987 : decode cL_law 987 = .ok (.iconst 2, 1) := by decide +kernel
theorem dL_law_988 : decode cL_law 988 = .ok (.iadd, 1) := by decide +kernel
theorem dL_law_989 : decode cL_law 989 = .ok (.iaload, 1) := by decide +kernel
theorem dL_law_990 : decode cL_law 990 = .ok (.invokevirtual 118, 3) := by decide +kernel
theorem dL_law_993 : decode cL_law 993 = .ok (.aload_n 2, 1) := by decide +kernel
theorem dL_law_994 : decode cL_law 994 = .ok (.aload_n 0, 1) := by decide +kernel
theorem dL_law_995 : decode cL_law 995 = .ok (.iload 4, 2) := by decide +kernel
theorem dL_law_997 : decode cL_law 997 = .ok (.iconst 1, 1) := by decide +kernel
theorem dL_law_998 : decode cL_law 998 = .ok (.iadd, 1) := by decide +kernel
theorem dL_law_999 : decode cL_law 999 = .ok (.iaload, 1) := by decide +kernel
theorem dL_law_1000 : decode cL_law 1000 = .ok (.aload_n 0, 1) := by decide +kernel
theorem dL_law_1001 : decode cL_law 1001 = .ok (.iload 4, 2) := by decide +kernel
theorem dL_law_1003 : decode cL_law 1003 = .ok (.iconst 2, 1) := by decide +kernel
theorem dL_law_1004 : decode cL_law 1004 = .ok (.iadd, 1) := by decide +kernel
theorem dL_law_1005 : decode cL_law 1005 = .ok (.iaload, 1) := by decide +kernel
theorem dL_law_1006 : decode cL_law 1006 = .ok (.invokevirtual 121, 3) := by decide +kernel
theorem dL_law_1009 : decode cL_law 1009 = .ok (.if_icmp .eq 531, 3) := by decide +kernel
theorem dL_law_1012 : decode cL_law 1012 = .ok (.iconst 0, 1) := by decide +kernel
theorem dL_law_1013 : decode cL_law 1013 = .ok (.ireturn, 1) := by decide +kernel
theorem dL_law_1014 : decode cL_law 1014 = .ok (.aload_n 1, 1) := by decide +kernel
theorem dL_law_1015 : decode cL_law 1015 = .ok (.invokevirtual 122, 3) := by decide +kernel
theorem dL_law_1018 : decode cL_law 1018 = .ok (.aload_n 2, 1) := by decide +kernel
theorem dL_law_1019 : decode cL_law 1019 = .ok (.invokevirtual 125, 3) := by decide +kernel
theorem dL_law_1022 : decode cL_law 1022 = .ok (.if_icmp .eq 518, 3) := by decide +kernel
theorem dL_law_1025 : decode cL_law 1025 = .ok (.iconst 0, 1) := by decide +kernel
theorem dL_law_1026 : decode cL_law 1026 = .ok (.ireturn, 1) := by decide +kernel
theorem dL_law_1027 : decode cL_law 1027 = .ok (.aload_n 1, 1) := by decide +kernel
theorem dL_law_1028 : decode cL_law 1028 = .ok (.aload_n 0, 1) := by decide +kernel
theorem dL_law_1029 : decode cL_law 1029 = .ok (.iload 4, 2) := by decide +kernel
theorem dL_law_1031 : decode cL_law 1031 = .ok (.iconst 1, 1) := by decide +kernel
theorem dL_law_1032 : decode cL_law 1032 = .ok (.iadd, 1) := by decide +kernel
theorem dL_law_1033 : decode cL_law 1033 = .ok (.iaload, 1) := by decide +kernel
theorem dL_law_1034 : decode cL_law 1034 = .ok (.invokevirtual 126, 3) := by decide +kernel
theorem dL_law_1037 : decode cL_law 1037 = .ok (.aload_n 2, 1) := by decide +kernel
theorem dL_law_1038 : decode cL_law 1038 = .ok (.aload_n 0, 1) := by decide +kernel
theorem dL_law_1039 : decode cL_law 1039 = .ok (.iload 4, 2) := by decide +kernel
theorem dL_law_1041 : decode cL_law 1041 = .ok (.iconst 1, 1) := by decide +kernel
theorem dL_law_1042 : decode cL_law 1042 = .ok (.iadd, 1) := by decide +kernel
theorem dL_law_1043 : decode cL_law 1043 = .ok (.iaload, 1) := by decide +kernel
theorem dL_law_1044 : decode cL_law 1044 = .ok (.invokevirtual 129, 3) := by decide +kernel
theorem dL_law_1047 : decode cL_law 1047 = .ok (.if_icmp .eq 493, 3) := by decide +kernel
theorem dL_law_1050 : decode cL_law 1050 = .ok (.iconst 0, 1) := by decide +kernel
theorem dL_law_1051 : decode cL_law 1051 = .ok (.ireturn, 1) := by decide +kernel
theorem dL_law_1052 : decode cL_law 1052 = .ok (.aload_n 1, 1) := by decide +kernel
theorem dL_law_1053 : decode cL_law 1053 = .ok (.aload_n 0, 1) := by decide +kernel
theorem dL_law_1054 : decode cL_law 1054 = .ok (.iload 4, 2) := by decide +kernel
theorem dL_law_1056 : decode cL_law 1056 = .ok (.iconst 1, 1) := by decide +kernel
theorem dL_law_1057 : decode cL_law 1057 = .ok (.iadd, 1) := by decide +kernel
theorem dL_law_1058 : decode cL_law 1058 = .ok (.iaload, 1) := by decide +kernel
theorem dL_law_1059 : decode cL_law 1059 = .ok (.aload_n 0, 1) := by decide +kernel
theorem dL_law_1060 : decode cL_law 1060 = .ok (.iload 4, 2) := by decide +kernel
theorem dL_law_1062 : decode cL_law 1062 = .ok (.iconst 2, 1) := by decide +kernel
theorem dL_law_1063 : decode cL_law 1063 = .ok (.iadd, 1) := by decide +kernel
theorem dL_law_1064 : decode cL_law 1064 = .ok (.iaload, 1) := by decide +kernel
theorem dL_law_1065 : decode cL_law 1065 = .ok (.invokevirtual 130, 3) := by decide +kernel
theorem dL_law_1068 : decode cL_law 1068 = .ok (.aload_n 2, 1) := by decide +kernel
theorem dL_law_1069 : decode cL_law 1069 = .ok (.aload_n 0, 1) := by decide +kernel
theorem dL_law_1070 : decode cL_law 1070 = .ok (.iload 4, 2) := by decide +kernel
theorem dL_law_1072 : decode cL_law 1072 = .ok (.iconst 1, 1) := by decide +kernel
theorem dL_law_1073 : decode cL_law 1073 = .ok (.iadd, 1) := by decide +kernel
theorem dL_law_1074 : decode cL_law 1074 = .ok (.iaload, 1) := by decide +kernel
theorem dL_law_1075 : decode cL_law 1075 = .ok (.aload_n 0, 1) := by decide +kernel
theorem dL_law_1076 : decode cL_law 1076 = .ok (.iload 4, 2) := by decide +kernel
theorem dL_law_1078 : decode cL_law 1078 = .ok (.iconst 2, 1) := by decide +kernel
theorem dL_law_1079 : decode cL_law 1079 = .ok (.iadd, 1) := by decide +kernel
theorem dL_law_1080 : decode cL_law 1080 = .ok (.iaload, 1) := by decide +kernel
theorem dL_law_1081 : decode cL_law 1081 = .ok (.invokevirtual 133, 3) := by decide +kernel
theorem dL_law_1084 : decode cL_law 1084 = .ok (.if_icmp .eq 456, 3) := by decide +kernel
theorem dL_law_1087 : decode cL_law 1087 = .ok (.iconst 0, 1) := by decide +kernel
theorem dL_law_1088 : decode cL_law 1088 = .ok (.ireturn, 1) := by decide +kernel
theorem dL_law_1089 : decode cL_law 1089 = .ok (.aload_n 1, 1) := by decide +kernel
theorem dL_law_1090 : decode cL_law 1090 = .ok (.aload_n 0, 1) := by decide +kernel
theorem dL_law_1091 : decode cL_law 1091 = .ok (.iload 4, 2) := by decide +kernel
theorem dL_law_1093 : decode cL_law 1093 = .ok (.iconst 1, 1) := by decide +kernel
theorem dL_law_1094 : decode cL_law 1094 = .ok (.iadd, 1) := by decide +kernel
theorem dL_law_1095 : decode cL_law 1095 = .ok (.iaload, 1) := by decide +kernel
theorem dL_law_1096 : decode cL_law 1096 = .ok (.aload_n 0, 1) := by decide +kernel
theorem dL_law_1097 : decode cL_law 1097 = .ok (.iload 4, 2) := by decide +kernel
theorem dL_law_1099 : decode cL_law 1099 = .ok (.iconst 2, 1) := by decide +kernel
theorem dL_law_1100 : decode cL_law 1100 = .ok (.iadd, 1) := by decide +kernel
theorem dL_law_1101 : decode cL_law 1101 = .ok (.iaload, 1) := by decide +kernel
theorem dL_law_1102 : decode cL_law 1102 = .ok (.aload_n 0, 1) := by decide +kernel
theorem dL_law_1103 : decode cL_law 1103 = .ok (.iload 4, 2) := by decide +kernel
theorem dL_law_1105 : decode cL_law 1105 = .ok (.iconst 3, 1) := by decide +kernel
theorem dL_law_1106 : decode cL_law 1106 = .ok (.iadd, 1) := by decide +kernel
theorem dL_law_1107 : decode cL_law 1107 = .ok (.iaload, 1) := by decide +kernel
theorem dL_law_1108 : decode cL_law 1108 = .ok (.aload_n 0, 1) := by decide +kernel
theorem dL_law_1109 : decode cL_law 1109 = .ok (.iload 4, 2) := by decide +kernel
theorem dL_law_1111 : decode cL_law 1111 = .ok (.iconst 4, 1) := by decide +kernel
theorem dL_law_1112 : decode cL_law 1112 = .ok (.iadd, 1) := by decide +kernel
theorem dL_law_1113 : decode cL_law 1113 = .ok (.iaload, 1) := by decide +kernel
theorem dL_law_1114 : decode cL_law 1114 = .ok (.invokevirtual 134, 3) := by decide +kernel
theorem dL_law_1117 : decode cL_law 1117 = .ok (.aload_n 2, 1) := by decide +kernel
theorem dL_law_1118 : decode cL_law 1118 = .ok (.aload_n 0, 1) := by decide +kernel
theorem dL_law_1119 : decode cL_law 1119 = .ok (.iload 4, 2) := by decide +kernel
theorem dL_law_1121 : decode cL_law 1121 = .ok (.iconst 1, 1) := by decide +kernel
theorem dL_law_1122 : decode cL_law 1122 = .ok (.iadd, 1) := by decide +kernel
theorem dL_law_1123 : decode cL_law 1123 = .ok (.iaload, 1) := by decide +kernel
theorem dL_law_1124 : decode cL_law 1124 = .ok (.aload_n 0, 1) := by decide +kernel
theorem dL_law_1125 : decode cL_law 1125 = .ok (.iload 4, 2) := by decide +kernel
theorem dL_law_1127 : decode cL_law 1127 = .ok (.iconst 2, 1) := by decide +kernel
theorem dL_law_1128 : decode cL_law 1128 = .ok (.iadd, 1) := by decide +kernel
theorem dL_law_1129 : decode cL_law 1129 = .ok (.iaload, 1) := by decide +kernel
theorem dL_law_1130 : decode cL_law 1130 = .ok (.aload_n 0, 1) := by decide +kernel
theorem dL_law_1131 : decode cL_law 1131 = .ok (.iload 4, 2) := by decide +kernel
theorem dL_law_1133 : decode cL_law 1133 = .ok (.iconst 3, 1) := by decide +kernel
theorem dL_law_1134 : decode cL_law 1134 = .ok (.iadd, 1) := by decide +kernel
theorem dL_law_1135 : decode cL_law 1135 = .ok (.iaload, 1) := by decide +kernel
theorem dL_law_1136 : decode cL_law 1136 = .ok (.aload_n 0, 1) := by decide +kernel
theorem dL_law_1137 : decode cL_law 1137 = .ok (.iload 4, 2) := by decide +kernel
theorem dL_law_1139 : decode cL_law 1139 = .ok (.iconst 4, 1) := by decide +kernel
theorem dL_law_1140 : decode cL_law 1140 = .ok (.iadd, 1) := by decide +kernel
theorem dL_law_1141 : decode cL_law 1141 = .ok (.iaload, 1) := by decide +kernel
theorem dL_law_1142 : decode cL_law 1142 = .ok (.invokevirtual 138, 3) := by decide +kernel
theorem dL_law_1145 : decode cL_law 1145 = .ok (.lcmp, 1) := by decide +kernel
theorem dL_law_1146 : decode cL_law 1146 = .ok (.ifCond .eq 394, 3) := by decide +kernel
theorem dL_law_1149 : decode cL_law 1149 = .ok (.iconst 0, 1) := by decide +kernel
theorem dL_law_1150 : decode cL_law 1150 = .ok (.ireturn, 1) := by decide +kernel
theorem dL_law_1151 : decode cL_law 1151 = .ok (.aload_n 1, 1) := by decide +kernel
theorem dL_law_1152 : decode cL_law 1152 = .ok (.aload_n 0, 1) := by decide +kernel
theorem dL_law_1153 : decode cL_law 1153 = .ok (.iload 4, 2) := by decide +kernel
theorem dL_law_1155 : decode cL_law 1155 = .ok (.iconst 1, 1) := by decide +kernel
theorem dL_law_1156 : decode cL_law 1156 = .ok (.iadd, 1) := by decide +kernel
theorem dL_law_1157 : decode cL_law 1157 = .ok (.iaload, 1) := by decide +kernel
theorem dL_law_1158 : decode cL_law 1158 = .ok (.invokevirtual 139, 3) := by decide +kernel
theorem dL_law_1161 : decode cL_law 1161 = .ok (.aload_n 2, 1) := by decide +kernel
theorem dL_law_1162 : decode cL_law 1162 = .ok (.aload_n 0, 1) := by decide +kernel
theorem dL_law_1163 : decode cL_law 1163 = .ok (.iload 4, 2) := by decide +kernel
theorem dL_law_1165 : decode cL_law 1165 = .ok (.iconst 1, 1) := by decide +kernel
theorem dL_law_1166 : decode cL_law 1166 = .ok (.iadd, 1) := by decide +kernel
theorem dL_law_1167 : decode cL_law 1167 = .ok (.iaload, 1) := by decide +kernel
theorem dL_law_1168 : decode cL_law 1168 = .ok (.invokevirtual 142, 3) := by decide +kernel
theorem dL_law_1171 : decode cL_law 1171 = .ok (.if_icmp .eq 369, 3) := by decide +kernel
theorem dL_law_1174 : decode cL_law 1174 = .ok (.iconst 0, 1) := by decide +kernel
theorem dL_law_1175 : decode cL_law 1175 = .ok (.ireturn, 1) := by decide +kernel
theorem dL_law_1176 : decode cL_law 1176 = .ok (.aload_n 1, 1) := by decide +kernel
theorem dL_law_1177 : decode cL_law 1177 = .ok (.invokevirtual 143, 3) := by decide +kernel
theorem dL_law_1180 : decode cL_law 1180 = .ok (.aload_n 2, 1) := by decide +kernel
theorem dL_law_1181 : decode cL_law 1181 = .ok (.invokevirtual 146, 3) := by decide +kernel
theorem dL_law_1184 : decode cL_law 1184 = .ok (.if_icmp .eq 356, 3) := by decide +kernel
theorem dL_law_1187 : decode cL_law 1187 = .ok (.iconst 0, 1) := by decide +kernel
theorem dL_law_1188 : decode cL_law 1188 = .ok (.ireturn, 1) := by decide +kernel
theorem dL_law_1189 : decode cL_law 1189 = .ok (.aload_n 1, 1) := by decide +kernel
theorem dL_law_1190 : decode cL_law 1190 = .ok (.aload_n 0, 1) := by decide +kernel
theorem dL_law_1191 : decode cL_law 1191 = .ok (.iload 4, 2) := by decide +kernel
theorem dL_law_1193 : decode cL_law 1193 = .ok (.iconst 1, 1) := by decide +kernel
theorem dL_law_1194 : decode cL_law 1194 = .ok (.iadd, 1) := by decide +kernel
theorem dL_law_1195 : decode cL_law 1195 = .ok (.iaload, 1) := by decide +kernel
theorem dL_law_1196 : decode cL_law 1196 = .ok (.invokevirtual 147, 3) := by decide +kernel
theorem dL_law_1199 : decode cL_law 1199 = .ok (.aload_n 2, 1) := by decide +kernel
theorem dL_law_1200 : decode cL_law 1200 = .ok (.aload_n 0, 1) := by decide +kernel
theorem dL_law_1201 : decode cL_law 1201 = .ok (.iload 4, 2) := by decide +kernel
theorem dL_law_1203 : decode cL_law 1203 = .ok (.iconst 1, 1) := by decide +kernel
theorem dL_law_1204 : decode cL_law 1204 = .ok (.iadd, 1) := by decide +kernel
theorem dL_law_1205 : decode cL_law 1205 = .ok (.iaload, 1) := by decide +kernel
theorem dL_law_1206 : decode cL_law 1206 = .ok (.invokevirtual 150, 3) := by decide +kernel
theorem dL_law_1209 : decode cL_law 1209 = .ok (.if_icmp .eq 331, 3) := by decide +kernel
theorem dL_law_1212 : decode cL_law 1212 = .ok (.iconst 0, 1) := by decide +kernel
theorem dL_law_1213 : decode cL_law 1213 = .ok (.ireturn, 1) := by decide +kernel
theorem dL_law_1214 : decode cL_law 1214 = .ok (.aload_n 1, 1) := by decide +kernel
theorem dL_law_1215 : decode cL_law 1215 = .ok (.aload_n 0, 1) := by decide +kernel
theorem dL_law_1216 : decode cL_law 1216 = .ok (.iload 4, 2) := by decide +kernel
theorem dL_law_1218 : decode cL_law 1218 = .ok (.iconst 1, 1) := by decide +kernel
theorem dL_law_1219 : decode cL_law 1219 = .ok (.iadd, 1) := by decide +kernel
theorem dL_law_1220 : decode cL_law 1220 = .ok (.iaload, 1) := by decide +kernel
theorem dL_law_1221 : decode cL_law 1221 = .ok (.aload_n 0, 1) := by decide +kernel
theorem dL_law_1222 : decode cL_law 1222 = .ok (.iload 4, 2) := by decide +kernel
theorem dL_law_1224 : decode cL_law 1224 = .ok (.iconst 2, 1) := by decide +kernel
theorem dL_law_1225 : decode cL_law 1225 = .ok (.iadd, 1) := by decide +kernel
theorem dL_law_1226 : decode cL_law 1226 = .ok (.iaload, 1) := by decide +kernel
theorem dL_law_1227 : decode cL_law 1227 = .ok (.aload_n 0, 1) := by decide +kernel
theorem dL_law_1228 : decode cL_law 1228 = .ok (.iload 4, 2) := by decide +kernel
theorem dL_law_1230 : decode cL_law 1230 = .ok (.iconst 3, 1) := by decide +kernel
theorem dL_law_1231 : decode cL_law 1231 = .ok (.iadd, 1) := by decide +kernel
theorem dL_law_1232 : decode cL_law 1232 = .ok (.iaload, 1) := by decide +kernel
theorem dL_law_1233 : decode cL_law 1233 = .ok (.aload_n 0, 1) := by decide +kernel
theorem dL_law_1234 : decode cL_law 1234 = .ok (.iload 4, 2) := by decide +kernel
theorem dL_law_1236 : decode cL_law 1236 = .ok (.iconst 4, 1) := by decide +kernel
theorem dL_law_1237 : decode cL_law 1237 = .ok (.iadd, 1) := by decide +kernel
theorem dL_law_1238 : decode cL_law 1238 = .ok (.iaload, 1) := by decide +kernel
theorem dL_law_1239 : decode cL_law 1239 = .ok (.ifCond .eq 7, 3) := by decide +kernel
theorem dL_law_1242 : decode cL_law 1242 = .ok (.iconst 1, 1) := by decide +kernel
theorem dL_law_1243 : decode cL_law 1243 = .ok (.goto 4, 3) := by decide +kernel
theorem dL_law_1246 : decode cL_law 1246 = .ok (.iconst 0, 1) := by decide +kernel
theorem dL_law_1247 : decode cL_law 1247 = .ok (.invokevirtual 151, 3) := by decide +kernel
theorem dL_law_1250 : decode cL_law 1250 = .ok (.aload_n 2, 1) := by decide +kernel
theorem dL_law_1251 : decode cL_law 1251 = .ok (.aload_n 0, 1) := by decide +kernel
theorem dL_law_1252 : decode cL_law 1252 = .ok (.iload 4, 2) := by decide +kernel
theorem dL_law_1254 : decode cL_law 1254 = .ok (.iconst 1, 1) := by decide +kernel
theorem dL_law_1255 : decode cL_law 1255 = .ok (.iadd, 1) := by decide +kernel
theorem dL_law_1256 : decode cL_law 1256 = .ok (.iaload, 1) := by decide +kernel
theorem dL_law_1257 : decode cL_law 1257 = .ok (.aload_n 0, 1) := by decide +kernel
theorem dL_law_1258 : decode cL_law 1258 = .ok (.iload 4, 2) := by decide +kernel
theorem dL_law_1260 : decode cL_law 1260 = .ok (.iconst 2, 1) := by decide +kernel
theorem dL_law_1261 : decode cL_law 1261 = .ok (.iadd, 1) := by decide +kernel
theorem dL_law_1262 : decode cL_law 1262 = .ok (.iaload, 1) := by decide +kernel
theorem dL_law_1263 : decode cL_law 1263 = .ok (.aload_n 0, 1) := by decide +kernel
theorem dL_law_1264 : decode cL_law 1264 = .ok (.iload 4, 2) := by decide +kernel
theorem dL_law_1266 : decode cL_law 1266 = .ok (.iconst 3, 1) := by decide +kernel
theorem dL_law_1267 : decode cL_law 1267 = .ok (.iadd, 1) := by decide +kernel
theorem dL_law_1268 : decode cL_law 1268 = .ok (.iaload, 1) := by decide +kernel
theorem dL_law_1269 : decode cL_law 1269 = .ok (.aload_n 0, 1) := by decide +kernel
theorem dL_law_1270 : decode cL_law 1270 = .ok (.iload 4, 2) := by decide +kernel
theorem dL_law_1272 : decode cL_law 1272 = .ok (.iconst 4, 1) := by decide +kernel
theorem dL_law_1273 : decode cL_law 1273 = .ok (.iadd, 1) := by decide +kernel
theorem dL_law_1274 : decode cL_law 1274 = .ok (.iaload, 1) := by decide +kernel
theorem dL_law_1275 : decode cL_law 1275 = .ok (.ifCond .eq 7, 3) := by decide +kernel
theorem dL_law_1278 : decode cL_law 1278 = .ok (.iconst 1, 1) := by decide +kernel
theorem dL_law_1279 : decode cL_law 1279 = .ok (.goto 4, 3) := by decide +kernel
theorem dL_law_1282 : decode cL_law 1282 = .ok (.iconst 0, 1) := by decide +kernel
theorem dL_law_1283 : decode cL_law 1283 = .ok (.invokevirtual 155, 3) := by decide +kernel
theorem dL_law_1286 : decode cL_law 1286 = .ok (.if_icmp .eq 254, 3) := by decide +kernel
theorem dL_law_1289 : decode cL_law 1289 = .ok (.iconst 0, 1) := by decide +kernel
theorem dL_law_1290 : decode cL_law 1290 = .ok (.ireturn, 1) := by decide +kernel
theorem dL_law_1291 : decode cL_law 1291 = .ok (.aload_n 1, 1) := by decide +kernel
theorem dL_law_1292 : decode cL_law 1292 = .ok (.aload_n 0, 1) := by decide +kernel
theorem dL_law_1293 : decode cL_law 1293 = .ok (.iload 4, 2) := by decide +kernel
theorem dL_law_1295 : decode cL_law 1295 = .ok (.iconst 1, 1) := by decide +kernel
theorem dL_law_1296 : decode cL_law 1296 = .ok (.iadd, 1) := by decide +kernel
theorem dL_law_1297 : decode cL_law 1297 = .ok (.iaload, 1) := by decide +kernel
theorem dL_law_1298 : decode cL_law 1298 = .ok (.invokevirtual 156, 3) := by decide +kernel
theorem dL_law_1301 : decode cL_law 1301 = .ok (.aload_n 2, 1) := by decide +kernel
theorem dL_law_1302 : decode cL_law 1302 = .ok (.aload_n 0, 1) := by decide +kernel
theorem dL_law_1303 : decode cL_law 1303 = .ok (.iload 4, 2) := by decide +kernel
theorem dL_law_1305 : decode cL_law 1305 = .ok (.iconst 1, 1) := by decide +kernel
theorem dL_law_1306 : decode cL_law 1306 = .ok (.iadd, 1) := by decide +kernel
theorem dL_law_1307 : decode cL_law 1307 = .ok (.iaload, 1) := by decide +kernel
theorem dL_law_1308 : decode cL_law 1308 = .ok (.invokevirtual 159, 3) := by decide +kernel
theorem dL_law_1311 : decode cL_law 1311 = .ok (.if_icmp .eq 229, 3) := by decide +kernel
theorem dL_law_1314 : decode cL_law 1314 = .ok (.iconst 0, 1) := by decide +kernel
theorem dL_law_1315 : decode cL_law 1315 = .ok (.ireturn, 1) := by decide +kernel
theorem dL_law_1316 : decode cL_law 1316 = .ok (.aload_n 1, 1) := by decide +kernel
theorem dL_law_1317 : decode cL_law 1317 = .ok (.aload_n 0, 1) := by decide +kernel
theorem dL_law_1318 : decode cL_law 1318 = .ok (.iload 4, 2) := by decide +kernel
theorem dL_law_1320 : decode cL_law 1320 = .ok (.iconst 1, 1) := by decide +kernel
theorem dL_law_1321 : decode cL_law 1321 = .ok (.iadd, 1) := by decide +kernel
theorem dL_law_1322 : decode cL_law 1322 = .ok (.iaload, 1) := by decide +kernel
theorem dL_law_1323 : decode cL_law 1323 = .ok (.invokevirtual 160, 3) := by decide +kernel
theorem dL_law_1326 : decode cL_law 1326 = .ok (.aload_n 2, 1) := by decide +kernel
theorem dL_law_1327 : decode cL_law 1327 = .ok (.aload_n 0, 1) := by decide +kernel
theorem dL_law_1328 : decode cL_law 1328 = .ok (.iload 4, 2) := by decide +kernel
theorem dL_law_1330 : decode cL_law 1330 = .ok (.iconst 1, 1) := by decide +kernel
theorem dL_law_1331 : decode cL_law 1331 = .ok (.iadd, 1) := by decide +kernel
theorem dL_law_1332 : decode cL_law 1332 = .ok (.iaload, 1) := by decide +kernel
theorem dL_law_1333 : decode cL_law 1333 = .ok (.invokevirtual 163, 3) := by decide +kernel
theorem dL_law_1336 : decode cL_law 1336 = .ok (.if_icmp .eq 204, 3) := by decide +kernel
theorem dL_law_1339 : decode cL_law 1339 = .ok (.iconst 0, 1) := by decide +kernel
theorem dL_law_1340 : decode cL_law 1340 = .ok (.ireturn, 1) := by decide +kernel
theorem dL_law_1341 : decode cL_law 1341 = .ok (.aload_n 1, 1) := by decide +kernel
theorem dL_law_1342 : decode cL_law 1342 = .ok (.aload_n 0, 1) := by decide +kernel
theorem dL_law_1343 : decode cL_law 1343 = .ok (.iload 4, 2) := by decide +kernel
theorem dL_law_1345 : decode cL_law 1345 = .ok (.iconst 1, 1) := by decide +kernel
theorem dL_law_1346 : decode cL_law 1346 = .ok (.iadd, 1) := by decide +kernel
theorem dL_law_1347 : decode cL_law 1347 = .ok (.iaload, 1) := by decide +kernel
theorem dL_law_1348 : decode cL_law 1348 = .ok (.invokevirtual 164, 3) := by decide +kernel
theorem dL_law_1351 : decode cL_law 1351 = .ok (.aload_n 2, 1) := by decide +kernel
theorem dL_law_1352 : decode cL_law 1352 = .ok (.aload_n 0, 1) := by decide +kernel
theorem dL_law_1353 : decode cL_law 1353 = .ok (.iload 4, 2) := by decide +kernel
theorem dL_law_1355 : decode cL_law 1355 = .ok (.iconst 1, 1) := by decide +kernel
theorem dL_law_1356 : decode cL_law 1356 = .ok (.iadd, 1) := by decide +kernel
theorem dL_law_1357 : decode cL_law 1357 = .ok (.iaload, 1) := by decide +kernel
theorem dL_law_1358 : decode cL_law 1358 = .ok (.invokevirtual 167, 3) := by decide +kernel
theorem dL_law_1361 : decode cL_law 1361 = .ok (.if_icmp .eq 179, 3) := by decide +kernel
theorem dL_law_1364 : decode cL_law 1364 = .ok (.iconst 0, 1) := by decide +kernel
theorem dL_law_1365 : decode cL_law 1365 = .ok (.ireturn, 1) := by decide +kernel
theorem dL_law_1366 : decode cL_law 1366 = .ok (.aload_n 1, 1) := by decide +kernel
theorem dL_law_1367 : decode cL_law 1367 = .ok (.aload_n 0, 1) := by decide +kernel
theorem dL_law_1368 : decode cL_law 1368 = .ok (.iload 4, 2) := by decide +kernel
theorem dL_law_1370 : decode cL_law 1370 = .ok (.iconst 1, 1) := by decide +kernel
theorem dL_law_1371 : decode cL_law 1371 = .ok (.iadd, 1) := by decide +kernel
theorem dL_law_1372 : decode cL_law 1372 = .ok (.iaload, 1) := by decide +kernel
theorem dL_law_1373 : decode cL_law 1373 = .ok (.aload_n 0, 1) := by decide +kernel
theorem dL_law_1374 : decode cL_law 1374 = .ok (.iload 4, 2) := by decide +kernel
theorem dL_law_1376 : decode cL_law 1376 = .ok (.iconst 2, 1) := by decide +kernel
theorem dL_law_1377 : decode cL_law 1377 = .ok (.iadd, 1) := by decide +kernel
theorem dL_law_1378 : decode cL_law 1378 = .ok (.iaload, 1) := by decide +kernel
theorem dL_law_1379 : decode cL_law 1379 = .ok (.aload_n 0, 1) := by decide +kernel
theorem dL_law_1380 : decode cL_law 1380 = .ok (.iload 4, 2) := by decide +kernel
theorem dL_law_1382 : decode cL_law 1382 = .ok (.iconst 3, 1) := by decide +kernel
theorem dL_law_1383 : decode cL_law 1383 = .ok (.iadd, 1) := by decide +kernel
theorem dL_law_1384 : decode cL_law 1384 = .ok (.iaload, 1) := by decide +kernel
theorem dL_law_1385 : decode cL_law 1385 = .ok (.aload_n 0, 1) := by decide +kernel
theorem dL_law_1386 : decode cL_law 1386 = .ok (.iload 4, 2) := by decide +kernel
theorem dL_law_1388 : decode cL_law 1388 = .ok (.iconst 4, 1) := by decide +kernel
theorem dL_law_1389 : decode cL_law 1389 = .ok (.iadd, 1) := by decide +kernel
theorem dL_law_1390 : decode cL_law 1390 = .ok (.iaload, 1) := by decide +kernel
theorem dL_law_1391 : decode cL_law 1391 = .ok (.invokevirtual 168, 3) := by decide +kernel
theorem dL_law_1394 : decode cL_law 1394 = .ok (.aload_n 2, 1) := by decide +kernel
theorem dL_law_1395 : decode cL_law 1395 = .ok (.aload_n 0, 1) := by decide +kernel
theorem dL_law_1396 : decode cL_law 1396 = .ok (.iload 4, 2) := by decide +kernel
theorem dL_law_1398 : decode cL_law 1398 = .ok (.iconst 1, 1) := by decide +kernel
theorem dL_law_1399 : decode cL_law 1399 = .ok (.iadd, 1) := by decide +kernel
theorem dL_law_1400 : decode cL_law 1400 = .ok (.iaload, 1) := by decide +kernel
theorem dL_law_1401 : decode cL_law 1401 = .ok (.aload_n 0, 1) := by decide +kernel
theorem dL_law_1402 : decode cL_law 1402 = .ok (.iload 4, 2) := by decide +kernel
theorem dL_law_1404 : decode cL_law 1404 = .ok (.iconst 2, 1) := by decide +kernel
theorem dL_law_1405 : decode cL_law 1405 = .ok (.iadd, 1) := by decide +kernel
theorem dL_law_1406 : decode cL_law 1406 = .ok (.iaload, 1) := by decide +kernel
theorem dL_law_1407 : decode cL_law 1407 = .ok (.aload_n 0, 1) := by decide +kernel
theorem dL_law_1408 : decode cL_law 1408 = .ok (.iload 4, 2) := by decide +kernel
theorem dL_law_1410 : decode cL_law 1410 = .ok (.iconst 3, 1) := by decide +kernel
theorem dL_law_1411 : decode cL_law 1411 = .ok (.iadd, 1) := by decide +kernel
theorem dL_law_1412 : decode cL_law 1412 = .ok (.iaload, 1) := by decide +kernel
theorem dL_law_1413 : decode cL_law 1413 = .ok (.aload_n 0, 1) := by decide +kernel
theorem dL_law_1414 : decode cL_law 1414 = .ok (.iload 4, 2) := by decide +kernel
theorem dL_law_1416 : decode cL_law 1416 = .ok (.iconst 4, 1) := by decide +kernel
theorem dL_law_1417 : decode cL_law 1417 = .ok (.iadd, 1) := by decide +kernel
theorem dL_law_1418 : decode cL_law 1418 = .ok (.iaload, 1) := by decide +kernel
theorem dL_law_1419 : decode cL_law 1419 = .ok (.invokevirtual 172, 3) := by decide +kernel
theorem dL_law_1422 : decode cL_law 1422 = .ok (.if_icmp .eq 118, 3) := by decide +kernel
theorem dL_law_1425 : decode cL_law 1425 = .ok (.iconst 0, 1) := by decide +kernel
theorem dL_law_1426 : decode cL_law 1426 = .ok (.ireturn, 1) := by decide +kernel
theorem dL_law_1427 : decode cL_law 1427 = .ok (.aload_n 1, 1) := by decide +kernel
theorem dL_law_1428 : decode cL_law 1428 = .ok (.aload_n 0, 1) := by decide +kernel
theorem dL_law_1429 : decode cL_law 1429 = .ok (.iload 4, 2) := by decide +kernel
theorem dL_law_1431 : decode cL_law 1431 = .ok (.iconst 1, 1) := by decide +kernel
theorem dL_law_1432 : decode cL_law 1432 = .ok (.iadd, 1) := by decide +kernel
theorem dL_law_1433 : decode cL_law 1433 = .ok (.iaload, 1) := by decide +kernel
theorem dL_law_1434 : decode cL_law 1434 = .ok (.aload_n 0, 1) := by decide +kernel
theorem dL_law_1435 : decode cL_law 1435 = .ok (.iload 4, 2) := by decide +kernel
theorem dL_law_1437 : decode cL_law 1437 = .ok (.iconst 2, 1) := by decide +kernel
theorem dL_law_1438 : decode cL_law 1438 = .ok (.iadd, 1) := by decide +kernel
theorem dL_law_1439 : decode cL_law 1439 = .ok (.iaload, 1) := by decide +kernel
theorem dL_law_1440 : decode cL_law 1440 = .ok (.aload_n 0, 1) := by decide +kernel
theorem dL_law_1441 : decode cL_law 1441 = .ok (.iload 4, 2) := by decide +kernel
theorem dL_law_1443 : decode cL_law 1443 = .ok (.iconst 3, 1) := by decide +kernel
theorem dL_law_1444 : decode cL_law 1444 = .ok (.iadd, 1) := by decide +kernel
theorem dL_law_1445 : decode cL_law 1445 = .ok (.iaload, 1) := by decide +kernel
theorem dL_law_1446 : decode cL_law 1446 = .ok (.invokevirtual 173, 3) := by decide +kernel
theorem dL_law_1449 : decode cL_law 1449 = .ok (.aload_n 2, 1) := by decide +kernel
theorem dL_law_1450 : decode cL_law 1450 = .ok (.aload_n 0, 1) := by decide +kernel
theorem dL_law_1451 : decode cL_law 1451 = .ok (.iload 4, 2) := by decide +kernel
theorem dL_law_1453 : decode cL_law 1453 = .ok (.iconst 1, 1) := by decide +kernel
theorem dL_law_1454 : decode cL_law 1454 = .ok (.iadd, 1) := by decide +kernel
theorem dL_law_1455 : decode cL_law 1455 = .ok (.iaload, 1) := by decide +kernel
theorem dL_law_1456 : decode cL_law 1456 = .ok (.aload_n 0, 1) := by decide +kernel
theorem dL_law_1457 : decode cL_law 1457 = .ok (.iload 4, 2) := by decide +kernel
theorem dL_law_1459 : decode cL_law 1459 = .ok (.iconst 2, 1) := by decide +kernel
theorem dL_law_1460 : decode cL_law 1460 = .ok (.iadd, 1) := by decide +kernel
theorem dL_law_1461 : decode cL_law 1461 = .ok (.iaload, 1) := by decide +kernel
theorem dL_law_1462 : decode cL_law 1462 = .ok (.aload_n 0, 1) := by decide +kernel
theorem dL_law_1463 : decode cL_law 1463 = .ok (.iload 4, 2) := by decide +kernel
theorem dL_law_1465 : decode cL_law 1465 = .ok (.iconst 3, 1) := by decide +kernel
theorem dL_law_1466 : decode cL_law 1466 = .ok (.iadd, 1) := by decide +kernel
theorem dL_law_1467 : decode cL_law 1467 = .ok (.iaload, 1) := by decide +kernel
theorem dL_law_1468 : decode cL_law 1468 = .ok (.invokevirtual 176, 3) := by decide +kernel
theorem dL_law_1471 : decode cL_law 1471 = .ok (.if_icmp .eq 69, 3) := by decide +kernel
theorem dL_law_1474 : decode cL_law 1474 = .ok (.iconst 0, 1) := by decide +kernel
theorem dL_law_1475 : decode cL_law 1475 = .ok (.ireturn, 1) := by decide +kernel
theorem dL_law_1476 : decode cL_law 1476 = .ok (.aload_n 1, 1) := by decide +kernel
theorem dL_law_1477 : decode cL_law 1477 = .ok (.invokevirtual 177, 3) := by decide +kernel
theorem dL_law_1480 : decode cL_law 1480 = .ok (.aload_n 2, 1) := by decide +kernel
theorem dL_law_1481 : decode cL_law 1481 = .ok (.invokevirtual 180, 3) := by decide +kernel
theorem dL_law_1484 : decode cL_law 1484 = .ok (.if_icmp .eq 56, 3) := by decide +kernel
theorem dL_law_1487 : decode cL_law 1487 = .ok (.iconst 0, 1) := by decide +kernel
theorem dL_law_1488 : decode cL_law 1488 = .ok (.ireturn, 1) := by decide +kernel
theorem dL_law_1489 : decode cL_law 1489 = .ok (.aload_n 1, 1) := by decide +kernel
theorem dL_law_1490 : decode cL_law 1490 = .ok (.invokevirtual 181, 3) := by decide +kernel
theorem dL_law_1493 : decode cL_law 1493 = .ok (.aload_n 2, 1) := by decide +kernel
theorem dL_law_1494 : decode cL_law 1494 = .ok (.invokevirtual 184, 3) := by decide +kernel
theorem dL_law_1497 : decode cL_law 1497 = .ok (.if_icmp .eq 43, 3) := by decide +kernel
theorem dL_law_1500 : decode cL_law 1500 = .ok (.iconst 0, 1) := by decide +kernel
theorem dL_law_1501 : decode cL_law 1501 = .ok (.ireturn, 1) := by decide +kernel
theorem dL_law_1502 : decode cL_law 1502 = .ok (.aload_n 1, 1) := by decide +kernel
theorem dL_law_1503 : decode cL_law 1503 = .ok (.invokevirtual 185, 3) := by decide +kernel
theorem dL_law_1506 : decode cL_law 1506 = .ok (.aload_n 2, 1) := by decide +kernel
theorem dL_law_1507 : decode cL_law 1507 = .ok (.invokevirtual 188, 3) := by decide +kernel
theorem dL_law_1510 : decode cL_law 1510 = .ok (.if_icmp .eq 30, 3) := by decide +kernel
theorem dL_law_1513 : decode cL_law 1513 = .ok (.iconst 0, 1) := by decide +kernel
theorem dL_law_1514 : decode cL_law 1514 = .ok (.ireturn, 1) := by decide +kernel
theorem dL_law_1515 : decode cL_law 1515 = .ok (.aload_n 1, 1) := by decide +kernel
theorem dL_law_1516 : decode cL_law 1516 = .ok (.aload_n 0, 1) := by decide +kernel
theorem dL_law_1517 : decode cL_law 1517 = .ok (.iload 4, 2) := by decide +kernel
theorem dL_law_1519 : decode cL_law 1519 = .ok (.iconst 1, 1) := by decide +kernel
theorem dL_law_1520 : decode cL_law 1520 = .ok (.iadd, 1) := by decide +kernel
theorem dL_law_1521 : decode cL_law 1521 = .ok (.iaload, 1) := by decide +kernel
theorem dL_law_1522 : decode cL_law 1522 = .ok (.invokevirtual 189, 3) := by decide +kernel
theorem dL_law_1525 : decode cL_law 1525 = .ok (.aload_n 2, 1) := by decide +kernel
theorem dL_law_1526 : decode cL_law 1526 = .ok (.aload_n 0, 1) := by decide +kernel
theorem dL_law_1527 : decode cL_law 1527 = .ok (.iload 4, 2) := by decide +kernel
theorem dL_law_1529 : decode cL_law 1529 = .ok (.iconst 1, 1) := by decide +kernel
theorem dL_law_1530 : decode cL_law 1530 = .ok (.iadd, 1) := by decide +kernel
theorem dL_law_1531 : decode cL_law 1531 = .ok (.iaload, 1) := by decide +kernel
theorem dL_law_1532 : decode cL_law 1532 = .ok (.invokevirtual 192, 3) := by decide +kernel
theorem dL_law_1535 : decode cL_law 1535 = .ok (.if_icmp .eq 5, 3) := by decide +kernel
theorem dL_law_1538 : decode cL_law 1538 = .ok (.iconst 0, 1) := by decide +kernel
theorem dL_law_1539 : decode cL_law 1539 = .ok (.ireturn, 1) := by decide +kernel
theorem dL_law_1540 : decode cL_law 1540 = .ok (.iinc 4 6, 3) := by decide +kernel
theorem dL_law_1543 : decode cL_law 1543 = .ok (.goto (-1520), 3) := by decide +kernel
theorem dL_law_1546 : decode cL_law 1546 = .ok (.iconst 1, 1) := by decide +kernel
theorem dL_law_1547 : decode cL_law 1547 = .ok (.ireturn, 1) := by decide +kernel
/-! the law: both worlds, the script, the loop -/
abbrev wC (w : fW) : fW := wz w 0 181 (fun _ _ => true)
abbrev wM (w : fW) : fW := wz w 181 221 (fun _ _ => true)
def LG (p : Program) (s : State) (m : MethodId) (b : Nat) (meth : Method) (c : Code) (w : fW) (L : Nat) (xs : Nat → Int32) : Prop :=
  Cx p s m #[Value.ref b] meth c code 7 RL (wC w) ∧ Cx p s m #[Value.ref b] meth c code 7 RL (wM w) ∧ va_X b L xs s s.heap ∧ b < s.heap.size ∧ fAD w ∧ w.2.2.1 0 = s.heap.size ∧ L ≤ 3072
/-- the row of one long that the law keeps -/
def LO (w : fW) (H : Heap) : Prop := ∃ f : Nat → Int64, H[w.2.2.1 221]? = some (vp_cell (w.2.1 2) (1, .inr (.inl f)))
def LH (Rel : fMem → fMem → Prop) (w : fW) (s : State) (b i : Nat) (μ ν : fMem) (H : Heap) (locs : List Loc) (ls : Array Slot) (cl sl : Nat) : Prop :=
  Rel μ ν ∧ fP (wC w) μ H ∧ fP (wM w) ν H ∧ LO w H ∧ va_S (fun q => s.heap.size ≤ q) s.heap H locs ∧ lv_has ls 7 [(0, .ref b), (1, .ref (w.2.2.1 0)), (2, .ref (w.2.2.1 181)), (3, .ref (w.2.2.1 221)), (4, .int (nI i))] ∧ cl ≤ 222 + i ∧ sl ≤ 8988 + 6 * i
def LI (Rel : fMem → fMem → Prop) (p : Program) (l : Launch) (e : Env) (s : State) (m : MethodId) (b : Nat) (below : List Frame) (meth : Method) (c : Code) (w : fW) (i pc : Nat) : Prop :=
  ∀ (μ ν : fMem) (H : Heap) (locs : List Loc) (ls : Array Slot) (cl sl : Nat), LH Rel w s b i μ ν H locs ls cl sl → W p l e room_1 s m #[Value.ref b] below meth c H locs cl sl (lw_Z below #[Value.ref b] s) (F0 m pc ls [])
/-- both answer alike, and stay alike -/
def Sim {α : Type} (Rel : fMem → fMem → Prop) (f g : fMem → Option (α × fMem)) : Prop := ∀ μ ν, Rel μ ν → ∃ r μ' ν', f μ = some (r, μ') ∧ g ν = some (r, ν') ∧ Rel μ' ν'
section RowsLaw
variable {p : Program} {l : Launch} {e : Env} {R : Room} {s : State} {m : MethodId} {below : List Frame} {meth : Method} {c : Code} {H : Heap} {locs : List Loc} {cells slots : Nat} {Q : State → Prop} {pc : Nat} {w : fW} {μ ν μ' ν' : fMem} {ls : Array Slot} {rest st0 : List Value} {b L i : Nat} {xs : Nat → Int32}
theorem l_arg (G : LG p s m b meth c w L xs) (hS : va_S (fun q => s.heap.size ≤ q) s.heap H locs) (h0 : ls[0]? = some (.val (.ref b))) (h4 : ls[4]? = some (.val (.int (nI i)))) (hi : i + 6 ≤ L) {k : Nat} {kk : Int} (hk : k < 6) (hkk : Int32.ofInt kk = nI k) (d0 : decode code pc = .ok (.aload_n 0, 1)) (d1 : decode code (pc + 1) = .ok (.iload 4, 2)) (d3 : decode code (pc + 3) = .ok (.iconst kk, 1)) (d4 : decode code (pc + 4) = .ok (.iadd, 1)) (d5 : decode code (pc + 5) = .ok (.iaload, 1))
    (K : W p l e R s m #[Value.ref b] below meth c H locs cells slots Q (F0 m (pc + 6) ls (.int (xs (i + k)) :: rest))) : W p l e R s m #[Value.ref b] below meth c H locs cells slots Q (F0 m pc ls rest) := by
  obtain ⟨⟨hx, hb, -⟩, -, hX, hbl, -, -, hL⟩ := G
  refine lv_aload_n hx hb d0 rfl h0 ?_
  refine lv_iload hx hb d1 h4 ?_
  refine lv_iconst (v := nI k) hx hb d3 hkk ?_
  refine lv_iadd hx hb d4 ?_
  rw [nI_add]
  refine va_sld hx hb hX hbl (Nat.not_le.mpr hbl) hS (vp_in_nI (by omega) (by omega)) d5 ?_
  rw [nI_clamp (by omega)]
  exact K
theorem fA_C {q : Nat} (hAD : fAD w) (h : fA (wC w) q) : w.2.2.1 0 ≤ q ∧ q < w.2.2.1 0 + 181 := by
  obtain ⟨k, hk, rfl⟩ := h
  have h2 : k < 181 := hk.2
  show w.2.2.1 0 ≤ w.2.2.1 k ∧ w.2.2.1 k < _
  rw [hAD k (by omega)]
  omega
theorem fA_M {q : Nat} (hAD : fAD w) (h : fA (wM w) q) : w.2.2.1 0 + 181 ≤ q ∧ q < w.2.2.1 0 + 221 := by
  obtain ⟨k, hk, rfl⟩ := h
  have h1 : 181 ≤ k := hk.1
  have h2 : k < 221 := hk.2
  show _ ≤ w.2.2.1 k ∧ w.2.2.1 k < _
  rw [hAD k (by omega)]
  omega
theorem keepC {H1 : Heap} (hAD : fAD w) (hz : H.size ≤ H1.size) (hk : ∀ q : Nat, q < H.size → ¬ fA (wC w) q → H1[q]? = H[q]?) (hPM : fP (wM w) ν H) (ho : LO w H) : fP (wM w) ν H1 ∧ LO w H1 := by
  refine ⟨fP_kept hPM (fun k h1 h2 => hk _ (fP_lt hPM h1 h2) (fun q => ?_)), ?_⟩
  · have := fA_C hAD q
    rw [hAD k (by omega)] at this
    omega
  · obtain ⟨f, hf⟩ := ho
    refine ⟨f, ?_⟩
    rw [hk _ (Array.getElem?_eq_some_iff.mp hf).1 (fun q => ?_)]
    · exact hf
    · have := fA_C hAD q
      rw [hAD 221 (by omega)] at this
      omega
theorem keepM {H1 : Heap} (hAD : fAD w) (hz : H.size ≤ H1.size) (hk : ∀ q : Nat, q < H.size → ¬ fA (wM w) q → H1[q]? = H[q]?) (hPC : fP (wC w) μ H) (ho : LO w H) : fP (wC w) μ H1 ∧ LO w H1 := by
  refine ⟨fP_kept hPC (fun k h1 h2 => hk _ (fP_lt hPC h1 h2) (fun q => ?_)), ?_⟩
  · have := fA_M hAD q
    rw [hAD k (by omega)] at this
    omega
  · obtain ⟨f, hf⟩ := ho
    refine ⟨f, ?_⟩
    rw [hk _ (Array.getElem?_eq_some_iff.mp hf).1 (fun q => ?_)]
    · exact hf
    · have := fA_M hAD q
      rw [hAD 221 (by omega)] at this
      omega
theorem lgC_i {a : Array Value} {r : Int32} (G : LG p s m b meth c w L xs) (hr : va_Run p l e R s m #[Value.ref b] below meth c H locs cells slots 0 0 (F0 m pc ls st0) rest (fQi (wC w) r μ' a) (fA (wC w))) (hS : va_S (fun q => s.heap.size ≤ q) s.heap H locs) (hP : fP (wM w) ν H) (ho : LO w H)
    (kk : ∀ (H1 : Heap) (locs1 : List Loc), fP (wC w) μ' H1 → fP (wM w) ν H1 → LO w H1 → va_S (fun q => s.heap.size ≤ q) s.heap H1 locs1 → W p l e R s m #[Value.ref b] below meth c H1 locs1 cells slots Q (F0 m (pc + 3) ls (.int r :: rest))) : W p l e R s m #[Value.ref b] below meth c H locs cells slots Q (F0 m pc ls st0) := by
  obtain ⟨-, -, -, -, hAD, h0, -⟩ := G
  have hAA : ∀ q, fA (wC w) q → s.heap.size ≤ q := fun q h => by have := fA_C hAD h; omega
  refine va_calli hr hS (fun q _ h => hAA q h) hAA (fun r' u t H1 locs1 ht _ hp hB hz hk hS1 => ?_)
  obtain ⟨k1, k2⟩ := keepC hAD hz hk hP ho
  rw [hp]
  exact kk H1 locs1 (by rw [← ht]; exact hB.1) k1 k2 hS1
theorem lgC_l {a : Array Value} {r : Int64} (G : LG p s m b meth c w L xs) (hr : va_Run p l e R s m #[Value.ref b] below meth c H locs cells slots 0 0 (F0 m pc ls st0) rest (fQl (wC w) r μ' a) (fA (wC w))) (hS : va_S (fun q => s.heap.size ≤ q) s.heap H locs) (hP : fP (wM w) ν H) (ho : LO w H)
    (kk : ∀ (H1 : Heap) (locs1 : List Loc), fP (wC w) μ' H1 → fP (wM w) ν H1 → LO w H1 → va_S (fun q => s.heap.size ≤ q) s.heap H1 locs1 → W p l e R s m #[Value.ref b] below meth c H1 locs1 cells slots Q (F0 m (pc + 3) ls (.long r :: rest))) : W p l e R s m #[Value.ref b] below meth c H locs cells slots Q (F0 m pc ls st0) := by
  obtain ⟨-, -, -, -, hAD, h0, -⟩ := G
  have hAA : ∀ q, fA (wC w) q → s.heap.size ≤ q := fun q h => by have := fA_C hAD h; omega
  refine va_calll hr hS (fun q _ h => hAA q h) hAA (fun r' u t H1 locs1 ht _ hp hB hz hk hS1 => ?_)
  obtain ⟨k1, k2⟩ := keepC hAD hz hk hP ho
  rw [hp]
  exact kk H1 locs1 (by rw [← ht]; exact hB.1) k1 k2 hS1
theorem lgM_i {a : Array Value} {r : Int32} (G : LG p s m b meth c w L xs) (hr : va_Run p l e R s m #[Value.ref b] below meth c H locs cells slots 0 0 (F0 m pc ls st0) rest (fQi (wM w) r ν' a) (fA (wM w))) (hS : va_S (fun q => s.heap.size ≤ q) s.heap H locs) (hP : fP (wC w) μ H) (ho : LO w H)
    (kk : ∀ (H1 : Heap) (locs1 : List Loc), fP (wM w) ν' H1 → fP (wC w) μ H1 → LO w H1 → va_S (fun q => s.heap.size ≤ q) s.heap H1 locs1 → W p l e R s m #[Value.ref b] below meth c H1 locs1 cells slots Q (F0 m (pc + 3) ls (.int r :: rest))) : W p l e R s m #[Value.ref b] below meth c H locs cells slots Q (F0 m pc ls st0) := by
  obtain ⟨-, -, -, -, hAD, h0, -⟩ := G
  have hAA : ∀ q, fA (wM w) q → s.heap.size ≤ q := fun q h => by have := fA_M hAD h; omega
  refine va_calli hr hS (fun q _ h => hAA q h) hAA (fun r' u t H1 locs1 ht _ hp hB hz hk hS1 => ?_)
  obtain ⟨k1, k2⟩ := keepM hAD hz hk hP ho
  rw [hp]
  exact kk H1 locs1 (by rw [← ht]; exact hB.1) k1 k2 hS1
theorem lgM_l {a : Array Value} {r : Int64} (G : LG p s m b meth c w L xs) (hr : va_Run p l e R s m #[Value.ref b] below meth c H locs cells slots 0 0 (F0 m pc ls st0) rest (fQl (wM w) r ν' a) (fA (wM w))) (hS : va_S (fun q => s.heap.size ≤ q) s.heap H locs) (hP : fP (wC w) μ H) (ho : LO w H)
    (kk : ∀ (H1 : Heap) (locs1 : List Loc), fP (wM w) ν' H1 → fP (wC w) μ H1 → LO w H1 → va_S (fun q => s.heap.size ≤ q) s.heap H1 locs1 → W p l e R s m #[Value.ref b] below meth c H1 locs1 cells slots Q (F0 m (pc + 3) ls (.long r :: rest))) : W p l e R s m #[Value.ref b] below meth c H locs cells slots Q (F0 m pc ls st0) := by
  obtain ⟨-, -, -, -, hAD, h0, -⟩ := G
  have hAA : ∀ q, fA (wM w) q → s.heap.size ≤ q := fun q h => by have := fA_M hAD h; omega
  refine va_calll hr hS (fun q _ h => hAA q h) hAA (fun r' u t H1 locs1 ht _ hp hB hz hk hS1 => ?_)
  obtain ⟨k1, k2⟩ := keepM hAD hz hk hP ho
  rw [hp]
  exact kk H1 locs1 (by rw [← ht]; exact hB.1) k1 k2 hS1
theorem l_old (hS : va_S (fun q => s.heap.size ≤ q) s.heap H locs) (h0 : w.2.2.1 0 = s.heap.size) (z : fZ) : ∀ a : Nat, a < s.heap.size → ¬ fG (w.1, w.2.1, w.2.2.1, z) a → H[a]? = s.heap[a]? := fun a h1 h2 => hS.2.1 a h1 (fun q => by omega)
end RowsLaw
theorem lg_cmp_self (x : Int64) : lg_cmp x x = 0 := by
  unfold lg_cmp
  rw [if_neg (by show ¬ x < x; exact Int64.lt_irrefl), if_pos rfl]
theorem l_next {Rel : fMem → fMem → Prop} {p : Program} {l : Launch} {e : Env} {s : State} {m : MethodId} {below : List Frame} {meth : Method} {c : Code} {w : fW} {b L i : Nat} {xs : Nat → Int32} {μ ν : fMem} {H : Heap} {locs : List Loc} {ls : Array Slot} {cl sl : Nat} (G : LG p s m b meth c w L xs) (next : LI Rel p l e s m b below meth c w (i + 6) 23) (hR : Rel μ ν) (hPC : fP (wC w) μ H) (hPM : fP (wM w) ν H) (ho : LO w H) (hS : va_S (fun q => s.heap.size ≤ q) s.heap H locs) (hl : lv_has ls 7 [(0, .ref b), (1, .ref (w.2.2.1 0)), (2, .ref (w.2.2.1 181)), (3, .ref (w.2.2.1 221)), (4, .int (nI i))]) (hcl : cl ≤ 222 + i) (hsl : sl ≤ 8988 + 6 * i) :
    W p l e room_1 s m #[Value.ref b] below meth c H locs cl sl (lw_Z below #[Value.ref b] s) (F0 m 1540 ls []) := by
  obtain ⟨⟨hx, hb, -⟩, -⟩ := id G
  refine lv_iinc (v := nI (i + 6)) (lv' := [(4, .int (nI (i + 6))), (0, .ref b), (1, .ref (w.2.2.1 0)), (2, .ref (w.2.2.1 181)), (3, .ref (w.2.2.1 221))]) hx hb dL_law_1540 hl (k := 4) rfl (nI_add i 6) (by decide) rfl (fun ls hl => ?_)
  refine lv_goto (tgt := 23) hx hb dL_law_1543 (by decide) ?_
  exact next μ ν H locs ls cl sl ⟨hR, hPC, hPM, ho, hS, lv_sub hl [1, 2, 3, 4, 0] rfl, by omega, by omega⟩
set_option maxRecDepth 100000 in
theorem cd_X10_feed : Cond.code yX10_feed cX10_feed 6 (some .int) ∈ gw := gw_mem 673 (by rfl) rfl
set_option maxRecDepth 100000 in
theorem cd_X11_feed : Cond.code yX11_feed cX11_feed 8 (some .int) ∈ gw := gw_mem 1583 (by rfl) rfl
set_option maxRecDepth 100000 in
theorem cd_X10_text : Cond.code yX10_text cX10_text 2 (some .int) ∈ gw := gw_mem 681 (by rfl) rfl
set_option maxRecDepth 100000 in
theorem cd_X11_text : Cond.code yX11_text cX11_text 3 (some .int) ∈ gw := gw_mem 1587 (by rfl) rfl
set_option maxRecDepth 100000 in
theorem cd_X10_fault : Cond.code yX10_fault cX10_fault 2 (some .int) ∈ gw := gw_mem 867 (by rfl) rfl
set_option maxRecDepth 100000 in
theorem cd_X11_fault : Cond.code yX11_fault cX11_fault 2 (some .int) ∈ gw := gw_mem 1715 (by rfl) rfl
set_option maxRecDepth 100000 in
theorem cd_X10_named : Cond.code yX10_named cX10_named 3 (some .int) ∈ gw := gw_mem 871 (by rfl) rfl
set_option maxRecDepth 100000 in
theorem cd_X11_named : Cond.code yX11_named cX11_named 3 (some .int) ∈ gw := gw_mem 1719 (by rfl) rfl
set_option maxRecDepth 100000 in
theorem cd_X10_room : Cond.code yX10_room cX10_room 3 (some .int) ∈ gw := gw_mem 876 (by rfl) rfl
set_option maxRecDepth 100000 in
theorem cd_X11_room : Cond.code yX11_room cX11_room 3 (some .int) ∈ gw := gw_mem 1731 (by rfl) rfl
set_option maxRecDepth 100000 in
theorem cd_X10_dead : Cond.code yX10_dead cX10_dead 3 (some .int) ∈ gw := gw_mem 898 (by rfl) rfl
set_option maxRecDepth 100000 in
theorem cd_X11_dead : Cond.code yX11_dead cX11_dead 3 (some .int) ∈ gw := gw_mem 1746 (by rfl) rfl
set_option maxRecDepth 100000 in
theorem cd_X10_door : Cond.code yX10_door cX10_door 3 (some .int) ∈ gw := gw_mem 902 (by rfl) rfl
set_option maxRecDepth 100000 in
theorem cd_X11_door : Cond.code yX11_door cX11_door 3 (some .int) ∈ gw := gw_mem 1754 (by rfl) rfl
set_option maxRecDepth 100000 in
theorem cd_X10_gauge : Cond.code yX10_gauge cX10_gauge 2 (some .int) ∈ gw := gw_mem 907 (by rfl) rfl
set_option maxRecDepth 100000 in
theorem cd_X11_gauge : Cond.code yX11_gauge cX11_gauge 2 (some .int) ∈ gw := gw_mem 1762 (by rfl) rfl
set_option maxRecDepth 100000 in
theorem cd_X10_liking : Cond.code yX10_liking cX10_liking 3 (some .int) ∈ gw := gw_mem 915 (by rfl) rfl
set_option maxRecDepth 100000 in
theorem cd_X11_liking : Cond.code yX11_liking cX11_liking 3 (some .int) ∈ gw := gw_mem 1770 (by rfl) rfl
set_option maxRecDepth 100000 in
theorem cd_X10_law : Cond.code yX10_law cX10_law 4 (some .long) ∈ gw := gw_mem 987 (by rfl) rfl
set_option maxRecDepth 100000 in
theorem cd_X11_law : Cond.code yX11_law cX11_law 4 (some .long) ∈ gw := gw_mem 1817 (by rfl) rfl
set_option maxRecDepth 100000 in
theorem cd_X10_hang : Cond.code yX10_hang cX10_hang 3 (some .boolean) ∈ gw := gw_mem 1010 (by rfl) rfl
set_option maxRecDepth 100000 in
theorem cd_X11_hang : Cond.code yX11_hang cX11_hang 3 (some .boolean) ∈ gw := gw_mem 1822 (by rfl) rfl
set_option maxRecDepth 100000 in
theorem cd_X10_rope : Cond.code yX10_rope cX10_rope 3 (some .boolean) ∈ gw := gw_mem 1023 (by rfl) rfl
set_option maxRecDepth 100000 in
theorem cd_X11_rope : Cond.code yX11_rope cX11_rope 3 (some .boolean) ∈ gw := gw_mem 1834 (by rfl) rfl
set_option maxRecDepth 100000 in
theorem cd_X10_dust : Cond.code yX10_dust cX10_dust 2 (some .boolean) ∈ gw := gw_mem 1031 (by rfl) rfl
set_option maxRecDepth 100000 in
theorem cd_X11_dust : Cond.code yX11_dust cX11_dust 2 (some .boolean) ∈ gw := gw_mem 1838 (by rfl) rfl
set_option maxRecDepth 100000 in
theorem cd_X10_go : Cond.code yX10_go cX10_go 2 (some .int) ∈ gw := gw_mem 1057 (by rfl) rfl
set_option maxRecDepth 100000 in
theorem cd_X11_go : Cond.code yX11_go cX11_go 3 (some .int) ∈ gw := gw_mem 1842 (by rfl) rfl
set_option maxRecDepth 100000 in
theorem cd_X10_ahead : Cond.code yX10_ahead cX10_ahead 4 (some .int) ∈ gw := gw_mem 1098 (by rfl) rfl
set_option maxRecDepth 100000 in
theorem cd_X11_ahead : Cond.code yX11_ahead cX11_ahead 4 (some .int) ∈ gw := gw_mem 1878 (by rfl) rfl
set_option maxRecDepth 100000 in
theorem cd_X10_comes : Cond.code yX10_comes cX10_comes 1 (some .int) ∈ gw := gw_mem 1106 (by rfl) rfl
set_option maxRecDepth 100000 in
theorem cd_X11_comes : Cond.code yX11_comes cX11_comes 1 (some .int) ∈ gw := gw_mem 1894 (by rfl) rfl
set_option maxRecDepth 100000 in
theorem cd_X10_sits : Cond.code yX10_sits cX10_sits 3 (some .int) ∈ gw := gw_mem 1111 (by rfl) rfl
set_option maxRecDepth 100000 in
theorem cd_X11_sits : Cond.code yX11_sits cX11_sits 3 (some .int) ∈ gw := gw_mem 1902 (by rfl) rfl
set_option maxRecDepth 100000 in
theorem cd_X10_quiet : Cond.code yX10_quiet cX10_quiet 3 (some .int) ∈ gw := gw_mem 1116 (by rfl) rfl
set_option maxRecDepth 100000 in
theorem cd_X11_quiet : Cond.code yX11_quiet cX11_quiet 3 (some .int) ∈ gw := gw_mem 1906 (by rfl) rfl
set_option maxRecDepth 100000 in
theorem cd_X10_leastMoved : Cond.code yX10_leastMoved cX10_leastMoved 8 (some .int) ∈ gw := gw_mem 1120 (by rfl) rfl
set_option maxRecDepth 100000 in
theorem cd_X11_leastMoved : Cond.code yX11_leastMoved cX11_leastMoved 8 (some .int) ∈ gw := gw_mem 1914 (by rfl) rfl
set_option maxRecDepth 100000 in
theorem cd_X10_hanging : Cond.code yX10_hanging cX10_hanging 2 (some .int) ∈ gw := gw_mem 1142 (by rfl) rfl
set_option maxRecDepth 100000 in
theorem cd_X11_hanging : Cond.code yX11_hanging cX11_hanging 3 (some .int) ∈ gw := gw_mem 1918 (by rfl) rfl
set_option maxRecDepth 100000 in
theorem cd_X10_steer : Cond.code yX10_steer cX10_steer 7 (some .int) ∈ gw := gw_mem 1173 (by rfl) rfl
set_option maxRecDepth 100000 in
theorem cd_X11_steer : Cond.code yX11_steer cX11_steer 7 (some .int) ∈ gw := gw_mem 1931 (by rfl) rfl
set_option maxRecDepth 100000 in
theorem cd_X10_rests : Cond.code yX10_rests cX10_rests 1 (some .int) ∈ gw := gw_mem 1181 (by rfl) rfl
set_option maxRecDepth 100000 in
theorem cd_X11_rests : Cond.code yX11_rests cX11_rests 1 (some .int) ∈ gw := gw_mem 1935 (by rfl) rfl
set_option maxRecDepth 100000 in
theorem cd_X10_rest : Cond.code yX10_rest cX10_rest 2 (some .int) ∈ gw := gw_mem 1206 (by rfl) rfl
set_option maxRecDepth 100000 in
theorem cd_X11_rest : Cond.code yX11_rest cX11_rest 2 (some .int) ∈ gw := gw_mem 1951 (by rfl) rfl
set_option maxRecDepth 100000 in
theorem cd_X10_way : Cond.code yX10_way cX10_way 5 (some .int) ∈ gw := gw_mem 1210 (by rfl) rfl
set_option maxRecDepth 100000 in
theorem cd_X11_way : Cond.code yX11_way cX11_way 6 (some .int) ∈ gw := gw_mem 1955 (by rfl) rfl
set_option maxRecDepth 100000 in
theorem cd_X10_likely : Cond.code yX10_likely cX10_likely 13 (some .long) ∈ gw := gw_mem 1218 (by rfl) rfl
set_option maxRecDepth 100000 in
theorem cd_X11_likely : Cond.code yX11_likely cX11_likely 11 (some .long) ∈ gw := gw_mem 1959 (by rfl) rfl
set_option maxRecDepth 100000 in
theorem cd_X10_tickets : Cond.code yX10_tickets cX10_tickets 4 (some .int) ∈ gw := gw_mem 1124 (by rfl) rfl
set_option maxRecDepth 100000 in
theorem cd_X11_tickets : Cond.code yX11_tickets cX11_tickets 6 (some .int) ∈ gw := gw_mem 1968 (by rfl) rfl
set_option maxRecDepth 100000 in
theorem cd_X10_shunned : Cond.code yX10_shunned cX10_shunned 5 (some .int) ∈ gw := gw_mem 1230 (by rfl) rfl
set_option maxRecDepth 100000 in
theorem cd_X11_shunned : Cond.code yX11_shunned cX11_shunned 5 (some .int) ∈ gw := gw_mem 1973 (by rfl) rfl
set_option maxRecDepth 100000 in
theorem cd_X10_loved : Cond.code yX10_loved cX10_loved 7 (some .int) ∈ gw := gw_mem 1234 (by rfl) rfl
set_option maxRecDepth 100000 in
theorem cd_X11_loved : Cond.code yX11_loved cX11_loved 7 (some .int) ∈ gw := gw_mem 1977 (by rfl) rfl
set_option maxRecDepth 100000 in
theorem cd_X10_note : Cond.code yX10_note cX10_note 5 (some .int) ∈ gw := gw_mem 1238 (by rfl) rfl
set_option maxRecDepth 100000 in
theorem cd_X11_note : Cond.code yX11_note cX11_note 5 (some .int) ∈ gw := gw_mem 1981 (by rfl) rfl
set_option maxRecDepth 100000 in
theorem cd_X10_out : Cond.code yX10_out cX10_out 2 (some .int) ∈ gw := gw_mem 1246 (by rfl) rfl
set_option maxRecDepth 100000 in
theorem cd_X11_out : Cond.code yX11_out cX11_out 2 (some .int) ∈ gw := gw_mem 1985 (by rfl) rfl
set_option maxRecDepth 100000 in
theorem cd_X10_known : Cond.code yX10_known cX10_known 2 (some .boolean) ∈ gw := gw_mem 1255 (by rfl) rfl
set_option maxRecDepth 100000 in
theorem cd_X11_known : Cond.code yX11_known cX11_known 2 (some .boolean) ∈ gw := gw_mem 1989 (by rfl) rfl
set_option maxRecDepth 100000 in
theorem cd_X10_tastes : Cond.code yX10_tastes cX10_tastes 4 (some .int) ∈ gw := gw_mem 1259 (by rfl) rfl
set_option maxRecDepth 100000 in
theorem cd_X11_tastes : Cond.code yX11_tastes cX11_tastes 5 (some .int) ∈ gw := gw_mem 1993 (by rfl) rfl
set_option maxRecDepth 100000 in
theorem cd_X10_chance : Cond.code yX10_chance cX10_chance 9 (some .int) ∈ gw := gw_mem 1130 (by rfl) rfl
set_option maxRecDepth 100000 in
theorem cd_X11_chance : Cond.code yX11_chance cX11_chance 9 (some .int) ∈ gw := gw_mem 2009 (by rfl) rfl
set_option maxRecDepth 100000 in
theorem cd_X10_tried : Cond.code yX10_tried cX10_tried 5 (some .int) ∈ gw := gw_mem 1138 (by rfl) rfl
set_option maxRecDepth 100000 in
theorem cd_X11_tried : Cond.code yX11_tried cX11_tried 5 (some .int) ∈ gw := gw_mem 2015 (by rfl) rfl
set_option maxRecDepth 100000 in
theorem cd_X10_undo : Cond.code yX10_undo cX10_undo 1 (some .int) ∈ gw := gw_mem 1035 (by rfl) rfl
set_option maxRecDepth 100000 in
theorem cd_X11_undo : Cond.code yX11_undo cX11_undo 1 (some .int) ∈ gw := gw_mem 2019 (by rfl) rfl
set_option maxRecDepth 100000 in
theorem cd_X10_keep : Cond.code yX10_keep cX10_keep 1 (some .int) ∈ gw := gw_mem 1044 (by rfl) rfl
set_option maxRecDepth 100000 in
theorem cd_X11_keep : Cond.code yX11_keep cX11_keep 1 (some .int) ∈ gw := gw_mem 2023 (by rfl) rfl
set_option maxRecDepth 100000 in
theorem cd_X10_back : Cond.code yX10_back cX10_back 1 (some .int) ∈ gw := gw_mem 1053 (by rfl) rfl
set_option maxRecDepth 100000 in
theorem cd_X11_back : Cond.code yX11_back cX11_back 1 (some .int) ∈ gw := gw_mem 2027 (by rfl) rfl
set_option maxRecDepth 100000 in
theorem cd_X10_count : Cond.code yX10_count cX10_count 2 (some .int) ∈ gw := gw_mem 997 (by rfl) rfl
set_option maxRecDepth 100000 in
theorem cd_X11_count : Cond.code yX11_count cX11_count 4 (some .int) ∈ gw := gw_mem 2031 (by rfl) rfl
theorem mv_L_21 : MV RL 21 10 yX10_feed cX10_feed 6 (some .int) 5 := ⟨gw_mem 670 (by decide +kernel) rfl, cd_X10_feed, gw_mem 111 (by decide +kernel) rfl, gw_mem 671 (by decide +kernel) rfl, gw_mem 672 (by decide +kernel) rfl, ⟨_, rfl, rfl⟩, by decide, by decide, by decide +kernel⟩
theorem mv_L_25 : MV RL 25 11 yX11_feed cX11_feed 8 (some .int) 5 := ⟨gw_mem 1580 (by decide +kernel) rfl, cd_X11_feed, gw_mem 127 (by decide +kernel) rfl, gw_mem 1581 (by decide +kernel) rfl, gw_mem 1582 (by decide +kernel) rfl, ⟨_, rfl, rfl⟩, by decide, by decide, by decide +kernel⟩
theorem mv_L_26 : MV RL 26 10 yX10_text cX10_text 2 (some .int) 1 := ⟨gw_mem 678 (by decide +kernel) rfl, cd_X10_text, gw_mem 111 (by decide +kernel) rfl, gw_mem 679 (by decide +kernel) rfl, gw_mem 680 (by decide +kernel) rfl, ⟨_, rfl, rfl⟩, by decide, by decide, by decide +kernel⟩
theorem mv_L_30 : MV RL 30 11 yX11_text cX11_text 3 (some .int) 1 := ⟨gw_mem 1584 (by decide +kernel) rfl, cd_X11_text, gw_mem 127 (by decide +kernel) rfl, gw_mem 1585 (by decide +kernel) rfl, gw_mem 1586 (by decide +kernel) rfl, ⟨_, rfl, rfl⟩, by decide, by decide, by decide +kernel⟩
theorem mv_L_31 : MV RL 31 10 yX10_fault cX10_fault 2 (some .int) 1 := ⟨gw_mem 864 (by decide +kernel) rfl, cd_X10_fault, gw_mem 111 (by decide +kernel) rfl, gw_mem 865 (by decide +kernel) rfl, gw_mem 866 (by decide +kernel) rfl, ⟨_, rfl, rfl⟩, by decide, by decide, by decide +kernel⟩
theorem mv_L_34 : MV RL 34 11 yX11_fault cX11_fault 2 (some .int) 1 := ⟨gw_mem 1712 (by decide +kernel) rfl, cd_X11_fault, gw_mem 127 (by decide +kernel) rfl, gw_mem 1713 (by decide +kernel) rfl, gw_mem 1714 (by decide +kernel) rfl, ⟨_, rfl, rfl⟩, by decide, by decide, by decide +kernel⟩
theorem mv_L_35 : MV RL 35 10 yX10_named cX10_named 3 (some .int) 2 := ⟨gw_mem 868 (by decide +kernel) rfl, cd_X10_named, gw_mem 111 (by decide +kernel) rfl, gw_mem 869 (by decide +kernel) rfl, gw_mem 870 (by decide +kernel) rfl, ⟨_, rfl, rfl⟩, by decide, by decide, by decide +kernel⟩
theorem mv_L_38 : MV RL 38 11 yX11_named cX11_named 3 (some .int) 2 := ⟨gw_mem 1716 (by decide +kernel) rfl, cd_X11_named, gw_mem 127 (by decide +kernel) rfl, gw_mem 1717 (by decide +kernel) rfl, gw_mem 1718 (by decide +kernel) rfl, ⟨_, rfl, rfl⟩, by decide, by decide, by decide +kernel⟩
theorem mv_L_49 : MV RL 49 10 yX10_room cX10_room 3 (some .int) 2 := ⟨gw_mem 873 (by decide +kernel) rfl, cd_X10_room, gw_mem 111 (by decide +kernel) rfl, gw_mem 874 (by decide +kernel) rfl, gw_mem 875 (by decide +kernel) rfl, ⟨_, rfl, rfl⟩, by decide, by decide, by decide +kernel⟩
theorem mv_L_52 : MV RL 52 11 yX11_room cX11_room 3 (some .int) 2 := ⟨gw_mem 1728 (by decide +kernel) rfl, cd_X11_room, gw_mem 127 (by decide +kernel) rfl, gw_mem 1729 (by decide +kernel) rfl, gw_mem 1730 (by decide +kernel) rfl, ⟨_, rfl, rfl⟩, by decide, by decide, by decide +kernel⟩
theorem mv_L_53 : MV RL 53 10 yX10_dead cX10_dead 3 (some .int) 2 := ⟨gw_mem 895 (by decide +kernel) rfl, cd_X10_dead, gw_mem 111 (by decide +kernel) rfl, gw_mem 896 (by decide +kernel) rfl, gw_mem 897 (by decide +kernel) rfl, ⟨_, rfl, rfl⟩, by decide, by decide, by decide +kernel⟩
theorem mv_L_56 : MV RL 56 11 yX11_dead cX11_dead 3 (some .int) 2 := ⟨gw_mem 1743 (by decide +kernel) rfl, cd_X11_dead, gw_mem 127 (by decide +kernel) rfl, gw_mem 1744 (by decide +kernel) rfl, gw_mem 1745 (by decide +kernel) rfl, ⟨_, rfl, rfl⟩, by decide, by decide, by decide +kernel⟩
theorem mv_L_57 : MV RL 57 10 yX10_door cX10_door 3 (some .int) 2 := ⟨gw_mem 899 (by decide +kernel) rfl, cd_X10_door, gw_mem 111 (by decide +kernel) rfl, gw_mem 900 (by decide +kernel) rfl, gw_mem 901 (by decide +kernel) rfl, ⟨_, rfl, rfl⟩, by decide, by decide, by decide +kernel⟩
theorem mv_L_60 : MV RL 60 11 yX11_door cX11_door 3 (some .int) 2 := ⟨gw_mem 1751 (by decide +kernel) rfl, cd_X11_door, gw_mem 127 (by decide +kernel) rfl, gw_mem 1752 (by decide +kernel) rfl, gw_mem 1753 (by decide +kernel) rfl, ⟨_, rfl, rfl⟩, by decide, by decide, by decide +kernel⟩
theorem mv_L_61 : MV RL 61 10 yX10_gauge cX10_gauge 2 (some .int) 1 := ⟨gw_mem 904 (by decide +kernel) rfl, cd_X10_gauge, gw_mem 111 (by decide +kernel) rfl, gw_mem 905 (by decide +kernel) rfl, gw_mem 906 (by decide +kernel) rfl, ⟨_, rfl, rfl⟩, by decide, by decide, by decide +kernel⟩
theorem mv_L_64 : MV RL 64 11 yX11_gauge cX11_gauge 2 (some .int) 1 := ⟨gw_mem 1759 (by decide +kernel) rfl, cd_X11_gauge, gw_mem 127 (by decide +kernel) rfl, gw_mem 1760 (by decide +kernel) rfl, gw_mem 1761 (by decide +kernel) rfl, ⟨_, rfl, rfl⟩, by decide, by decide, by decide +kernel⟩
theorem mv_L_65 : MV RL 65 10 yX10_liking cX10_liking 3 (some .int) 2 := ⟨gw_mem 912 (by decide +kernel) rfl, cd_X10_liking, gw_mem 111 (by decide +kernel) rfl, gw_mem 913 (by decide +kernel) rfl, gw_mem 914 (by decide +kernel) rfl, ⟨_, rfl, rfl⟩, by decide, by decide, by decide +kernel⟩
theorem mv_L_68 : MV RL 68 11 yX11_liking cX11_liking 3 (some .int) 2 := ⟨gw_mem 1767 (by decide +kernel) rfl, cd_X11_liking, gw_mem 127 (by decide +kernel) rfl, gw_mem 1768 (by decide +kernel) rfl, gw_mem 1769 (by decide +kernel) rfl, ⟨_, rfl, rfl⟩, by decide, by decide, by decide +kernel⟩
theorem mv_L_69 : MV RL 69 10 yX10_law cX10_law 4 (some .long) 3 := ⟨gw_mem 984 (by decide +kernel) rfl, cd_X10_law, gw_mem 111 (by decide +kernel) rfl, gw_mem 985 (by decide +kernel) rfl, gw_mem 986 (by decide +kernel) rfl, ⟨_, rfl, rfl⟩, by decide, by decide, by decide +kernel⟩
theorem mv_L_73 : MV RL 73 11 yX11_law cX11_law 4 (some .long) 3 := ⟨gw_mem 1814 (by decide +kernel) rfl, cd_X11_law, gw_mem 127 (by decide +kernel) rfl, gw_mem 1815 (by decide +kernel) rfl, gw_mem 1816 (by decide +kernel) rfl, ⟨_, rfl, rfl⟩, by decide, by decide, by decide +kernel⟩
theorem mv_L_74 : MV RL 74 10 yX10_hang cX10_hang 3 (some .boolean) 2 := ⟨gw_mem 1007 (by decide +kernel) rfl, cd_X10_hang, gw_mem 111 (by decide +kernel) rfl, gw_mem 1008 (by decide +kernel) rfl, gw_mem 1009 (by decide +kernel) rfl, ⟨_, rfl, rfl⟩, by decide, by decide, by decide +kernel⟩
theorem mv_L_78 : MV RL 78 11 yX11_hang cX11_hang 3 (some .boolean) 2 := ⟨gw_mem 1819 (by decide +kernel) rfl, cd_X11_hang, gw_mem 127 (by decide +kernel) rfl, gw_mem 1820 (by decide +kernel) rfl, gw_mem 1821 (by decide +kernel) rfl, ⟨_, rfl, rfl⟩, by decide, by decide, by decide +kernel⟩
theorem mv_L_79 : MV RL 79 10 yX10_rope cX10_rope 3 (some .boolean) 2 := ⟨gw_mem 1020 (by decide +kernel) rfl, cd_X10_rope, gw_mem 111 (by decide +kernel) rfl, gw_mem 1021 (by decide +kernel) rfl, gw_mem 1022 (by decide +kernel) rfl, ⟨_, rfl, rfl⟩, by decide, by decide, by decide +kernel⟩
theorem mv_L_83 : MV RL 83 11 yX11_rope cX11_rope 3 (some .boolean) 2 := ⟨gw_mem 1831 (by decide +kernel) rfl, cd_X11_rope, gw_mem 127 (by decide +kernel) rfl, gw_mem 1832 (by decide +kernel) rfl, gw_mem 1833 (by decide +kernel) rfl, ⟨_, rfl, rfl⟩, by decide, by decide, by decide +kernel⟩
theorem mv_L_84 : MV RL 84 10 yX10_dust cX10_dust 2 (some .boolean) 1 := ⟨gw_mem 1028 (by decide +kernel) rfl, cd_X10_dust, gw_mem 111 (by decide +kernel) rfl, gw_mem 1029 (by decide +kernel) rfl, gw_mem 1030 (by decide +kernel) rfl, ⟨_, rfl, rfl⟩, by decide, by decide, by decide +kernel⟩
theorem mv_L_88 : MV RL 88 11 yX11_dust cX11_dust 2 (some .boolean) 1 := ⟨gw_mem 1835 (by decide +kernel) rfl, cd_X11_dust, gw_mem 127 (by decide +kernel) rfl, gw_mem 1836 (by decide +kernel) rfl, gw_mem 1837 (by decide +kernel) rfl, ⟨_, rfl, rfl⟩, by decide, by decide, by decide +kernel⟩
theorem mv_L_89 : MV RL 89 10 yX10_go cX10_go 2 (some .int) 1 := ⟨gw_mem 1054 (by decide +kernel) rfl, cd_X10_go, gw_mem 111 (by decide +kernel) rfl, gw_mem 1055 (by decide +kernel) rfl, gw_mem 1056 (by decide +kernel) rfl, ⟨_, rfl, rfl⟩, by decide, by decide, by decide +kernel⟩
theorem mv_L_92 : MV RL 92 11 yX11_go cX11_go 3 (some .int) 1 := ⟨gw_mem 1839 (by decide +kernel) rfl, cd_X11_go, gw_mem 127 (by decide +kernel) rfl, gw_mem 1840 (by decide +kernel) rfl, gw_mem 1841 (by decide +kernel) rfl, ⟨_, rfl, rfl⟩, by decide, by decide, by decide +kernel⟩
theorem mv_L_93 : MV RL 93 10 yX10_ahead cX10_ahead 4 (some .int) 3 := ⟨gw_mem 1095 (by decide +kernel) rfl, cd_X10_ahead, gw_mem 111 (by decide +kernel) rfl, gw_mem 1096 (by decide +kernel) rfl, gw_mem 1097 (by decide +kernel) rfl, ⟨_, rfl, rfl⟩, by decide, by decide, by decide +kernel⟩
theorem mv_L_97 : MV RL 97 11 yX11_ahead cX11_ahead 4 (some .int) 3 := ⟨gw_mem 1875 (by decide +kernel) rfl, cd_X11_ahead, gw_mem 127 (by decide +kernel) rfl, gw_mem 1876 (by decide +kernel) rfl, gw_mem 1877 (by decide +kernel) rfl, ⟨_, rfl, rfl⟩, by decide, by decide, by decide +kernel⟩
theorem mv_L_98 : MV RL 98 10 yX10_comes cX10_comes 1 (some .int) 0 := ⟨gw_mem 1103 (by decide +kernel) rfl, cd_X10_comes, gw_mem 111 (by decide +kernel) rfl, gw_mem 1104 (by decide +kernel) rfl, gw_mem 1105 (by decide +kernel) rfl, ⟨_, rfl, rfl⟩, by decide, by decide, by decide +kernel⟩
theorem mv_L_101 : MV RL 101 11 yX11_comes cX11_comes 1 (some .int) 0 := ⟨gw_mem 1891 (by decide +kernel) rfl, cd_X11_comes, gw_mem 127 (by decide +kernel) rfl, gw_mem 1892 (by decide +kernel) rfl, gw_mem 1893 (by decide +kernel) rfl, ⟨_, rfl, rfl⟩, by decide, by decide, by decide +kernel⟩
theorem mv_L_102 : MV RL 102 10 yX10_sits cX10_sits 3 (some .int) 1 := ⟨gw_mem 1108 (by decide +kernel) rfl, cd_X10_sits, gw_mem 111 (by decide +kernel) rfl, gw_mem 1109 (by decide +kernel) rfl, gw_mem 1110 (by decide +kernel) rfl, ⟨_, rfl, rfl⟩, by decide, by decide, by decide +kernel⟩
theorem mv_L_105 : MV RL 105 11 yX11_sits cX11_sits 3 (some .int) 1 := ⟨gw_mem 1899 (by decide +kernel) rfl, cd_X11_sits, gw_mem 127 (by decide +kernel) rfl, gw_mem 1900 (by decide +kernel) rfl, gw_mem 1901 (by decide +kernel) rfl, ⟨_, rfl, rfl⟩, by decide, by decide, by decide +kernel⟩
theorem mv_L_106 : MV RL 106 10 yX10_quiet cX10_quiet 3 (some .int) 0 := ⟨gw_mem 1113 (by decide +kernel) rfl, cd_X10_quiet, gw_mem 111 (by decide +kernel) rfl, gw_mem 1114 (by decide +kernel) rfl, gw_mem 1115 (by decide +kernel) rfl, ⟨_, rfl, rfl⟩, by decide, by decide, by decide +kernel⟩
theorem mv_L_109 : MV RL 109 11 yX11_quiet cX11_quiet 3 (some .int) 0 := ⟨gw_mem 1903 (by decide +kernel) rfl, cd_X11_quiet, gw_mem 127 (by decide +kernel) rfl, gw_mem 1904 (by decide +kernel) rfl, gw_mem 1905 (by decide +kernel) rfl, ⟨_, rfl, rfl⟩, by decide, by decide, by decide +kernel⟩
theorem mv_L_110 : MV RL 110 10 yX10_leastMoved cX10_leastMoved 8 (some .int) 3 := ⟨gw_mem 1117 (by decide +kernel) rfl, cd_X10_leastMoved, gw_mem 111 (by decide +kernel) rfl, gw_mem 1118 (by decide +kernel) rfl, gw_mem 1119 (by decide +kernel) rfl, ⟨_, rfl, rfl⟩, by decide, by decide, by decide +kernel⟩
theorem mv_L_113 : MV RL 113 11 yX11_leastMoved cX11_leastMoved 8 (some .int) 3 := ⟨gw_mem 1911 (by decide +kernel) rfl, cd_X11_leastMoved, gw_mem 127 (by decide +kernel) rfl, gw_mem 1912 (by decide +kernel) rfl, gw_mem 1913 (by decide +kernel) rfl, ⟨_, rfl, rfl⟩, by decide, by decide, by decide +kernel⟩
theorem mv_L_114 : MV RL 114 10 yX10_hanging cX10_hanging 2 (some .int) 1 := ⟨gw_mem 1139 (by decide +kernel) rfl, cd_X10_hanging, gw_mem 111 (by decide +kernel) rfl, gw_mem 1140 (by decide +kernel) rfl, gw_mem 1141 (by decide +kernel) rfl, ⟨_, rfl, rfl⟩, by decide, by decide, by decide +kernel⟩
theorem mv_L_117 : MV RL 117 11 yX11_hanging cX11_hanging 3 (some .int) 1 := ⟨gw_mem 1915 (by decide +kernel) rfl, cd_X11_hanging, gw_mem 127 (by decide +kernel) rfl, gw_mem 1916 (by decide +kernel) rfl, gw_mem 1917 (by decide +kernel) rfl, ⟨_, rfl, rfl⟩, by decide, by decide, by decide +kernel⟩
theorem mv_L_118 : MV RL 118 10 yX10_steer cX10_steer 7 (some .int) 2 := ⟨gw_mem 1170 (by decide +kernel) rfl, cd_X10_steer, gw_mem 111 (by decide +kernel) rfl, gw_mem 1171 (by decide +kernel) rfl, gw_mem 1172 (by decide +kernel) rfl, ⟨_, rfl, rfl⟩, by decide, by decide, by decide +kernel⟩
theorem mv_L_121 : MV RL 121 11 yX11_steer cX11_steer 7 (some .int) 2 := ⟨gw_mem 1928 (by decide +kernel) rfl, cd_X11_steer, gw_mem 127 (by decide +kernel) rfl, gw_mem 1929 (by decide +kernel) rfl, gw_mem 1930 (by decide +kernel) rfl, ⟨_, rfl, rfl⟩, by decide, by decide, by decide +kernel⟩
theorem mv_L_122 : MV RL 122 10 yX10_rests cX10_rests 1 (some .int) 0 := ⟨gw_mem 1178 (by decide +kernel) rfl, cd_X10_rests, gw_mem 111 (by decide +kernel) rfl, gw_mem 1179 (by decide +kernel) rfl, gw_mem 1180 (by decide +kernel) rfl, ⟨_, rfl, rfl⟩, by decide, by decide, by decide +kernel⟩
theorem mv_L_125 : MV RL 125 11 yX11_rests cX11_rests 1 (some .int) 0 := ⟨gw_mem 1932 (by decide +kernel) rfl, cd_X11_rests, gw_mem 127 (by decide +kernel) rfl, gw_mem 1933 (by decide +kernel) rfl, gw_mem 1934 (by decide +kernel) rfl, ⟨_, rfl, rfl⟩, by decide, by decide, by decide +kernel⟩
theorem mv_L_126 : MV RL 126 10 yX10_rest cX10_rest 2 (some .int) 1 := ⟨gw_mem 1203 (by decide +kernel) rfl, cd_X10_rest, gw_mem 111 (by decide +kernel) rfl, gw_mem 1204 (by decide +kernel) rfl, gw_mem 1205 (by decide +kernel) rfl, ⟨_, rfl, rfl⟩, by decide, by decide, by decide +kernel⟩
theorem mv_L_129 : MV RL 129 11 yX11_rest cX11_rest 2 (some .int) 1 := ⟨gw_mem 1948 (by decide +kernel) rfl, cd_X11_rest, gw_mem 127 (by decide +kernel) rfl, gw_mem 1949 (by decide +kernel) rfl, gw_mem 1950 (by decide +kernel) rfl, ⟨_, rfl, rfl⟩, by decide, by decide, by decide +kernel⟩
theorem mv_L_130 : MV RL 130 10 yX10_way cX10_way 5 (some .int) 2 := ⟨gw_mem 1207 (by decide +kernel) rfl, cd_X10_way, gw_mem 111 (by decide +kernel) rfl, gw_mem 1208 (by decide +kernel) rfl, gw_mem 1209 (by decide +kernel) rfl, ⟨_, rfl, rfl⟩, by decide, by decide, by decide +kernel⟩
theorem mv_L_133 : MV RL 133 11 yX11_way cX11_way 6 (some .int) 2 := ⟨gw_mem 1952 (by decide +kernel) rfl, cd_X11_way, gw_mem 127 (by decide +kernel) rfl, gw_mem 1953 (by decide +kernel) rfl, gw_mem 1954 (by decide +kernel) rfl, ⟨_, rfl, rfl⟩, by decide, by decide, by decide +kernel⟩
theorem mv_L_134 : MV RL 134 10 yX10_likely cX10_likely 13 (some .long) 4 := ⟨gw_mem 1215 (by decide +kernel) rfl, cd_X10_likely, gw_mem 111 (by decide +kernel) rfl, gw_mem 1216 (by decide +kernel) rfl, gw_mem 1217 (by decide +kernel) rfl, ⟨_, rfl, rfl⟩, by decide, by decide, by decide +kernel⟩
theorem mv_L_138 : MV RL 138 11 yX11_likely cX11_likely 11 (some .long) 4 := ⟨gw_mem 1956 (by decide +kernel) rfl, cd_X11_likely, gw_mem 127 (by decide +kernel) rfl, gw_mem 1957 (by decide +kernel) rfl, gw_mem 1958 (by decide +kernel) rfl, ⟨_, rfl, rfl⟩, by decide, by decide, by decide +kernel⟩
theorem mv_L_139 : MV RL 139 10 yX10_tickets cX10_tickets 4 (some .int) 1 := ⟨gw_mem 1121 (by decide +kernel) rfl, cd_X10_tickets, gw_mem 111 (by decide +kernel) rfl, gw_mem 1122 (by decide +kernel) rfl, gw_mem 1123 (by decide +kernel) rfl, ⟨_, rfl, rfl⟩, by decide, by decide, by decide +kernel⟩
theorem mv_L_142 : MV RL 142 11 yX11_tickets cX11_tickets 6 (some .int) 1 := ⟨gw_mem 1965 (by decide +kernel) rfl, cd_X11_tickets, gw_mem 127 (by decide +kernel) rfl, gw_mem 1966 (by decide +kernel) rfl, gw_mem 1967 (by decide +kernel) rfl, ⟨_, rfl, rfl⟩, by decide, by decide, by decide +kernel⟩
theorem mv_L_143 : MV RL 143 10 yX10_shunned cX10_shunned 5 (some .int) 0 := ⟨gw_mem 1227 (by decide +kernel) rfl, cd_X10_shunned, gw_mem 111 (by decide +kernel) rfl, gw_mem 1228 (by decide +kernel) rfl, gw_mem 1229 (by decide +kernel) rfl, ⟨_, rfl, rfl⟩, by decide, by decide, by decide +kernel⟩
theorem mv_L_146 : MV RL 146 11 yX11_shunned cX11_shunned 5 (some .int) 0 := ⟨gw_mem 1970 (by decide +kernel) rfl, cd_X11_shunned, gw_mem 127 (by decide +kernel) rfl, gw_mem 1971 (by decide +kernel) rfl, gw_mem 1972 (by decide +kernel) rfl, ⟨_, rfl, rfl⟩, by decide, by decide, by decide +kernel⟩
theorem mv_L_147 : MV RL 147 10 yX10_loved cX10_loved 7 (some .int) 1 := ⟨gw_mem 1231 (by decide +kernel) rfl, cd_X10_loved, gw_mem 111 (by decide +kernel) rfl, gw_mem 1232 (by decide +kernel) rfl, gw_mem 1233 (by decide +kernel) rfl, ⟨_, rfl, rfl⟩, by decide, by decide, by decide +kernel⟩
theorem mv_L_150 : MV RL 150 11 yX11_loved cX11_loved 7 (some .int) 1 := ⟨gw_mem 1974 (by decide +kernel) rfl, cd_X11_loved, gw_mem 127 (by decide +kernel) rfl, gw_mem 1975 (by decide +kernel) rfl, gw_mem 1976 (by decide +kernel) rfl, ⟨_, rfl, rfl⟩, by decide, by decide, by decide +kernel⟩
theorem mv_L_151 : MV RL 151 10 yX10_note cX10_note 5 (some .int) 4 := ⟨gw_mem 1235 (by decide +kernel) rfl, cd_X10_note, gw_mem 111 (by decide +kernel) rfl, gw_mem 1236 (by decide +kernel) rfl, gw_mem 1237 (by decide +kernel) rfl, ⟨_, rfl, rfl⟩, by decide, by decide, by decide +kernel⟩
theorem mv_L_155 : MV RL 155 11 yX11_note cX11_note 5 (some .int) 4 := ⟨gw_mem 1978 (by decide +kernel) rfl, cd_X11_note, gw_mem 127 (by decide +kernel) rfl, gw_mem 1979 (by decide +kernel) rfl, gw_mem 1980 (by decide +kernel) rfl, ⟨_, rfl, rfl⟩, by decide, by decide, by decide +kernel⟩
theorem mv_L_156 : MV RL 156 10 yX10_out cX10_out 2 (some .int) 1 := ⟨gw_mem 1243 (by decide +kernel) rfl, cd_X10_out, gw_mem 111 (by decide +kernel) rfl, gw_mem 1244 (by decide +kernel) rfl, gw_mem 1245 (by decide +kernel) rfl, ⟨_, rfl, rfl⟩, by decide, by decide, by decide +kernel⟩
theorem mv_L_159 : MV RL 159 11 yX11_out cX11_out 2 (some .int) 1 := ⟨gw_mem 1982 (by decide +kernel) rfl, cd_X11_out, gw_mem 127 (by decide +kernel) rfl, gw_mem 1983 (by decide +kernel) rfl, gw_mem 1984 (by decide +kernel) rfl, ⟨_, rfl, rfl⟩, by decide, by decide, by decide +kernel⟩
theorem mv_L_160 : MV RL 160 10 yX10_known cX10_known 2 (some .boolean) 1 := ⟨gw_mem 1252 (by decide +kernel) rfl, cd_X10_known, gw_mem 111 (by decide +kernel) rfl, gw_mem 1253 (by decide +kernel) rfl, gw_mem 1254 (by decide +kernel) rfl, ⟨_, rfl, rfl⟩, by decide, by decide, by decide +kernel⟩
theorem mv_L_163 : MV RL 163 11 yX11_known cX11_known 2 (some .boolean) 1 := ⟨gw_mem 1986 (by decide +kernel) rfl, cd_X11_known, gw_mem 127 (by decide +kernel) rfl, gw_mem 1987 (by decide +kernel) rfl, gw_mem 1988 (by decide +kernel) rfl, ⟨_, rfl, rfl⟩, by decide, by decide, by decide +kernel⟩
theorem mv_L_164 : MV RL 164 10 yX10_tastes cX10_tastes 4 (some .int) 1 := ⟨gw_mem 1256 (by decide +kernel) rfl, cd_X10_tastes, gw_mem 111 (by decide +kernel) rfl, gw_mem 1257 (by decide +kernel) rfl, gw_mem 1258 (by decide +kernel) rfl, ⟨_, rfl, rfl⟩, by decide, by decide, by decide +kernel⟩
theorem mv_L_167 : MV RL 167 11 yX11_tastes cX11_tastes 5 (some .int) 1 := ⟨gw_mem 1990 (by decide +kernel) rfl, cd_X11_tastes, gw_mem 127 (by decide +kernel) rfl, gw_mem 1991 (by decide +kernel) rfl, gw_mem 1992 (by decide +kernel) rfl, ⟨_, rfl, rfl⟩, by decide, by decide, by decide +kernel⟩
theorem mv_L_168 : MV RL 168 10 yX10_chance cX10_chance 9 (some .int) 4 := ⟨gw_mem 1127 (by decide +kernel) rfl, cd_X10_chance, gw_mem 111 (by decide +kernel) rfl, gw_mem 1128 (by decide +kernel) rfl, gw_mem 1129 (by decide +kernel) rfl, ⟨_, rfl, rfl⟩, by decide, by decide, by decide +kernel⟩
theorem mv_L_172 : MV RL 172 11 yX11_chance cX11_chance 9 (some .int) 4 := ⟨gw_mem 2006 (by decide +kernel) rfl, cd_X11_chance, gw_mem 127 (by decide +kernel) rfl, gw_mem 2007 (by decide +kernel) rfl, gw_mem 2008 (by decide +kernel) rfl, ⟨_, rfl, rfl⟩, by decide, by decide, by decide +kernel⟩
theorem mv_L_173 : MV RL 173 10 yX10_tried cX10_tried 5 (some .int) 3 := ⟨gw_mem 1135 (by decide +kernel) rfl, cd_X10_tried, gw_mem 111 (by decide +kernel) rfl, gw_mem 1136 (by decide +kernel) rfl, gw_mem 1137 (by decide +kernel) rfl, ⟨_, rfl, rfl⟩, by decide, by decide, by decide +kernel⟩
theorem mv_L_176 : MV RL 176 11 yX11_tried cX11_tried 5 (some .int) 3 := ⟨gw_mem 2012 (by decide +kernel) rfl, cd_X11_tried, gw_mem 127 (by decide +kernel) rfl, gw_mem 2013 (by decide +kernel) rfl, gw_mem 2014 (by decide +kernel) rfl, ⟨_, rfl, rfl⟩, by decide, by decide, by decide +kernel⟩
theorem mv_L_177 : MV RL 177 10 yX10_undo cX10_undo 1 (some .int) 0 := ⟨gw_mem 1032 (by decide +kernel) rfl, cd_X10_undo, gw_mem 111 (by decide +kernel) rfl, gw_mem 1033 (by decide +kernel) rfl, gw_mem 1034 (by decide +kernel) rfl, ⟨_, rfl, rfl⟩, by decide, by decide, by decide +kernel⟩
theorem mv_L_180 : MV RL 180 11 yX11_undo cX11_undo 1 (some .int) 0 := ⟨gw_mem 2016 (by decide +kernel) rfl, cd_X11_undo, gw_mem 127 (by decide +kernel) rfl, gw_mem 2017 (by decide +kernel) rfl, gw_mem 2018 (by decide +kernel) rfl, ⟨_, rfl, rfl⟩, by decide, by decide, by decide +kernel⟩
theorem mv_L_181 : MV RL 181 10 yX10_keep cX10_keep 1 (some .int) 0 := ⟨gw_mem 1041 (by decide +kernel) rfl, cd_X10_keep, gw_mem 111 (by decide +kernel) rfl, gw_mem 1042 (by decide +kernel) rfl, gw_mem 1043 (by decide +kernel) rfl, ⟨_, rfl, rfl⟩, by decide, by decide, by decide +kernel⟩
theorem mv_L_184 : MV RL 184 11 yX11_keep cX11_keep 1 (some .int) 0 := ⟨gw_mem 2020 (by decide +kernel) rfl, cd_X11_keep, gw_mem 127 (by decide +kernel) rfl, gw_mem 2021 (by decide +kernel) rfl, gw_mem 2022 (by decide +kernel) rfl, ⟨_, rfl, rfl⟩, by decide, by decide, by decide +kernel⟩
theorem mv_L_185 : MV RL 185 10 yX10_back cX10_back 1 (some .int) 0 := ⟨gw_mem 1050 (by decide +kernel) rfl, cd_X10_back, gw_mem 111 (by decide +kernel) rfl, gw_mem 1051 (by decide +kernel) rfl, gw_mem 1052 (by decide +kernel) rfl, ⟨_, rfl, rfl⟩, by decide, by decide, by decide +kernel⟩
theorem mv_L_188 : MV RL 188 11 yX11_back cX11_back 1 (some .int) 0 := ⟨gw_mem 2024 (by decide +kernel) rfl, cd_X11_back, gw_mem 127 (by decide +kernel) rfl, gw_mem 2025 (by decide +kernel) rfl, gw_mem 2026 (by decide +kernel) rfl, ⟨_, rfl, rfl⟩, by decide, by decide, by decide +kernel⟩
theorem mv_L_189 : MV RL 189 10 yX10_count cX10_count 2 (some .int) 1 := ⟨gw_mem 994 (by decide +kernel) rfl, cd_X10_count, gw_mem 111 (by decide +kernel) rfl, gw_mem 995 (by decide +kernel) rfl, gw_mem 996 (by decide +kernel) rfl, ⟨_, rfl, rfl⟩, by decide, by decide, by decide +kernel⟩
theorem mv_L_192 : MV RL 192 11 yX11_count cX11_count 4 (some .int) 1 := ⟨gw_mem 2028 (by decide +kernel) rfl, cd_X11_count, gw_mem 127 (by decide +kernel) rfl, gw_mem 2029 (by decide +kernel) rfl, gw_mem 2030 (by decide +kernel) rfl, ⟨_, rfl, rfl⟩, by decide, by decide, by decide +kernel⟩
set_option maxHeartbeats 4000000 in
set_option maxRecDepth 100000 in
theorem lc_0 {Rel : fMem → fMem → Prop} {p : Program} {l : Launch} {e : Env} {s : State} {m : MethodId} {below : List Frame} {meth : Method} {c : Code} {w : fW} {b L i : Nat} {xs : Nat → Int32} (G : LG p s m b meth c w L xs) (hi : i + 6 ≤ L) (sim : ∀ (a0 : Int32) (a1 : Int32) (a2 : Int32) (a3 : Int32) (a4 : Int32), Sim Rel (f_X10_feed 0 a0 a1 a2 a3 a4) (f_X11_feed 181 a0 a1 a2 a3 a4)) (next : LI Rel p l e s m b below meth c w (i + 6) 23) : LI Rel p l e s m b below meth c w i 212 := by
  intro μ ν H locs ls cl sl ⟨hR, hPC, hPM, ho, hS, hl, hcl, hsl⟩
  obtain ⟨⟨hx, hb, -⟩, -, -, -, hAD, h0, hL⟩ := id G
  have hz : cl ≤ room_1.cells ∧ sl ≤ room_1.slots := ⟨Nat.le_trans hcl (by show 222 + i ≤ 601024; omega), Nat.le_trans hsl (by show 8988 + 6 * i ≤ 7293034; omega)⟩
  refine lv_aload_n hx hb dL_law_212 rfl (lv_at hl 1 rfl) ?_
  refine l_arg (k := 1) G hS (lv_at hl 0 rfl) (lv_at hl 4 rfl) hi (by decide) (by decide) dL_law_213 dL_law_214 dL_law_216 dL_law_217 dL_law_218 ?_
  refine l_arg (k := 2) G hS (lv_at hl 0 rfl) (lv_at hl 4 rfl) hi (by decide) (by decide) dL_law_219 dL_law_220 dL_law_222 dL_law_223 dL_law_224 ?_
  refine l_arg (k := 3) G hS (lv_at hl 0 rfl) (lv_at hl 4 rfl) hi (by decide) (by decide) dL_law_225 dL_law_226 dL_law_228 dL_law_229 dL_law_230 ?_
  refine l_arg (k := 4) G hS (lv_at hl 0 rfl) (lv_at hl 4 rfl) hi (by decide) (by decide) dL_law_231 dL_law_232 dL_law_234 dL_law_235 dL_law_236 ?_
  refine l_arg (k := 5) G hS (lv_at hl 0 rfl) (lv_at hl 4 rfl) hi (by decide) (by decide) dL_law_237 dL_law_238 dL_law_240 dL_law_241 dL_law_242 ?_
  obtain ⟨r, μ1, ν1, f1, f2, hR⟩ := sim (xs (i + 1)) (xs (i + 2)) (xs (i + 3)) (xs (i + 4)) (xs (i + 5)) μ ν hR
  refine lgC_i G (callV_run (w := wC w) (As := [.int (xs (i + 1)), .int (xs (i + 2)), .int (xs (i + 3)), .int (xs (i + 4)), .int (xs (i + 5))]) (rest := []) G.1 hl hPC (l_old hS h0 _) ⟨show 0 ≤ 0 by decide, show 0 < 181 by decide⟩ (by decide +kernel) (m_X10_feed l (wC w) (hAD.J (by decide)) rfl 0 (xs (i + 1)) (xs (i + 2)) (xs (i + 3)) (xs (i + 4)) (xs (i + 5)) (by decide +kernel) μ f1) mv_L_21 ⟨rfl, rfl, by decide, by decide⟩ rfl rfl (Nat.le_of_ble_eq_true rfl) hz dL_law_243) hS hPM ho (fun H locs hPC hPM ho hS => ?_)
  refine lv_aload_n hx hb dL_law_246 rfl (lv_at hl 2 rfl) ?_
  refine l_arg (k := 1) G hS (lv_at hl 0 rfl) (lv_at hl 4 rfl) hi (by decide) (by decide) dL_law_247 dL_law_248 dL_law_250 dL_law_251 dL_law_252 ?_
  refine l_arg (k := 2) G hS (lv_at hl 0 rfl) (lv_at hl 4 rfl) hi (by decide) (by decide) dL_law_253 dL_law_254 dL_law_256 dL_law_257 dL_law_258 ?_
  refine l_arg (k := 3) G hS (lv_at hl 0 rfl) (lv_at hl 4 rfl) hi (by decide) (by decide) dL_law_259 dL_law_260 dL_law_262 dL_law_263 dL_law_264 ?_
  refine l_arg (k := 4) G hS (lv_at hl 0 rfl) (lv_at hl 4 rfl) hi (by decide) (by decide) dL_law_265 dL_law_266 dL_law_268 dL_law_269 dL_law_270 ?_
  refine l_arg (k := 5) G hS (lv_at hl 0 rfl) (lv_at hl 4 rfl) hi (by decide) (by decide) dL_law_271 dL_law_272 dL_law_274 dL_law_275 dL_law_276 ?_
  refine lgM_i G (callV_run (w := wM w) (As := [.int (xs (i + 1)), .int (xs (i + 2)), .int (xs (i + 3)), .int (xs (i + 4)), .int (xs (i + 5))]) (rest := [.int r]) G.2.1 hl hPM (l_old hS h0 _) ⟨show 181 ≤ 181 by decide, show 181 < 221 by decide⟩ (by decide +kernel) (m_X11_feed l (wM w) (hAD.J (by decide)) rfl 181 (xs (i + 1)) (xs (i + 2)) (xs (i + 3)) (xs (i + 4)) (xs (i + 5)) (by decide +kernel) ν f2) mv_L_25 ⟨rfl, rfl, by decide, by decide⟩ rfl rfl (Nat.le_of_ble_eq_true rfl) hz dL_law_277) hS hPC ho (fun H locs hPM hPC ho hS => ?_)
  refine lv_icmp_eq (tgt := 1540) hx hb dL_law_280 (by decide) (fun _ => ?_) (fun c9 => absurd rfl c9)
  exact l_next G next hR hPC hPM ho hS hl hcl hsl
set_option maxHeartbeats 4000000 in
set_option maxRecDepth 100000 in
theorem lc_1 {Rel : fMem → fMem → Prop} {p : Program} {l : Launch} {e : Env} {s : State} {m : MethodId} {below : List Frame} {meth : Method} {c : Code} {w : fW} {b L i : Nat} {xs : Nat → Int32} (G : LG p s m b meth c w L xs) (hi : i + 6 ≤ L) (sim : ∀ (a0 : Int32), Sim Rel (f_X10_text 0 a0) (f_X11_text 181 a0)) (next : LI Rel p l e s m b below meth c w (i + 6) 23) : LI Rel p l e s m b below meth c w i 285 := by
  intro μ ν H locs ls cl sl ⟨hR, hPC, hPM, ho, hS, hl, hcl, hsl⟩
  obtain ⟨⟨hx, hb, -⟩, -, -, -, hAD, h0, hL⟩ := id G
  have hz : cl ≤ room_1.cells ∧ sl ≤ room_1.slots := ⟨Nat.le_trans hcl (by show 222 + i ≤ 601024; omega), Nat.le_trans hsl (by show 8988 + 6 * i ≤ 7293034; omega)⟩
  refine lv_aload_n hx hb dL_law_285 rfl (lv_at hl 1 rfl) ?_
  refine l_arg (k := 1) G hS (lv_at hl 0 rfl) (lv_at hl 4 rfl) hi (by decide) (by decide) dL_law_286 dL_law_287 dL_law_289 dL_law_290 dL_law_291 ?_
  obtain ⟨r, μ1, ν1, f1, f2, hR⟩ := sim (xs (i + 1)) μ ν hR
  refine lgC_i G (callV_run (w := wC w) (As := [.int (xs (i + 1))]) (rest := []) G.1 hl hPC (l_old hS h0 _) ⟨show 0 ≤ 0 by decide, show 0 < 181 by decide⟩ (by decide +kernel) (m_X10_text l (wC w) (hAD.J (by decide)) rfl 0 (xs (i + 1)) (by decide +kernel) μ f1) mv_L_26 ⟨rfl, rfl, by decide, by decide⟩ rfl rfl (Nat.le_of_ble_eq_true rfl) hz dL_law_292) hS hPM ho (fun H locs hPC hPM ho hS => ?_)
  refine lv_aload_n hx hb dL_law_295 rfl (lv_at hl 2 rfl) ?_
  refine l_arg (k := 1) G hS (lv_at hl 0 rfl) (lv_at hl 4 rfl) hi (by decide) (by decide) dL_law_296 dL_law_297 dL_law_299 dL_law_300 dL_law_301 ?_
  refine lgM_i G (callV_run (w := wM w) (As := [.int (xs (i + 1))]) (rest := [.int r]) G.2.1 hl hPM (l_old hS h0 _) ⟨show 181 ≤ 181 by decide, show 181 < 221 by decide⟩ (by decide +kernel) (m_X11_text l (wM w) (hAD.J (by decide)) rfl 181 (xs (i + 1)) (by decide +kernel) ν f2) mv_L_30 ⟨rfl, rfl, by decide, by decide⟩ rfl rfl (Nat.le_of_ble_eq_true rfl) hz dL_law_302) hS hPC ho (fun H locs hPM hPC ho hS => ?_)
  refine lv_icmp_eq (tgt := 1540) hx hb dL_law_305 (by decide) (fun _ => ?_) (fun c9 => absurd rfl c9)
  exact l_next G next hR hPC hPM ho hS hl hcl hsl
set_option maxHeartbeats 4000000 in
set_option maxRecDepth 100000 in
theorem lc_2 {Rel : fMem → fMem → Prop} {p : Program} {l : Launch} {e : Env} {s : State} {m : MethodId} {below : List Frame} {meth : Method} {c : Code} {w : fW} {b L i : Nat} {xs : Nat → Int32} (G : LG p s m b meth c w L xs) (hi : i + 6 ≤ L) (sim : ∀ (a0 : Int32), Sim Rel (f_X10_fault 0 a0) (f_X11_fault 181 a0)) (next : LI Rel p l e s m b below meth c w (i + 6) 23) : LI Rel p l e s m b below meth c w i 310 := by
  intro μ ν H locs ls cl sl ⟨hR, hPC, hPM, ho, hS, hl, hcl, hsl⟩
  obtain ⟨⟨hx, hb, -⟩, -, -, -, hAD, h0, hL⟩ := id G
  have hz : cl ≤ room_1.cells ∧ sl ≤ room_1.slots := ⟨Nat.le_trans hcl (by show 222 + i ≤ 601024; omega), Nat.le_trans hsl (by show 8988 + 6 * i ≤ 7293034; omega)⟩
  refine lv_aload_n hx hb dL_law_310 rfl (lv_at hl 1 rfl) ?_
  refine l_arg (k := 1) G hS (lv_at hl 0 rfl) (lv_at hl 4 rfl) hi (by decide) (by decide) dL_law_311 dL_law_312 dL_law_314 dL_law_315 dL_law_316 ?_
  obtain ⟨r, μ1, ν1, f1, f2, hR⟩ := sim (xs (i + 1)) μ ν hR
  refine lgC_i G (callV_run (w := wC w) (As := [.int (xs (i + 1))]) (rest := []) G.1 hl hPC (l_old hS h0 _) ⟨show 0 ≤ 0 by decide, show 0 < 181 by decide⟩ (by decide +kernel) (m_X10_fault l (wC w) (hAD.J (by decide)) rfl 0 (xs (i + 1)) (by decide +kernel) μ f1) mv_L_31 ⟨rfl, rfl, by decide, by decide⟩ rfl rfl (Nat.le_of_ble_eq_true rfl) hz dL_law_317) hS hPM ho (fun H locs hPC hPM ho hS => ?_)
  refine lv_aload_n hx hb dL_law_320 rfl (lv_at hl 2 rfl) ?_
  refine l_arg (k := 1) G hS (lv_at hl 0 rfl) (lv_at hl 4 rfl) hi (by decide) (by decide) dL_law_321 dL_law_322 dL_law_324 dL_law_325 dL_law_326 ?_
  refine lgM_i G (callV_run (w := wM w) (As := [.int (xs (i + 1))]) (rest := [.int r]) G.2.1 hl hPM (l_old hS h0 _) ⟨show 181 ≤ 181 by decide, show 181 < 221 by decide⟩ (by decide +kernel) (m_X11_fault l (wM w) (hAD.J (by decide)) rfl 181 (xs (i + 1)) (by decide +kernel) ν f2) mv_L_34 ⟨rfl, rfl, by decide, by decide⟩ rfl rfl (Nat.le_of_ble_eq_true rfl) hz dL_law_327) hS hPC ho (fun H locs hPM hPC ho hS => ?_)
  refine lv_icmp_eq (tgt := 1540) hx hb dL_law_330 (by decide) (fun _ => ?_) (fun c9 => absurd rfl c9)
  exact l_next G next hR hPC hPM ho hS hl hcl hsl
set_option maxHeartbeats 4000000 in
set_option maxRecDepth 100000 in
theorem lc_3 {Rel : fMem → fMem → Prop} {p : Program} {l : Launch} {e : Env} {s : State} {m : MethodId} {below : List Frame} {meth : Method} {c : Code} {w : fW} {b L i : Nat} {xs : Nat → Int32} (G : LG p s m b meth c w L xs) (hi : i + 6 ≤ L) (sim : ∀ (a0 : Int32) (a1 : Int32), Sim Rel (f_X10_named 0 a0 a1) (f_X11_named 181 a0 a1)) (next : LI Rel p l e s m b below meth c w (i + 6) 23) : LI Rel p l e s m b below meth c w i 335 := by
  intro μ ν H locs ls cl sl ⟨hR, hPC, hPM, ho, hS, hl, hcl, hsl⟩
  obtain ⟨⟨hx, hb, -⟩, -, -, -, hAD, h0, hL⟩ := id G
  have hz : cl ≤ room_1.cells ∧ sl ≤ room_1.slots := ⟨Nat.le_trans hcl (by show 222 + i ≤ 601024; omega), Nat.le_trans hsl (by show 8988 + 6 * i ≤ 7293034; omega)⟩
  refine lv_aload_n hx hb dL_law_335 rfl (lv_at hl 1 rfl) ?_
  refine l_arg (k := 1) G hS (lv_at hl 0 rfl) (lv_at hl 4 rfl) hi (by decide) (by decide) dL_law_336 dL_law_337 dL_law_339 dL_law_340 dL_law_341 ?_
  refine l_arg (k := 2) G hS (lv_at hl 0 rfl) (lv_at hl 4 rfl) hi (by decide) (by decide) dL_law_342 dL_law_343 dL_law_345 dL_law_346 dL_law_347 ?_
  obtain ⟨r, μ1, ν1, f1, f2, hR⟩ := sim (xs (i + 1)) (xs (i + 2)) μ ν hR
  refine lgC_i G (callV_run (w := wC w) (As := [.int (xs (i + 1)), .int (xs (i + 2))]) (rest := []) G.1 hl hPC (l_old hS h0 _) ⟨show 0 ≤ 0 by decide, show 0 < 181 by decide⟩ (by decide +kernel) (m_X10_named l (wC w) (hAD.J (by decide)) rfl 0 (xs (i + 1)) (xs (i + 2)) (by decide +kernel) μ f1) mv_L_35 ⟨rfl, rfl, by decide, by decide⟩ rfl rfl (Nat.le_of_ble_eq_true rfl) hz dL_law_348) hS hPM ho (fun H locs hPC hPM ho hS => ?_)
  refine lv_aload_n hx hb dL_law_351 rfl (lv_at hl 2 rfl) ?_
  refine l_arg (k := 1) G hS (lv_at hl 0 rfl) (lv_at hl 4 rfl) hi (by decide) (by decide) dL_law_352 dL_law_353 dL_law_355 dL_law_356 dL_law_357 ?_
  refine l_arg (k := 2) G hS (lv_at hl 0 rfl) (lv_at hl 4 rfl) hi (by decide) (by decide) dL_law_358 dL_law_359 dL_law_361 dL_law_362 dL_law_363 ?_
  refine lgM_i G (callV_run (w := wM w) (As := [.int (xs (i + 1)), .int (xs (i + 2))]) (rest := [.int r]) G.2.1 hl hPM (l_old hS h0 _) ⟨show 181 ≤ 181 by decide, show 181 < 221 by decide⟩ (by decide +kernel) (m_X11_named l (wM w) (hAD.J (by decide)) rfl 181 (xs (i + 1)) (xs (i + 2)) (by decide +kernel) ν f2) mv_L_38 ⟨rfl, rfl, by decide, by decide⟩ rfl rfl (Nat.le_of_ble_eq_true rfl) hz dL_law_364) hS hPC ho (fun H locs hPM hPC ho hS => ?_)
  refine lv_icmp_eq (tgt := 1540) hx hb dL_law_367 (by decide) (fun _ => ?_) (fun c9 => absurd rfl c9)
  exact l_next G next hR hPC hPM ho hS hl hcl hsl
set_option maxHeartbeats 4000000 in
set_option maxRecDepth 100000 in
theorem lc_5 {Rel : fMem → fMem → Prop} {p : Program} {l : Launch} {e : Env} {s : State} {m : MethodId} {below : List Frame} {meth : Method} {c : Code} {w : fW} {b L i : Nat} {xs : Nat → Int32} (G : LG p s m b meth c w L xs) (hi : i + 6 ≤ L) (sim : ∀ (a0 : Int32) (a1 : Int32), Sim Rel (f_X10_room 0 a0 a1) (f_X11_room 181 a0 a1)) (next : LI Rel p l e s m b below meth c w (i + 6) 23) : LI Rel p l e s m b below meth c w i 440 := by
  intro μ ν H locs ls cl sl ⟨hR, hPC, hPM, ho, hS, hl, hcl, hsl⟩
  obtain ⟨⟨hx, hb, -⟩, -, -, -, hAD, h0, hL⟩ := id G
  have hz : cl ≤ room_1.cells ∧ sl ≤ room_1.slots := ⟨Nat.le_trans hcl (by show 222 + i ≤ 601024; omega), Nat.le_trans hsl (by show 8988 + 6 * i ≤ 7293034; omega)⟩
  refine lv_aload_n hx hb dL_law_440 rfl (lv_at hl 1 rfl) ?_
  refine l_arg (k := 1) G hS (lv_at hl 0 rfl) (lv_at hl 4 rfl) hi (by decide) (by decide) dL_law_441 dL_law_442 dL_law_444 dL_law_445 dL_law_446 ?_
  refine l_arg (k := 2) G hS (lv_at hl 0 rfl) (lv_at hl 4 rfl) hi (by decide) (by decide) dL_law_447 dL_law_448 dL_law_450 dL_law_451 dL_law_452 ?_
  obtain ⟨r, μ1, ν1, f1, f2, hR⟩ := sim (xs (i + 1)) (xs (i + 2)) μ ν hR
  refine lgC_i G (callV_run (w := wC w) (As := [.int (xs (i + 1)), .int (xs (i + 2))]) (rest := []) G.1 hl hPC (l_old hS h0 _) ⟨show 0 ≤ 0 by decide, show 0 < 181 by decide⟩ (by decide +kernel) (m_X10_room l (wC w) (hAD.J (by decide)) rfl 0 (xs (i + 1)) (xs (i + 2)) (by decide +kernel) μ f1) mv_L_49 ⟨rfl, rfl, by decide, by decide⟩ rfl rfl (Nat.le_of_ble_eq_true rfl) hz dL_law_453) hS hPM ho (fun H locs hPC hPM ho hS => ?_)
  refine lv_aload_n hx hb dL_law_456 rfl (lv_at hl 2 rfl) ?_
  refine l_arg (k := 1) G hS (lv_at hl 0 rfl) (lv_at hl 4 rfl) hi (by decide) (by decide) dL_law_457 dL_law_458 dL_law_460 dL_law_461 dL_law_462 ?_
  refine l_arg (k := 2) G hS (lv_at hl 0 rfl) (lv_at hl 4 rfl) hi (by decide) (by decide) dL_law_463 dL_law_464 dL_law_466 dL_law_467 dL_law_468 ?_
  refine lgM_i G (callV_run (w := wM w) (As := [.int (xs (i + 1)), .int (xs (i + 2))]) (rest := [.int r]) G.2.1 hl hPM (l_old hS h0 _) ⟨show 181 ≤ 181 by decide, show 181 < 221 by decide⟩ (by decide +kernel) (m_X11_room l (wM w) (hAD.J (by decide)) rfl 181 (xs (i + 1)) (xs (i + 2)) (by decide +kernel) ν f2) mv_L_52 ⟨rfl, rfl, by decide, by decide⟩ rfl rfl (Nat.le_of_ble_eq_true rfl) hz dL_law_469) hS hPC ho (fun H locs hPM hPC ho hS => ?_)
  refine lv_icmp_eq (tgt := 1540) hx hb dL_law_472 (by decide) (fun _ => ?_) (fun c9 => absurd rfl c9)
  exact l_next G next hR hPC hPM ho hS hl hcl hsl
set_option maxHeartbeats 4000000 in
set_option maxRecDepth 100000 in
theorem lc_6 {Rel : fMem → fMem → Prop} {p : Program} {l : Launch} {e : Env} {s : State} {m : MethodId} {below : List Frame} {meth : Method} {c : Code} {w : fW} {b L i : Nat} {xs : Nat → Int32} (G : LG p s m b meth c w L xs) (hi : i + 6 ≤ L) (sim : ∀ (a0 : Int32) (a1 : Int32), Sim Rel (f_X10_dead 0 a0 a1) (f_X11_dead 181 a0 a1)) (next : LI Rel p l e s m b below meth c w (i + 6) 23) : LI Rel p l e s m b below meth c w i 477 := by
  intro μ ν H locs ls cl sl ⟨hR, hPC, hPM, ho, hS, hl, hcl, hsl⟩
  obtain ⟨⟨hx, hb, -⟩, -, -, -, hAD, h0, hL⟩ := id G
  have hz : cl ≤ room_1.cells ∧ sl ≤ room_1.slots := ⟨Nat.le_trans hcl (by show 222 + i ≤ 601024; omega), Nat.le_trans hsl (by show 8988 + 6 * i ≤ 7293034; omega)⟩
  refine lv_aload_n hx hb dL_law_477 rfl (lv_at hl 1 rfl) ?_
  refine l_arg (k := 1) G hS (lv_at hl 0 rfl) (lv_at hl 4 rfl) hi (by decide) (by decide) dL_law_478 dL_law_479 dL_law_481 dL_law_482 dL_law_483 ?_
  refine l_arg (k := 2) G hS (lv_at hl 0 rfl) (lv_at hl 4 rfl) hi (by decide) (by decide) dL_law_484 dL_law_485 dL_law_487 dL_law_488 dL_law_489 ?_
  obtain ⟨r, μ1, ν1, f1, f2, hR⟩ := sim (xs (i + 1)) (xs (i + 2)) μ ν hR
  refine lgC_i G (callV_run (w := wC w) (As := [.int (xs (i + 1)), .int (xs (i + 2))]) (rest := []) G.1 hl hPC (l_old hS h0 _) ⟨show 0 ≤ 0 by decide, show 0 < 181 by decide⟩ (by decide +kernel) (m_X10_dead l (wC w) (hAD.J (by decide)) rfl 0 (xs (i + 1)) (xs (i + 2)) (by decide +kernel) μ f1) mv_L_53 ⟨rfl, rfl, by decide, by decide⟩ rfl rfl (Nat.le_of_ble_eq_true rfl) hz dL_law_490) hS hPM ho (fun H locs hPC hPM ho hS => ?_)
  refine lv_aload_n hx hb dL_law_493 rfl (lv_at hl 2 rfl) ?_
  refine l_arg (k := 1) G hS (lv_at hl 0 rfl) (lv_at hl 4 rfl) hi (by decide) (by decide) dL_law_494 dL_law_495 dL_law_497 dL_law_498 dL_law_499 ?_
  refine l_arg (k := 2) G hS (lv_at hl 0 rfl) (lv_at hl 4 rfl) hi (by decide) (by decide) dL_law_500 dL_law_501 dL_law_503 dL_law_504 dL_law_505 ?_
  refine lgM_i G (callV_run (w := wM w) (As := [.int (xs (i + 1)), .int (xs (i + 2))]) (rest := [.int r]) G.2.1 hl hPM (l_old hS h0 _) ⟨show 181 ≤ 181 by decide, show 181 < 221 by decide⟩ (by decide +kernel) (m_X11_dead l (wM w) (hAD.J (by decide)) rfl 181 (xs (i + 1)) (xs (i + 2)) (by decide +kernel) ν f2) mv_L_56 ⟨rfl, rfl, by decide, by decide⟩ rfl rfl (Nat.le_of_ble_eq_true rfl) hz dL_law_506) hS hPC ho (fun H locs hPM hPC ho hS => ?_)
  refine lv_icmp_eq (tgt := 1540) hx hb dL_law_509 (by decide) (fun _ => ?_) (fun c9 => absurd rfl c9)
  exact l_next G next hR hPC hPM ho hS hl hcl hsl
set_option maxHeartbeats 4000000 in
set_option maxRecDepth 100000 in
theorem lc_7 {Rel : fMem → fMem → Prop} {p : Program} {l : Launch} {e : Env} {s : State} {m : MethodId} {below : List Frame} {meth : Method} {c : Code} {w : fW} {b L i : Nat} {xs : Nat → Int32} (G : LG p s m b meth c w L xs) (hi : i + 6 ≤ L) (sim : ∀ (a0 : Int32) (a1 : Int32), Sim Rel (f_X10_door 0 a0 a1) (f_X11_door 181 a0 a1)) (next : LI Rel p l e s m b below meth c w (i + 6) 23) : LI Rel p l e s m b below meth c w i 514 := by
  intro μ ν H locs ls cl sl ⟨hR, hPC, hPM, ho, hS, hl, hcl, hsl⟩
  obtain ⟨⟨hx, hb, -⟩, -, -, -, hAD, h0, hL⟩ := id G
  have hz : cl ≤ room_1.cells ∧ sl ≤ room_1.slots := ⟨Nat.le_trans hcl (by show 222 + i ≤ 601024; omega), Nat.le_trans hsl (by show 8988 + 6 * i ≤ 7293034; omega)⟩
  refine lv_aload_n hx hb dL_law_514 rfl (lv_at hl 1 rfl) ?_
  refine l_arg (k := 1) G hS (lv_at hl 0 rfl) (lv_at hl 4 rfl) hi (by decide) (by decide) dL_law_515 dL_law_516 dL_law_518 dL_law_519 dL_law_520 ?_
  refine l_arg (k := 2) G hS (lv_at hl 0 rfl) (lv_at hl 4 rfl) hi (by decide) (by decide) dL_law_521 dL_law_522 dL_law_524 dL_law_525 dL_law_526 ?_
  obtain ⟨r, μ1, ν1, f1, f2, hR⟩ := sim (xs (i + 1)) (xs (i + 2)) μ ν hR
  refine lgC_i G (callV_run (w := wC w) (As := [.int (xs (i + 1)), .int (xs (i + 2))]) (rest := []) G.1 hl hPC (l_old hS h0 _) ⟨show 0 ≤ 0 by decide, show 0 < 181 by decide⟩ (by decide +kernel) (m_X10_door l (wC w) (hAD.J (by decide)) rfl 0 (xs (i + 1)) (xs (i + 2)) (by decide +kernel) μ f1) mv_L_57 ⟨rfl, rfl, by decide, by decide⟩ rfl rfl (Nat.le_of_ble_eq_true rfl) hz dL_law_527) hS hPM ho (fun H locs hPC hPM ho hS => ?_)
  refine lv_aload_n hx hb dL_law_530 rfl (lv_at hl 2 rfl) ?_
  refine l_arg (k := 1) G hS (lv_at hl 0 rfl) (lv_at hl 4 rfl) hi (by decide) (by decide) dL_law_531 dL_law_532 dL_law_534 dL_law_535 dL_law_536 ?_
  refine l_arg (k := 2) G hS (lv_at hl 0 rfl) (lv_at hl 4 rfl) hi (by decide) (by decide) dL_law_537 dL_law_538 dL_law_540 dL_law_541 dL_law_542 ?_
  refine lgM_i G (callV_run (w := wM w) (As := [.int (xs (i + 1)), .int (xs (i + 2))]) (rest := [.int r]) G.2.1 hl hPM (l_old hS h0 _) ⟨show 181 ≤ 181 by decide, show 181 < 221 by decide⟩ (by decide +kernel) (m_X11_door l (wM w) (hAD.J (by decide)) rfl 181 (xs (i + 1)) (xs (i + 2)) (by decide +kernel) ν f2) mv_L_60 ⟨rfl, rfl, by decide, by decide⟩ rfl rfl (Nat.le_of_ble_eq_true rfl) hz dL_law_543) hS hPC ho (fun H locs hPM hPC ho hS => ?_)
  refine lv_icmp_eq (tgt := 1540) hx hb dL_law_546 (by decide) (fun _ => ?_) (fun c9 => absurd rfl c9)
  exact l_next G next hR hPC hPM ho hS hl hcl hsl
set_option maxHeartbeats 4000000 in
set_option maxRecDepth 100000 in
theorem lc_8 {Rel : fMem → fMem → Prop} {p : Program} {l : Launch} {e : Env} {s : State} {m : MethodId} {below : List Frame} {meth : Method} {c : Code} {w : fW} {b L i : Nat} {xs : Nat → Int32} (G : LG p s m b meth c w L xs) (hi : i + 6 ≤ L) (sim : ∀ (a0 : Int32), Sim Rel (f_X10_gauge 0 a0) (f_X11_gauge 181 a0)) (next : LI Rel p l e s m b below meth c w (i + 6) 23) : LI Rel p l e s m b below meth c w i 551 := by
  intro μ ν H locs ls cl sl ⟨hR, hPC, hPM, ho, hS, hl, hcl, hsl⟩
  obtain ⟨⟨hx, hb, -⟩, -, -, -, hAD, h0, hL⟩ := id G
  have hz : cl ≤ room_1.cells ∧ sl ≤ room_1.slots := ⟨Nat.le_trans hcl (by show 222 + i ≤ 601024; omega), Nat.le_trans hsl (by show 8988 + 6 * i ≤ 7293034; omega)⟩
  refine lv_aload_n hx hb dL_law_551 rfl (lv_at hl 1 rfl) ?_
  refine l_arg (k := 1) G hS (lv_at hl 0 rfl) (lv_at hl 4 rfl) hi (by decide) (by decide) dL_law_552 dL_law_553 dL_law_555 dL_law_556 dL_law_557 ?_
  obtain ⟨r, μ1, ν1, f1, f2, hR⟩ := sim (xs (i + 1)) μ ν hR
  refine lgC_i G (callV_run (w := wC w) (As := [.int (xs (i + 1))]) (rest := []) G.1 hl hPC (l_old hS h0 _) ⟨show 0 ≤ 0 by decide, show 0 < 181 by decide⟩ (by decide +kernel) (m_X10_gauge l (wC w) (hAD.J (by decide)) rfl 0 (xs (i + 1)) (by decide +kernel) μ f1) mv_L_61 ⟨rfl, rfl, by decide, by decide⟩ rfl rfl (Nat.le_of_ble_eq_true rfl) hz dL_law_558) hS hPM ho (fun H locs hPC hPM ho hS => ?_)
  refine lv_aload_n hx hb dL_law_561 rfl (lv_at hl 2 rfl) ?_
  refine l_arg (k := 1) G hS (lv_at hl 0 rfl) (lv_at hl 4 rfl) hi (by decide) (by decide) dL_law_562 dL_law_563 dL_law_565 dL_law_566 dL_law_567 ?_
  refine lgM_i G (callV_run (w := wM w) (As := [.int (xs (i + 1))]) (rest := [.int r]) G.2.1 hl hPM (l_old hS h0 _) ⟨show 181 ≤ 181 by decide, show 181 < 221 by decide⟩ (by decide +kernel) (m_X11_gauge l (wM w) (hAD.J (by decide)) rfl 181 (xs (i + 1)) (by decide +kernel) ν f2) mv_L_64 ⟨rfl, rfl, by decide, by decide⟩ rfl rfl (Nat.le_of_ble_eq_true rfl) hz dL_law_568) hS hPC ho (fun H locs hPM hPC ho hS => ?_)
  refine lv_icmp_eq (tgt := 1540) hx hb dL_law_571 (by decide) (fun _ => ?_) (fun c9 => absurd rfl c9)
  exact l_next G next hR hPC hPM ho hS hl hcl hsl
set_option maxHeartbeats 4000000 in
set_option maxRecDepth 100000 in
theorem lc_9 {Rel : fMem → fMem → Prop} {p : Program} {l : Launch} {e : Env} {s : State} {m : MethodId} {below : List Frame} {meth : Method} {c : Code} {w : fW} {b L i : Nat} {xs : Nat → Int32} (G : LG p s m b meth c w L xs) (hi : i + 6 ≤ L) (sim : ∀ (a0 : Int32) (a1 : Int32), Sim Rel (f_X10_liking 0 a0 a1) (f_X11_liking 181 a0 a1)) (next : LI Rel p l e s m b below meth c w (i + 6) 23) : LI Rel p l e s m b below meth c w i 576 := by
  intro μ ν H locs ls cl sl ⟨hR, hPC, hPM, ho, hS, hl, hcl, hsl⟩
  obtain ⟨⟨hx, hb, -⟩, -, -, -, hAD, h0, hL⟩ := id G
  have hz : cl ≤ room_1.cells ∧ sl ≤ room_1.slots := ⟨Nat.le_trans hcl (by show 222 + i ≤ 601024; omega), Nat.le_trans hsl (by show 8988 + 6 * i ≤ 7293034; omega)⟩
  refine lv_aload_n hx hb dL_law_576 rfl (lv_at hl 1 rfl) ?_
  refine l_arg (k := 1) G hS (lv_at hl 0 rfl) (lv_at hl 4 rfl) hi (by decide) (by decide) dL_law_577 dL_law_578 dL_law_580 dL_law_581 dL_law_582 ?_
  refine l_arg (k := 2) G hS (lv_at hl 0 rfl) (lv_at hl 4 rfl) hi (by decide) (by decide) dL_law_583 dL_law_584 dL_law_586 dL_law_587 dL_law_588 ?_
  obtain ⟨r, μ1, ν1, f1, f2, hR⟩ := sim (xs (i + 1)) (xs (i + 2)) μ ν hR
  refine lgC_i G (callV_run (w := wC w) (As := [.int (xs (i + 1)), .int (xs (i + 2))]) (rest := []) G.1 hl hPC (l_old hS h0 _) ⟨show 0 ≤ 0 by decide, show 0 < 181 by decide⟩ (by decide +kernel) (m_X10_liking l (wC w) (hAD.J (by decide)) rfl 0 (xs (i + 1)) (xs (i + 2)) (by decide +kernel) μ f1) mv_L_65 ⟨rfl, rfl, by decide, by decide⟩ rfl rfl (Nat.le_of_ble_eq_true rfl) hz dL_law_589) hS hPM ho (fun H locs hPC hPM ho hS => ?_)
  refine lv_aload_n hx hb dL_law_592 rfl (lv_at hl 2 rfl) ?_
  refine l_arg (k := 1) G hS (lv_at hl 0 rfl) (lv_at hl 4 rfl) hi (by decide) (by decide) dL_law_593 dL_law_594 dL_law_596 dL_law_597 dL_law_598 ?_
  refine l_arg (k := 2) G hS (lv_at hl 0 rfl) (lv_at hl 4 rfl) hi (by decide) (by decide) dL_law_599 dL_law_600 dL_law_602 dL_law_603 dL_law_604 ?_
  refine lgM_i G (callV_run (w := wM w) (As := [.int (xs (i + 1)), .int (xs (i + 2))]) (rest := [.int r]) G.2.1 hl hPM (l_old hS h0 _) ⟨show 181 ≤ 181 by decide, show 181 < 221 by decide⟩ (by decide +kernel) (m_X11_liking l (wM w) (hAD.J (by decide)) rfl 181 (xs (i + 1)) (xs (i + 2)) (by decide +kernel) ν f2) mv_L_68 ⟨rfl, rfl, by decide, by decide⟩ rfl rfl (Nat.le_of_ble_eq_true rfl) hz dL_law_605) hS hPC ho (fun H locs hPM hPC ho hS => ?_)
  refine lv_icmp_eq (tgt := 1540) hx hb dL_law_608 (by decide) (fun _ => ?_) (fun c9 => absurd rfl c9)
  exact l_next G next hR hPC hPM ho hS hl hcl hsl
set_option maxHeartbeats 4000000 in
set_option maxRecDepth 100000 in
theorem lc_10 {Rel : fMem → fMem → Prop} {p : Program} {l : Launch} {e : Env} {s : State} {m : MethodId} {below : List Frame} {meth : Method} {c : Code} {w : fW} {b L i : Nat} {xs : Nat → Int32} (G : LG p s m b meth c w L xs) (hi : i + 6 ≤ L) (sim : ∀ (a0 : Int32) (a1 : Int32) (a2 : Int32), Sim Rel (f_X10_law 0 a0 a1 a2) (f_X11_law 181 a0 a1 a2)) (next : LI Rel p l e s m b below meth c w (i + 6) 23) : LI Rel p l e s m b below meth c w i 613 := by
  intro μ ν H locs ls cl sl ⟨hR, hPC, hPM, ho, hS, hl, hcl, hsl⟩
  obtain ⟨⟨hx, hb, -⟩, -, -, -, hAD, h0, hL⟩ := id G
  have hz : cl ≤ room_1.cells ∧ sl ≤ room_1.slots := ⟨Nat.le_trans hcl (by show 222 + i ≤ 601024; omega), Nat.le_trans hsl (by show 8988 + 6 * i ≤ 7293034; omega)⟩
  refine lv_aload_n hx hb dL_law_613 rfl (lv_at hl 1 rfl) ?_
  refine l_arg (k := 1) G hS (lv_at hl 0 rfl) (lv_at hl 4 rfl) hi (by decide) (by decide) dL_law_614 dL_law_615 dL_law_617 dL_law_618 dL_law_619 ?_
  refine l_arg (k := 2) G hS (lv_at hl 0 rfl) (lv_at hl 4 rfl) hi (by decide) (by decide) dL_law_620 dL_law_621 dL_law_623 dL_law_624 dL_law_625 ?_
  refine l_arg (k := 3) G hS (lv_at hl 0 rfl) (lv_at hl 4 rfl) hi (by decide) (by decide) dL_law_626 dL_law_627 dL_law_629 dL_law_630 dL_law_631 ?_
  obtain ⟨r, μ1, ν1, f1, f2, hR⟩ := sim (xs (i + 1)) (xs (i + 2)) (xs (i + 3)) μ ν hR
  refine lgC_l G (callV_run (w := wC w) (As := [.int (xs (i + 1)), .int (xs (i + 2)), .int (xs (i + 3))]) (rest := []) G.1 hl hPC (l_old hS h0 _) ⟨show 0 ≤ 0 by decide, show 0 < 181 by decide⟩ (by decide +kernel) (m_X10_law l (wC w) (hAD.J (by decide)) rfl 0 (xs (i + 1)) (xs (i + 2)) (xs (i + 3)) (by decide +kernel) μ f1) mv_L_69 ⟨rfl, rfl, by decide, by decide⟩ rfl rfl (Nat.le_of_ble_eq_true rfl) hz dL_law_632) hS hPM ho (fun H locs hPC hPM ho hS => ?_)
  refine lv_aload_n hx hb dL_law_635 rfl (lv_at hl 2 rfl) ?_
  refine l_arg (k := 1) G hS (lv_at hl 0 rfl) (lv_at hl 4 rfl) hi (by decide) (by decide) dL_law_636 dL_law_637 dL_law_639 dL_law_640 dL_law_641 ?_
  refine l_arg (k := 2) G hS (lv_at hl 0 rfl) (lv_at hl 4 rfl) hi (by decide) (by decide) dL_law_642 dL_law_643 dL_law_645 dL_law_646 dL_law_647 ?_
  refine l_arg (k := 3) G hS (lv_at hl 0 rfl) (lv_at hl 4 rfl) hi (by decide) (by decide) dL_law_648 dL_law_649 dL_law_651 dL_law_652 dL_law_653 ?_
  refine lgM_l G (callV_run (w := wM w) (As := [.int (xs (i + 1)), .int (xs (i + 2)), .int (xs (i + 3))]) (rest := [.long r]) G.2.1 hl hPM (l_old hS h0 _) ⟨show 181 ≤ 181 by decide, show 181 < 221 by decide⟩ (by decide +kernel) (m_X11_law l (wM w) (hAD.J (by decide)) rfl 181 (xs (i + 1)) (xs (i + 2)) (xs (i + 3)) (by decide +kernel) ν f2) mv_L_73 ⟨rfl, rfl, by decide, by decide⟩ rfl rfl (Nat.le_of_ble_eq_true rfl) hz dL_law_654) hS hPC ho (fun H locs hPM hPC ho hS => ?_)
  refine W.lcmp hx hb dL_law_657 ?_
  rw [lg_cmp_self]
  refine lv_if_eq (tgt := 1540) hx hb dL_law_658 (by decide) (fun _ => ?_) (fun c9 => absurd rfl c9)
  exact l_next G next hR hPC hPM ho hS hl hcl hsl
set_option maxHeartbeats 4000000 in
set_option maxRecDepth 100000 in
theorem lc_11 {Rel : fMem → fMem → Prop} {p : Program} {l : Launch} {e : Env} {s : State} {m : MethodId} {below : List Frame} {meth : Method} {c : Code} {w : fW} {b L i : Nat} {xs : Nat → Int32} (G : LG p s m b meth c w L xs) (hi : i + 6 ≤ L) (sim : ∀ (a0 : Int32) (a1 : Int32), Sim Rel (f_X10_hang 0 a0 a1) (f_X11_hang 181 a0 a1)) (next : LI Rel p l e s m b below meth c w (i + 6) 23) : LI Rel p l e s m b below meth c w i 663 := by
  intro μ ν H locs ls cl sl ⟨hR, hPC, hPM, ho, hS, hl, hcl, hsl⟩
  obtain ⟨⟨hx, hb, -⟩, -, -, -, hAD, h0, hL⟩ := id G
  have hz : cl ≤ room_1.cells ∧ sl ≤ room_1.slots := ⟨Nat.le_trans hcl (by show 222 + i ≤ 601024; omega), Nat.le_trans hsl (by show 8988 + 6 * i ≤ 7293034; omega)⟩
  refine lv_aload_n hx hb dL_law_663 rfl (lv_at hl 1 rfl) ?_
  refine l_arg (k := 1) G hS (lv_at hl 0 rfl) (lv_at hl 4 rfl) hi (by decide) (by decide) dL_law_664 dL_law_665 dL_law_667 dL_law_668 dL_law_669 ?_
  refine l_arg (k := 2) G hS (lv_at hl 0 rfl) (lv_at hl 4 rfl) hi (by decide) (by decide) dL_law_670 dL_law_671 dL_law_673 dL_law_674 dL_law_675 ?_
  obtain ⟨r, μ1, ν1, f1, f2, hR⟩ := sim (xs (i + 1)) (xs (i + 2)) μ ν hR
  refine lgC_i G (callV_run (w := wC w) (As := [.int (xs (i + 1)), .int (xs (i + 2))]) (rest := []) G.1 hl hPC (l_old hS h0 _) ⟨show 0 ≤ 0 by decide, show 0 < 181 by decide⟩ (by decide +kernel) (m_X10_hang l (wC w) (hAD.J (by decide)) rfl 0 (xs (i + 1)) (xs (i + 2)) (by decide +kernel) μ f1) mv_L_74 ⟨rfl, rfl, by decide, by decide⟩ rfl rfl (Nat.le_of_ble_eq_true rfl) hz dL_law_676) hS hPM ho (fun H locs hPC hPM ho hS => ?_)
  refine lv_aload_n hx hb dL_law_679 rfl (lv_at hl 2 rfl) ?_
  refine l_arg (k := 1) G hS (lv_at hl 0 rfl) (lv_at hl 4 rfl) hi (by decide) (by decide) dL_law_680 dL_law_681 dL_law_683 dL_law_684 dL_law_685 ?_
  refine l_arg (k := 2) G hS (lv_at hl 0 rfl) (lv_at hl 4 rfl) hi (by decide) (by decide) dL_law_686 dL_law_687 dL_law_689 dL_law_690 dL_law_691 ?_
  refine lgM_i G (callV_run (w := wM w) (As := [.int (xs (i + 1)), .int (xs (i + 2))]) (rest := [.int r]) G.2.1 hl hPM (l_old hS h0 _) ⟨show 181 ≤ 181 by decide, show 181 < 221 by decide⟩ (by decide +kernel) (m_X11_hang l (wM w) (hAD.J (by decide)) rfl 181 (xs (i + 1)) (xs (i + 2)) (by decide +kernel) ν f2) mv_L_78 ⟨rfl, rfl, by decide, by decide⟩ rfl rfl (Nat.le_of_ble_eq_true rfl) hz dL_law_692) hS hPC ho (fun H locs hPM hPC ho hS => ?_)
  refine lv_icmp_eq (tgt := 1540) hx hb dL_law_695 (by decide) (fun _ => ?_) (fun c9 => absurd rfl c9)
  exact l_next G next hR hPC hPM ho hS hl hcl hsl
set_option maxHeartbeats 4000000 in
set_option maxRecDepth 100000 in
theorem lc_12 {Rel : fMem → fMem → Prop} {p : Program} {l : Launch} {e : Env} {s : State} {m : MethodId} {below : List Frame} {meth : Method} {c : Code} {w : fW} {b L i : Nat} {xs : Nat → Int32} (G : LG p s m b meth c w L xs) (hi : i + 6 ≤ L) (sim : ∀ (a0 : Int32) (a1 : Int32), bl a1 → Sim Rel (f_X10_rope 0 a0 a1) (f_X11_rope 181 a0 a1)) (next : LI Rel p l e s m b below meth c w (i + 6) 23) : LI Rel p l e s m b below meth c w i 700 := by
  intro μ ν H locs ls cl sl ⟨hR, hPC, hPM, ho, hS, hl, hcl, hsl⟩
  obtain ⟨⟨hx, hb, -⟩, -, -, -, hAD, h0, hL⟩ := id G
  have hz : cl ≤ room_1.cells ∧ sl ≤ room_1.slots := ⟨Nat.le_trans hcl (by show 222 + i ≤ 601024; omega), Nat.le_trans hsl (by show 8988 + 6 * i ≤ 7293034; omega)⟩
  refine lv_aload_n hx hb dL_law_700 rfl (lv_at hl 1 rfl) ?_
  refine l_arg (k := 1) G hS (lv_at hl 0 rfl) (lv_at hl 4 rfl) hi (by decide) (by decide) dL_law_701 dL_law_702 dL_law_704 dL_law_705 dL_law_706 ?_
  refine l_arg (k := 2) G hS (lv_at hl 0 rfl) (lv_at hl 4 rfl) hi (by decide) (by decide) dL_law_707 dL_law_708 dL_law_710 dL_law_711 dL_law_712 ?_
  refine lv_if_eq (tgt := 720) hx hb dL_law_713 (by decide) (fun cb2 => ?_) (fun cb2 => ?_)
  · refine lv_iconst (v := 0) hx hb dL_law_720 (by decide) ?_
    obtain ⟨r, μ1, ν1, f1, f2, hR⟩ := sim (xs (i + 1)) (0) (Or.inl rfl) μ ν hR
    refine lgC_i G (callV_run (w := wC w) (As := [.int (xs (i + 1)), .int 0]) (rest := []) G.1 hl hPC (l_old hS h0 _) ⟨show 0 ≤ 0 by decide, show 0 < 181 by decide⟩ (by decide +kernel) (m_X10_rope l (wC w) (hAD.J (by decide)) rfl 0 (xs (i + 1)) (0) (by decide +kernel) μ f1) mv_L_79 ⟨rfl, rfl, by decide, by decide⟩ rfl rfl (Nat.le_of_ble_eq_true rfl) hz dL_law_721) hS hPM ho (fun H locs hPC hPM ho hS => ?_)
    refine lv_aload_n hx hb dL_law_724 rfl (lv_at hl 2 rfl) ?_
    refine l_arg (k := 1) G hS (lv_at hl 0 rfl) (lv_at hl 4 rfl) hi (by decide) (by decide) dL_law_725 dL_law_726 dL_law_728 dL_law_729 dL_law_730 ?_
    refine l_arg (k := 2) G hS (lv_at hl 0 rfl) (lv_at hl 4 rfl) hi (by decide) (by decide) dL_law_731 dL_law_732 dL_law_734 dL_law_735 dL_law_736 ?_
    refine lv_if_eq (tgt := 744) hx hb dL_law_737 (by decide) (fun dcb2 => ?_) (fun dcb2 => ?_)
    · refine lv_iconst (v := 0) hx hb dL_law_744 (by decide) ?_
      refine lgM_i G (callV_run (w := wM w) (As := [.int (xs (i + 1)), .int 0]) (rest := [.int r]) G.2.1 hl hPM (l_old hS h0 _) ⟨show 181 ≤ 181 by decide, show 181 < 221 by decide⟩ (by decide +kernel) (m_X11_rope l (wM w) (hAD.J (by decide)) rfl 181 (xs (i + 1)) (0) (by decide +kernel) ν f2) mv_L_83 ⟨rfl, rfl, by decide, by decide⟩ rfl rfl (Nat.le_of_ble_eq_true rfl) hz dL_law_745) hS hPC ho (fun H locs hPM hPC ho hS => ?_)
      refine lv_icmp_eq (tgt := 1540) hx hb dL_law_748 (by decide) (fun _ => ?_) (fun c9 => absurd rfl c9)
      exact l_next G next hR hPC hPM ho hS hl hcl hsl
    · exact absurd cb2 dcb2
  · refine lv_iconst (v := 1) hx hb dL_law_716 (by decide) ?_
    refine lv_goto (tgt := 721) hx hb dL_law_717 (by decide) ?_
    obtain ⟨r, μ1, ν1, f1, f2, hR⟩ := sim (xs (i + 1)) (1) (Or.inr rfl) μ ν hR
    refine lgC_i G (callV_run (w := wC w) (As := [.int (xs (i + 1)), .int 1]) (rest := []) G.1 hl hPC (l_old hS h0 _) ⟨show 0 ≤ 0 by decide, show 0 < 181 by decide⟩ (by decide +kernel) (m_X10_rope l (wC w) (hAD.J (by decide)) rfl 0 (xs (i + 1)) (1) (by decide +kernel) μ f1) mv_L_79 ⟨rfl, rfl, by decide, by decide⟩ rfl rfl (Nat.le_of_ble_eq_true rfl) hz dL_law_721) hS hPM ho (fun H locs hPC hPM ho hS => ?_)
    refine lv_aload_n hx hb dL_law_724 rfl (lv_at hl 2 rfl) ?_
    refine l_arg (k := 1) G hS (lv_at hl 0 rfl) (lv_at hl 4 rfl) hi (by decide) (by decide) dL_law_725 dL_law_726 dL_law_728 dL_law_729 dL_law_730 ?_
    refine l_arg (k := 2) G hS (lv_at hl 0 rfl) (lv_at hl 4 rfl) hi (by decide) (by decide) dL_law_731 dL_law_732 dL_law_734 dL_law_735 dL_law_736 ?_
    refine lv_if_eq (tgt := 744) hx hb dL_law_737 (by decide) (fun dcb2 => ?_) (fun dcb2 => ?_)
    · exact absurd dcb2 cb2
    · refine lv_iconst (v := 1) hx hb dL_law_740 (by decide) ?_
      refine lv_goto (tgt := 745) hx hb dL_law_741 (by decide) ?_
      refine lgM_i G (callV_run (w := wM w) (As := [.int (xs (i + 1)), .int 1]) (rest := [.int r]) G.2.1 hl hPM (l_old hS h0 _) ⟨show 181 ≤ 181 by decide, show 181 < 221 by decide⟩ (by decide +kernel) (m_X11_rope l (wM w) (hAD.J (by decide)) rfl 181 (xs (i + 1)) (1) (by decide +kernel) ν f2) mv_L_83 ⟨rfl, rfl, by decide, by decide⟩ rfl rfl (Nat.le_of_ble_eq_true rfl) hz dL_law_745) hS hPC ho (fun H locs hPM hPC ho hS => ?_)
      refine lv_icmp_eq (tgt := 1540) hx hb dL_law_748 (by decide) (fun _ => ?_) (fun c9 => absurd rfl c9)
      exact l_next G next hR hPC hPM ho hS hl hcl hsl
set_option maxHeartbeats 4000000 in
set_option maxRecDepth 100000 in
theorem lc_13 {Rel : fMem → fMem → Prop} {p : Program} {l : Launch} {e : Env} {s : State} {m : MethodId} {below : List Frame} {meth : Method} {c : Code} {w : fW} {b L i : Nat} {xs : Nat → Int32} (G : LG p s m b meth c w L xs) (hi : i + 6 ≤ L) (sim : ∀ (a0 : Int32), Sim Rel (f_X10_dust 0 a0) (f_X11_dust 181 a0)) (next : LI Rel p l e s m b below meth c w (i + 6) 23) : LI Rel p l e s m b below meth c w i 753 := by
  intro μ ν H locs ls cl sl ⟨hR, hPC, hPM, ho, hS, hl, hcl, hsl⟩
  obtain ⟨⟨hx, hb, -⟩, -, -, -, hAD, h0, hL⟩ := id G
  have hz : cl ≤ room_1.cells ∧ sl ≤ room_1.slots := ⟨Nat.le_trans hcl (by show 222 + i ≤ 601024; omega), Nat.le_trans hsl (by show 8988 + 6 * i ≤ 7293034; omega)⟩
  refine lv_aload_n hx hb dL_law_753 rfl (lv_at hl 1 rfl) ?_
  refine l_arg (k := 1) G hS (lv_at hl 0 rfl) (lv_at hl 4 rfl) hi (by decide) (by decide) dL_law_754 dL_law_755 dL_law_757 dL_law_758 dL_law_759 ?_
  obtain ⟨r, μ1, ν1, f1, f2, hR⟩ := sim (xs (i + 1)) μ ν hR
  refine lgC_i G (callV_run (w := wC w) (As := [.int (xs (i + 1))]) (rest := []) G.1 hl hPC (l_old hS h0 _) ⟨show 0 ≤ 0 by decide, show 0 < 181 by decide⟩ (by decide +kernel) (m_X10_dust l (wC w) (hAD.J (by decide)) rfl 0 (xs (i + 1)) (by decide +kernel) μ f1) mv_L_84 ⟨rfl, rfl, by decide, by decide⟩ rfl rfl (Nat.le_of_ble_eq_true rfl) hz dL_law_760) hS hPM ho (fun H locs hPC hPM ho hS => ?_)
  refine lv_aload_n hx hb dL_law_763 rfl (lv_at hl 2 rfl) ?_
  refine l_arg (k := 1) G hS (lv_at hl 0 rfl) (lv_at hl 4 rfl) hi (by decide) (by decide) dL_law_764 dL_law_765 dL_law_767 dL_law_768 dL_law_769 ?_
  refine lgM_i G (callV_run (w := wM w) (As := [.int (xs (i + 1))]) (rest := [.int r]) G.2.1 hl hPM (l_old hS h0 _) ⟨show 181 ≤ 181 by decide, show 181 < 221 by decide⟩ (by decide +kernel) (m_X11_dust l (wM w) (hAD.J (by decide)) rfl 181 (xs (i + 1)) (by decide +kernel) ν f2) mv_L_88 ⟨rfl, rfl, by decide, by decide⟩ rfl rfl (Nat.le_of_ble_eq_true rfl) hz dL_law_770) hS hPC ho (fun H locs hPM hPC ho hS => ?_)
  refine lv_icmp_eq (tgt := 1540) hx hb dL_law_773 (by decide) (fun _ => ?_) (fun c9 => absurd rfl c9)
  exact l_next G next hR hPC hPM ho hS hl hcl hsl
set_option maxHeartbeats 4000000 in
set_option maxRecDepth 100000 in
theorem lc_14 {Rel : fMem → fMem → Prop} {p : Program} {l : Launch} {e : Env} {s : State} {m : MethodId} {below : List Frame} {meth : Method} {c : Code} {w : fW} {b L i : Nat} {xs : Nat → Int32} (G : LG p s m b meth c w L xs) (hi : i + 6 ≤ L) (sim : ∀ (a0 : Int32), Sim Rel (f_X10_go 0 a0) (f_X11_go 181 a0)) (next : LI Rel p l e s m b below meth c w (i + 6) 23) : LI Rel p l e s m b below meth c w i 778 := by
  intro μ ν H locs ls cl sl ⟨hR, hPC, hPM, ho, hS, hl, hcl, hsl⟩
  obtain ⟨⟨hx, hb, -⟩, -, -, -, hAD, h0, hL⟩ := id G
  have hz : cl ≤ room_1.cells ∧ sl ≤ room_1.slots := ⟨Nat.le_trans hcl (by show 222 + i ≤ 601024; omega), Nat.le_trans hsl (by show 8988 + 6 * i ≤ 7293034; omega)⟩
  refine lv_aload_n hx hb dL_law_778 rfl (lv_at hl 1 rfl) ?_
  refine l_arg (k := 1) G hS (lv_at hl 0 rfl) (lv_at hl 4 rfl) hi (by decide) (by decide) dL_law_779 dL_law_780 dL_law_782 dL_law_783 dL_law_784 ?_
  obtain ⟨r, μ1, ν1, f1, f2, hR⟩ := sim (xs (i + 1)) μ ν hR
  refine lgC_i G (callV_run (w := wC w) (As := [.int (xs (i + 1))]) (rest := []) G.1 hl hPC (l_old hS h0 _) ⟨show 0 ≤ 0 by decide, show 0 < 181 by decide⟩ (by decide +kernel) (m_X10_go l (wC w) (hAD.J (by decide)) rfl 0 (xs (i + 1)) (by decide +kernel) μ f1) mv_L_89 ⟨rfl, rfl, by decide, by decide⟩ rfl rfl (Nat.le_of_ble_eq_true rfl) hz dL_law_785) hS hPM ho (fun H locs hPC hPM ho hS => ?_)
  refine lv_aload_n hx hb dL_law_788 rfl (lv_at hl 2 rfl) ?_
  refine l_arg (k := 1) G hS (lv_at hl 0 rfl) (lv_at hl 4 rfl) hi (by decide) (by decide) dL_law_789 dL_law_790 dL_law_792 dL_law_793 dL_law_794 ?_
  refine lgM_i G (callV_run (w := wM w) (As := [.int (xs (i + 1))]) (rest := [.int r]) G.2.1 hl hPM (l_old hS h0 _) ⟨show 181 ≤ 181 by decide, show 181 < 221 by decide⟩ (by decide +kernel) (m_X11_go l (wM w) (hAD.J (by decide)) rfl 181 (xs (i + 1)) (by decide +kernel) ν f2) mv_L_92 ⟨rfl, rfl, by decide, by decide⟩ rfl rfl (Nat.le_of_ble_eq_true rfl) hz dL_law_795) hS hPC ho (fun H locs hPM hPC ho hS => ?_)
  refine lv_icmp_eq (tgt := 1540) hx hb dL_law_798 (by decide) (fun _ => ?_) (fun c9 => absurd rfl c9)
  exact l_next G next hR hPC hPM ho hS hl hcl hsl
set_option maxHeartbeats 4000000 in
set_option maxRecDepth 100000 in
theorem lc_15 {Rel : fMem → fMem → Prop} {p : Program} {l : Launch} {e : Env} {s : State} {m : MethodId} {below : List Frame} {meth : Method} {c : Code} {w : fW} {b L i : Nat} {xs : Nat → Int32} (G : LG p s m b meth c w L xs) (hi : i + 6 ≤ L) (sim : ∀ (a0 : Int32) (a1 : Int32) (a2 : Int32), Sim Rel (f_X10_ahead 0 a0 a1 a2) (f_X11_ahead 181 a0 a1 a2)) (next : LI Rel p l e s m b below meth c w (i + 6) 23) : LI Rel p l e s m b below meth c w i 803 := by
  intro μ ν H locs ls cl sl ⟨hR, hPC, hPM, ho, hS, hl, hcl, hsl⟩
  obtain ⟨⟨hx, hb, -⟩, -, -, -, hAD, h0, hL⟩ := id G
  have hz : cl ≤ room_1.cells ∧ sl ≤ room_1.slots := ⟨Nat.le_trans hcl (by show 222 + i ≤ 601024; omega), Nat.le_trans hsl (by show 8988 + 6 * i ≤ 7293034; omega)⟩
  refine lv_aload_n hx hb dL_law_803 rfl (lv_at hl 1 rfl) ?_
  refine l_arg (k := 1) G hS (lv_at hl 0 rfl) (lv_at hl 4 rfl) hi (by decide) (by decide) dL_law_804 dL_law_805 dL_law_807 dL_law_808 dL_law_809 ?_
  refine l_arg (k := 2) G hS (lv_at hl 0 rfl) (lv_at hl 4 rfl) hi (by decide) (by decide) dL_law_810 dL_law_811 dL_law_813 dL_law_814 dL_law_815 ?_
  refine l_arg (k := 3) G hS (lv_at hl 0 rfl) (lv_at hl 4 rfl) hi (by decide) (by decide) dL_law_816 dL_law_817 dL_law_819 dL_law_820 dL_law_821 ?_
  obtain ⟨r, μ1, ν1, f1, f2, hR⟩ := sim (xs (i + 1)) (xs (i + 2)) (xs (i + 3)) μ ν hR
  refine lgC_i G (callV_run (w := wC w) (As := [.int (xs (i + 1)), .int (xs (i + 2)), .int (xs (i + 3))]) (rest := []) G.1 hl hPC (l_old hS h0 _) ⟨show 0 ≤ 0 by decide, show 0 < 181 by decide⟩ (by decide +kernel) (m_X10_ahead l (wC w) (hAD.J (by decide)) rfl 0 (xs (i + 1)) (xs (i + 2)) (xs (i + 3)) (by decide +kernel) μ f1) mv_L_93 ⟨rfl, rfl, by decide, by decide⟩ rfl rfl (Nat.le_of_ble_eq_true rfl) hz dL_law_822) hS hPM ho (fun H locs hPC hPM ho hS => ?_)
  refine lv_aload_n hx hb dL_law_825 rfl (lv_at hl 2 rfl) ?_
  refine l_arg (k := 1) G hS (lv_at hl 0 rfl) (lv_at hl 4 rfl) hi (by decide) (by decide) dL_law_826 dL_law_827 dL_law_829 dL_law_830 dL_law_831 ?_
  refine l_arg (k := 2) G hS (lv_at hl 0 rfl) (lv_at hl 4 rfl) hi (by decide) (by decide) dL_law_832 dL_law_833 dL_law_835 dL_law_836 dL_law_837 ?_
  refine l_arg (k := 3) G hS (lv_at hl 0 rfl) (lv_at hl 4 rfl) hi (by decide) (by decide) dL_law_838 dL_law_839 dL_law_841 dL_law_842 dL_law_843 ?_
  refine lgM_i G (callV_run (w := wM w) (As := [.int (xs (i + 1)), .int (xs (i + 2)), .int (xs (i + 3))]) (rest := [.int r]) G.2.1 hl hPM (l_old hS h0 _) ⟨show 181 ≤ 181 by decide, show 181 < 221 by decide⟩ (by decide +kernel) (m_X11_ahead l (wM w) (hAD.J (by decide)) rfl 181 (xs (i + 1)) (xs (i + 2)) (xs (i + 3)) (by decide +kernel) ν f2) mv_L_97 ⟨rfl, rfl, by decide, by decide⟩ rfl rfl (Nat.le_of_ble_eq_true rfl) hz dL_law_844) hS hPC ho (fun H locs hPM hPC ho hS => ?_)
  refine lv_icmp_eq (tgt := 1540) hx hb dL_law_847 (by decide) (fun _ => ?_) (fun c9 => absurd rfl c9)
  exact l_next G next hR hPC hPM ho hS hl hcl hsl
set_option maxHeartbeats 4000000 in
set_option maxRecDepth 100000 in
theorem lc_16 {Rel : fMem → fMem → Prop} {p : Program} {l : Launch} {e : Env} {s : State} {m : MethodId} {below : List Frame} {meth : Method} {c : Code} {w : fW} {b L i : Nat} {xs : Nat → Int32} (G : LG p s m b meth c w L xs) (hi : i + 6 ≤ L) (sim : Sim Rel (f_X10_comes 0) (f_X11_comes 181)) (next : LI Rel p l e s m b below meth c w (i + 6) 23) : LI Rel p l e s m b below meth c w i 852 := by
  intro μ ν H locs ls cl sl ⟨hR, hPC, hPM, ho, hS, hl, hcl, hsl⟩
  obtain ⟨⟨hx, hb, -⟩, -, -, -, hAD, h0, hL⟩ := id G
  have hz : cl ≤ room_1.cells ∧ sl ≤ room_1.slots := ⟨Nat.le_trans hcl (by show 222 + i ≤ 601024; omega), Nat.le_trans hsl (by show 8988 + 6 * i ≤ 7293034; omega)⟩
  refine lv_aload_n hx hb dL_law_852 rfl (lv_at hl 1 rfl) ?_
  obtain ⟨r, μ1, ν1, f1, f2, hR⟩ := sim  μ ν hR
  refine lgC_i G (callV_run (w := wC w) (As := []) (rest := []) G.1 hl hPC (l_old hS h0 _) ⟨show 0 ≤ 0 by decide, show 0 < 181 by decide⟩ (by decide +kernel) (m_X10_comes l (wC w) (hAD.J (by decide)) rfl 0  (by decide +kernel) μ f1) mv_L_98 ⟨rfl, rfl, by decide, by decide⟩ rfl rfl (Nat.le_of_ble_eq_true rfl) hz dL_law_853) hS hPM ho (fun H locs hPC hPM ho hS => ?_)
  refine lv_aload_n hx hb dL_law_856 rfl (lv_at hl 2 rfl) ?_
  refine lgM_i G (callV_run (w := wM w) (As := []) (rest := [.int r]) G.2.1 hl hPM (l_old hS h0 _) ⟨show 181 ≤ 181 by decide, show 181 < 221 by decide⟩ (by decide +kernel) (m_X11_comes l (wM w) (hAD.J (by decide)) rfl 181  (by decide +kernel) ν f2) mv_L_101 ⟨rfl, rfl, by decide, by decide⟩ rfl rfl (Nat.le_of_ble_eq_true rfl) hz dL_law_857) hS hPC ho (fun H locs hPM hPC ho hS => ?_)
  refine lv_icmp_eq (tgt := 1540) hx hb dL_law_860 (by decide) (fun _ => ?_) (fun c9 => absurd rfl c9)
  exact l_next G next hR hPC hPM ho hS hl hcl hsl
set_option maxHeartbeats 4000000 in
set_option maxRecDepth 100000 in
theorem lc_17 {Rel : fMem → fMem → Prop} {p : Program} {l : Launch} {e : Env} {s : State} {m : MethodId} {below : List Frame} {meth : Method} {c : Code} {w : fW} {b L i : Nat} {xs : Nat → Int32} (G : LG p s m b meth c w L xs) (hi : i + 6 ≤ L) (sim : ∀ (a0 : Int32), Sim Rel (f_X10_sits 0 a0) (f_X11_sits 181 a0)) (next : LI Rel p l e s m b below meth c w (i + 6) 23) : LI Rel p l e s m b below meth c w i 865 := by
  intro μ ν H locs ls cl sl ⟨hR, hPC, hPM, ho, hS, hl, hcl, hsl⟩
  obtain ⟨⟨hx, hb, -⟩, -, -, -, hAD, h0, hL⟩ := id G
  have hz : cl ≤ room_1.cells ∧ sl ≤ room_1.slots := ⟨Nat.le_trans hcl (by show 222 + i ≤ 601024; omega), Nat.le_trans hsl (by show 8988 + 6 * i ≤ 7293034; omega)⟩
  refine lv_aload_n hx hb dL_law_865 rfl (lv_at hl 1 rfl) ?_
  refine l_arg (k := 1) G hS (lv_at hl 0 rfl) (lv_at hl 4 rfl) hi (by decide) (by decide) dL_law_866 dL_law_867 dL_law_869 dL_law_870 dL_law_871 ?_
  obtain ⟨r, μ1, ν1, f1, f2, hR⟩ := sim (xs (i + 1)) μ ν hR
  refine lgC_i G (callV_run (w := wC w) (As := [.int (xs (i + 1))]) (rest := []) G.1 hl hPC (l_old hS h0 _) ⟨show 0 ≤ 0 by decide, show 0 < 181 by decide⟩ (by decide +kernel) (m_X10_sits l (wC w) (hAD.J (by decide)) rfl 0 (xs (i + 1)) (by decide +kernel) μ f1) mv_L_102 ⟨rfl, rfl, by decide, by decide⟩ rfl rfl (Nat.le_of_ble_eq_true rfl) hz dL_law_872) hS hPM ho (fun H locs hPC hPM ho hS => ?_)
  refine lv_aload_n hx hb dL_law_875 rfl (lv_at hl 2 rfl) ?_
  refine l_arg (k := 1) G hS (lv_at hl 0 rfl) (lv_at hl 4 rfl) hi (by decide) (by decide) dL_law_876 dL_law_877 dL_law_879 dL_law_880 dL_law_881 ?_
  refine lgM_i G (callV_run (w := wM w) (As := [.int (xs (i + 1))]) (rest := [.int r]) G.2.1 hl hPM (l_old hS h0 _) ⟨show 181 ≤ 181 by decide, show 181 < 221 by decide⟩ (by decide +kernel) (m_X11_sits l (wM w) (hAD.J (by decide)) rfl 181 (xs (i + 1)) (by decide +kernel) ν f2) mv_L_105 ⟨rfl, rfl, by decide, by decide⟩ rfl rfl (Nat.le_of_ble_eq_true rfl) hz dL_law_882) hS hPC ho (fun H locs hPM hPC ho hS => ?_)
  refine lv_icmp_eq (tgt := 1540) hx hb dL_law_885 (by decide) (fun _ => ?_) (fun c9 => absurd rfl c9)
  exact l_next G next hR hPC hPM ho hS hl hcl hsl
set_option maxHeartbeats 4000000 in
set_option maxRecDepth 100000 in
theorem lc_18 {Rel : fMem → fMem → Prop} {p : Program} {l : Launch} {e : Env} {s : State} {m : MethodId} {below : List Frame} {meth : Method} {c : Code} {w : fW} {b L i : Nat} {xs : Nat → Int32} (G : LG p s m b meth c w L xs) (hi : i + 6 ≤ L) (sim : Sim Rel (f_X10_quiet 0) (f_X11_quiet 181)) (next : LI Rel p l e s m b below meth c w (i + 6) 23) : LI Rel p l e s m b below meth c w i 890 := by
  intro μ ν H locs ls cl sl ⟨hR, hPC, hPM, ho, hS, hl, hcl, hsl⟩
  obtain ⟨⟨hx, hb, -⟩, -, -, -, hAD, h0, hL⟩ := id G
  have hz : cl ≤ room_1.cells ∧ sl ≤ room_1.slots := ⟨Nat.le_trans hcl (by show 222 + i ≤ 601024; omega), Nat.le_trans hsl (by show 8988 + 6 * i ≤ 7293034; omega)⟩
  refine lv_aload_n hx hb dL_law_890 rfl (lv_at hl 1 rfl) ?_
  obtain ⟨r, μ1, ν1, f1, f2, hR⟩ := sim  μ ν hR
  refine lgC_i G (callV_run (w := wC w) (As := []) (rest := []) G.1 hl hPC (l_old hS h0 _) ⟨show 0 ≤ 0 by decide, show 0 < 181 by decide⟩ (by decide +kernel) (m_X10_quiet l (wC w) (hAD.J (by decide)) rfl 0  (by decide +kernel) μ f1) mv_L_106 ⟨rfl, rfl, by decide, by decide⟩ rfl rfl (Nat.le_of_ble_eq_true rfl) hz dL_law_891) hS hPM ho (fun H locs hPC hPM ho hS => ?_)
  refine lv_aload_n hx hb dL_law_894 rfl (lv_at hl 2 rfl) ?_
  refine lgM_i G (callV_run (w := wM w) (As := []) (rest := [.int r]) G.2.1 hl hPM (l_old hS h0 _) ⟨show 181 ≤ 181 by decide, show 181 < 221 by decide⟩ (by decide +kernel) (m_X11_quiet l (wM w) (hAD.J (by decide)) rfl 181  (by decide +kernel) ν f2) mv_L_109 ⟨rfl, rfl, by decide, by decide⟩ rfl rfl (Nat.le_of_ble_eq_true rfl) hz dL_law_895) hS hPC ho (fun H locs hPM hPC ho hS => ?_)
  refine lv_icmp_eq (tgt := 1540) hx hb dL_law_898 (by decide) (fun _ => ?_) (fun c9 => absurd rfl c9)
  exact l_next G next hR hPC hPM ho hS hl hcl hsl
set_option maxHeartbeats 4000000 in
set_option maxRecDepth 100000 in
theorem lc_19 {Rel : fMem → fMem → Prop} {p : Program} {l : Launch} {e : Env} {s : State} {m : MethodId} {below : List Frame} {meth : Method} {c : Code} {w : fW} {b L i : Nat} {xs : Nat → Int32} (G : LG p s m b meth c w L xs) (hi : i + 6 ≤ L) (sim : ∀ (a0 : Int32) (a1 : Int32) (a2 : Int32), Sim Rel (f_X10_leastMoved 0 a0 a1 a2) (f_X11_leastMoved 181 a0 a1 a2)) (next : LI Rel p l e s m b below meth c w (i + 6) 23) : LI Rel p l e s m b below meth c w i 903 := by
  intro μ ν H locs ls cl sl ⟨hR, hPC, hPM, ho, hS, hl, hcl, hsl⟩
  obtain ⟨⟨hx, hb, -⟩, -, -, -, hAD, h0, hL⟩ := id G
  have hz : cl ≤ room_1.cells ∧ sl ≤ room_1.slots := ⟨Nat.le_trans hcl (by show 222 + i ≤ 601024; omega), Nat.le_trans hsl (by show 8988 + 6 * i ≤ 7293034; omega)⟩
  refine lv_aload_n hx hb dL_law_903 rfl (lv_at hl 1 rfl) ?_
  refine l_arg (k := 1) G hS (lv_at hl 0 rfl) (lv_at hl 4 rfl) hi (by decide) (by decide) dL_law_904 dL_law_905 dL_law_907 dL_law_908 dL_law_909 ?_
  refine l_arg (k := 2) G hS (lv_at hl 0 rfl) (lv_at hl 4 rfl) hi (by decide) (by decide) dL_law_910 dL_law_911 dL_law_913 dL_law_914 dL_law_915 ?_
  refine l_arg (k := 3) G hS (lv_at hl 0 rfl) (lv_at hl 4 rfl) hi (by decide) (by decide) dL_law_916 dL_law_917 dL_law_919 dL_law_920 dL_law_921 ?_
  obtain ⟨r, μ1, ν1, f1, f2, hR⟩ := sim (xs (i + 1)) (xs (i + 2)) (xs (i + 3)) μ ν hR
  refine lgC_i G (callV_run (w := wC w) (As := [.int (xs (i + 1)), .int (xs (i + 2)), .int (xs (i + 3))]) (rest := []) G.1 hl hPC (l_old hS h0 _) ⟨show 0 ≤ 0 by decide, show 0 < 181 by decide⟩ (by decide +kernel) (m_X10_leastMoved l (wC w) (hAD.J (by decide)) rfl 0 (xs (i + 1)) (xs (i + 2)) (xs (i + 3)) (by decide +kernel) μ f1) mv_L_110 ⟨rfl, rfl, by decide, by decide⟩ rfl rfl (Nat.le_of_ble_eq_true rfl) hz dL_law_922) hS hPM ho (fun H locs hPC hPM ho hS => ?_)
  refine lv_aload_n hx hb dL_law_925 rfl (lv_at hl 2 rfl) ?_
  refine l_arg (k := 1) G hS (lv_at hl 0 rfl) (lv_at hl 4 rfl) hi (by decide) (by decide) dL_law_926 dL_law_927 dL_law_929 dL_law_930 dL_law_931 ?_
  refine l_arg (k := 2) G hS (lv_at hl 0 rfl) (lv_at hl 4 rfl) hi (by decide) (by decide) dL_law_932 dL_law_933 dL_law_935 dL_law_936 dL_law_937 ?_
  refine l_arg (k := 3) G hS (lv_at hl 0 rfl) (lv_at hl 4 rfl) hi (by decide) (by decide) dL_law_938 dL_law_939 dL_law_941 dL_law_942 dL_law_943 ?_
  refine lgM_i G (callV_run (w := wM w) (As := [.int (xs (i + 1)), .int (xs (i + 2)), .int (xs (i + 3))]) (rest := [.int r]) G.2.1 hl hPM (l_old hS h0 _) ⟨show 181 ≤ 181 by decide, show 181 < 221 by decide⟩ (by decide +kernel) (m_X11_leastMoved l (wM w) (hAD.J (by decide)) rfl 181 (xs (i + 1)) (xs (i + 2)) (xs (i + 3)) (by decide +kernel) ν f2) mv_L_113 ⟨rfl, rfl, by decide, by decide⟩ rfl rfl (Nat.le_of_ble_eq_true rfl) hz dL_law_944) hS hPC ho (fun H locs hPM hPC ho hS => ?_)
  refine lv_icmp_eq (tgt := 1540) hx hb dL_law_947 (by decide) (fun _ => ?_) (fun c9 => absurd rfl c9)
  exact l_next G next hR hPC hPM ho hS hl hcl hsl
set_option maxHeartbeats 4000000 in
set_option maxRecDepth 100000 in
theorem lc_20 {Rel : fMem → fMem → Prop} {p : Program} {l : Launch} {e : Env} {s : State} {m : MethodId} {below : List Frame} {meth : Method} {c : Code} {w : fW} {b L i : Nat} {xs : Nat → Int32} (G : LG p s m b meth c w L xs) (hi : i + 6 ≤ L) (sim : ∀ (a0 : Int32), Sim Rel (f_X10_hanging 0 a0) (f_X11_hanging 181 a0)) (next : LI Rel p l e s m b below meth c w (i + 6) 23) : LI Rel p l e s m b below meth c w i 952 := by
  intro μ ν H locs ls cl sl ⟨hR, hPC, hPM, ho, hS, hl, hcl, hsl⟩
  obtain ⟨⟨hx, hb, -⟩, -, -, -, hAD, h0, hL⟩ := id G
  have hz : cl ≤ room_1.cells ∧ sl ≤ room_1.slots := ⟨Nat.le_trans hcl (by show 222 + i ≤ 601024; omega), Nat.le_trans hsl (by show 8988 + 6 * i ≤ 7293034; omega)⟩
  refine lv_aload_n hx hb dL_law_952 rfl (lv_at hl 1 rfl) ?_
  refine l_arg (k := 1) G hS (lv_at hl 0 rfl) (lv_at hl 4 rfl) hi (by decide) (by decide) dL_law_953 dL_law_954 dL_law_956 dL_law_957 dL_law_958 ?_
  obtain ⟨r, μ1, ν1, f1, f2, hR⟩ := sim (xs (i + 1)) μ ν hR
  refine lgC_i G (callV_run (w := wC w) (As := [.int (xs (i + 1))]) (rest := []) G.1 hl hPC (l_old hS h0 _) ⟨show 0 ≤ 0 by decide, show 0 < 181 by decide⟩ (by decide +kernel) (m_X10_hanging l (wC w) (hAD.J (by decide)) rfl 0 (xs (i + 1)) (by decide +kernel) μ f1) mv_L_114 ⟨rfl, rfl, by decide, by decide⟩ rfl rfl (Nat.le_of_ble_eq_true rfl) hz dL_law_959) hS hPM ho (fun H locs hPC hPM ho hS => ?_)
  refine lv_aload_n hx hb dL_law_962 rfl (lv_at hl 2 rfl) ?_
  refine l_arg (k := 1) G hS (lv_at hl 0 rfl) (lv_at hl 4 rfl) hi (by decide) (by decide) dL_law_963 dL_law_964 dL_law_966 dL_law_967 dL_law_968 ?_
  refine lgM_i G (callV_run (w := wM w) (As := [.int (xs (i + 1))]) (rest := [.int r]) G.2.1 hl hPM (l_old hS h0 _) ⟨show 181 ≤ 181 by decide, show 181 < 221 by decide⟩ (by decide +kernel) (m_X11_hanging l (wM w) (hAD.J (by decide)) rfl 181 (xs (i + 1)) (by decide +kernel) ν f2) mv_L_117 ⟨rfl, rfl, by decide, by decide⟩ rfl rfl (Nat.le_of_ble_eq_true rfl) hz dL_law_969) hS hPC ho (fun H locs hPM hPC ho hS => ?_)
  refine lv_icmp_eq (tgt := 1540) hx hb dL_law_972 (by decide) (fun _ => ?_) (fun c9 => absurd rfl c9)
  exact l_next G next hR hPC hPM ho hS hl hcl hsl
set_option maxHeartbeats 4000000 in
set_option maxRecDepth 100000 in
theorem lc_21 {Rel : fMem → fMem → Prop} {p : Program} {l : Launch} {e : Env} {s : State} {m : MethodId} {below : List Frame} {meth : Method} {c : Code} {w : fW} {b L i : Nat} {xs : Nat → Int32} (G : LG p s m b meth c w L xs) (hi : i + 6 ≤ L) (sim : ∀ (a0 : Int32) (a1 : Int32), Sim Rel (f_X10_steer 0 a0 a1) (f_X11_steer 181 a0 a1)) (next : LI Rel p l e s m b below meth c w (i + 6) 23) : LI Rel p l e s m b below meth c w i 977 := by
  intro μ ν H locs ls cl sl ⟨hR, hPC, hPM, ho, hS, hl, hcl, hsl⟩
  obtain ⟨⟨hx, hb, -⟩, -, -, -, hAD, h0, hL⟩ := id G
  have hz : cl ≤ room_1.cells ∧ sl ≤ room_1.slots := ⟨Nat.le_trans hcl (by show 222 + i ≤ 601024; omega), Nat.le_trans hsl (by show 8988 + 6 * i ≤ 7293034; omega)⟩
  refine lv_aload_n hx hb dL_law_977 rfl (lv_at hl 1 rfl) ?_
  refine l_arg (k := 1) G hS (lv_at hl 0 rfl) (lv_at hl 4 rfl) hi (by decide) (by decide) dL_law_978 dL_law_979 dL_law_981 dL_law_982 dL_law_983 ?_
  refine l_arg (k := 2) G hS (lv_at hl 0 rfl) (lv_at hl 4 rfl) hi (by decide) (by decide) dL_law_984 dL_law_985 dL_law_987 dL_law_988 dL_law_989 ?_
  obtain ⟨r, μ1, ν1, f1, f2, hR⟩ := sim (xs (i + 1)) (xs (i + 2)) μ ν hR
  refine lgC_i G (callV_run (w := wC w) (As := [.int (xs (i + 1)), .int (xs (i + 2))]) (rest := []) G.1 hl hPC (l_old hS h0 _) ⟨show 0 ≤ 0 by decide, show 0 < 181 by decide⟩ (by decide +kernel) (m_X10_steer l (wC w) (hAD.J (by decide)) rfl 0 (xs (i + 1)) (xs (i + 2)) (by decide +kernel) μ f1) mv_L_118 ⟨rfl, rfl, by decide, by decide⟩ rfl rfl (Nat.le_of_ble_eq_true rfl) hz dL_law_990) hS hPM ho (fun H locs hPC hPM ho hS => ?_)
  refine lv_aload_n hx hb dL_law_993 rfl (lv_at hl 2 rfl) ?_
  refine l_arg (k := 1) G hS (lv_at hl 0 rfl) (lv_at hl 4 rfl) hi (by decide) (by decide) dL_law_994 dL_law_995 dL_law_997 dL_law_998 dL_law_999 ?_
  refine l_arg (k := 2) G hS (lv_at hl 0 rfl) (lv_at hl 4 rfl) hi (by decide) (by decide) dL_law_1000 dL_law_1001 dL_law_1003 dL_law_1004 dL_law_1005 ?_
  refine lgM_i G (callV_run (w := wM w) (As := [.int (xs (i + 1)), .int (xs (i + 2))]) (rest := [.int r]) G.2.1 hl hPM (l_old hS h0 _) ⟨show 181 ≤ 181 by decide, show 181 < 221 by decide⟩ (by decide +kernel) (m_X11_steer l (wM w) (hAD.J (by decide)) rfl 181 (xs (i + 1)) (xs (i + 2)) (by decide +kernel) ν f2) mv_L_121 ⟨rfl, rfl, by decide, by decide⟩ rfl rfl (Nat.le_of_ble_eq_true rfl) hz dL_law_1006) hS hPC ho (fun H locs hPM hPC ho hS => ?_)
  refine lv_icmp_eq (tgt := 1540) hx hb dL_law_1009 (by decide) (fun _ => ?_) (fun c9 => absurd rfl c9)
  exact l_next G next hR hPC hPM ho hS hl hcl hsl
set_option maxHeartbeats 4000000 in
set_option maxRecDepth 100000 in
theorem lc_22 {Rel : fMem → fMem → Prop} {p : Program} {l : Launch} {e : Env} {s : State} {m : MethodId} {below : List Frame} {meth : Method} {c : Code} {w : fW} {b L i : Nat} {xs : Nat → Int32} (G : LG p s m b meth c w L xs) (hi : i + 6 ≤ L) (sim : Sim Rel (f_X10_rests 0) (f_X11_rests 181)) (next : LI Rel p l e s m b below meth c w (i + 6) 23) : LI Rel p l e s m b below meth c w i 1014 := by
  intro μ ν H locs ls cl sl ⟨hR, hPC, hPM, ho, hS, hl, hcl, hsl⟩
  obtain ⟨⟨hx, hb, -⟩, -, -, -, hAD, h0, hL⟩ := id G
  have hz : cl ≤ room_1.cells ∧ sl ≤ room_1.slots := ⟨Nat.le_trans hcl (by show 222 + i ≤ 601024; omega), Nat.le_trans hsl (by show 8988 + 6 * i ≤ 7293034; omega)⟩
  refine lv_aload_n hx hb dL_law_1014 rfl (lv_at hl 1 rfl) ?_
  obtain ⟨r, μ1, ν1, f1, f2, hR⟩ := sim  μ ν hR
  refine lgC_i G (callV_run (w := wC w) (As := []) (rest := []) G.1 hl hPC (l_old hS h0 _) ⟨show 0 ≤ 0 by decide, show 0 < 181 by decide⟩ (by decide +kernel) (m_X10_rests l (wC w) (hAD.J (by decide)) rfl 0  (by decide +kernel) μ f1) mv_L_122 ⟨rfl, rfl, by decide, by decide⟩ rfl rfl (Nat.le_of_ble_eq_true rfl) hz dL_law_1015) hS hPM ho (fun H locs hPC hPM ho hS => ?_)
  refine lv_aload_n hx hb dL_law_1018 rfl (lv_at hl 2 rfl) ?_
  refine lgM_i G (callV_run (w := wM w) (As := []) (rest := [.int r]) G.2.1 hl hPM (l_old hS h0 _) ⟨show 181 ≤ 181 by decide, show 181 < 221 by decide⟩ (by decide +kernel) (m_X11_rests l (wM w) (hAD.J (by decide)) rfl 181  (by decide +kernel) ν f2) mv_L_125 ⟨rfl, rfl, by decide, by decide⟩ rfl rfl (Nat.le_of_ble_eq_true rfl) hz dL_law_1019) hS hPC ho (fun H locs hPM hPC ho hS => ?_)
  refine lv_icmp_eq (tgt := 1540) hx hb dL_law_1022 (by decide) (fun _ => ?_) (fun c9 => absurd rfl c9)
  exact l_next G next hR hPC hPM ho hS hl hcl hsl
set_option maxHeartbeats 4000000 in
set_option maxRecDepth 100000 in
theorem lc_23 {Rel : fMem → fMem → Prop} {p : Program} {l : Launch} {e : Env} {s : State} {m : MethodId} {below : List Frame} {meth : Method} {c : Code} {w : fW} {b L i : Nat} {xs : Nat → Int32} (G : LG p s m b meth c w L xs) (hi : i + 6 ≤ L) (sim : ∀ (a0 : Int32), Sim Rel (f_X10_rest 0 a0) (f_X11_rest 181 a0)) (next : LI Rel p l e s m b below meth c w (i + 6) 23) : LI Rel p l e s m b below meth c w i 1027 := by
  intro μ ν H locs ls cl sl ⟨hR, hPC, hPM, ho, hS, hl, hcl, hsl⟩
  obtain ⟨⟨hx, hb, -⟩, -, -, -, hAD, h0, hL⟩ := id G
  have hz : cl ≤ room_1.cells ∧ sl ≤ room_1.slots := ⟨Nat.le_trans hcl (by show 222 + i ≤ 601024; omega), Nat.le_trans hsl (by show 8988 + 6 * i ≤ 7293034; omega)⟩
  refine lv_aload_n hx hb dL_law_1027 rfl (lv_at hl 1 rfl) ?_
  refine l_arg (k := 1) G hS (lv_at hl 0 rfl) (lv_at hl 4 rfl) hi (by decide) (by decide) dL_law_1028 dL_law_1029 dL_law_1031 dL_law_1032 dL_law_1033 ?_
  obtain ⟨r, μ1, ν1, f1, f2, hR⟩ := sim (xs (i + 1)) μ ν hR
  refine lgC_i G (callV_run (w := wC w) (As := [.int (xs (i + 1))]) (rest := []) G.1 hl hPC (l_old hS h0 _) ⟨show 0 ≤ 0 by decide, show 0 < 181 by decide⟩ (by decide +kernel) (m_X10_rest l (wC w) (hAD.J (by decide)) rfl 0 (xs (i + 1)) (by decide +kernel) μ f1) mv_L_126 ⟨rfl, rfl, by decide, by decide⟩ rfl rfl (Nat.le_of_ble_eq_true rfl) hz dL_law_1034) hS hPM ho (fun H locs hPC hPM ho hS => ?_)
  refine lv_aload_n hx hb dL_law_1037 rfl (lv_at hl 2 rfl) ?_
  refine l_arg (k := 1) G hS (lv_at hl 0 rfl) (lv_at hl 4 rfl) hi (by decide) (by decide) dL_law_1038 dL_law_1039 dL_law_1041 dL_law_1042 dL_law_1043 ?_
  refine lgM_i G (callV_run (w := wM w) (As := [.int (xs (i + 1))]) (rest := [.int r]) G.2.1 hl hPM (l_old hS h0 _) ⟨show 181 ≤ 181 by decide, show 181 < 221 by decide⟩ (by decide +kernel) (m_X11_rest l (wM w) (hAD.J (by decide)) rfl 181 (xs (i + 1)) (by decide +kernel) ν f2) mv_L_129 ⟨rfl, rfl, by decide, by decide⟩ rfl rfl (Nat.le_of_ble_eq_true rfl) hz dL_law_1044) hS hPC ho (fun H locs hPM hPC ho hS => ?_)
  refine lv_icmp_eq (tgt := 1540) hx hb dL_law_1047 (by decide) (fun _ => ?_) (fun c9 => absurd rfl c9)
  exact l_next G next hR hPC hPM ho hS hl hcl hsl
set_option maxHeartbeats 4000000 in
set_option maxRecDepth 100000 in
theorem lc_24 {Rel : fMem → fMem → Prop} {p : Program} {l : Launch} {e : Env} {s : State} {m : MethodId} {below : List Frame} {meth : Method} {c : Code} {w : fW} {b L i : Nat} {xs : Nat → Int32} (G : LG p s m b meth c w L xs) (hi : i + 6 ≤ L) (sim : ∀ (a0 : Int32) (a1 : Int32), Sim Rel (f_X10_way 0 a0 a1) (f_X11_way 181 a0 a1)) (next : LI Rel p l e s m b below meth c w (i + 6) 23) : LI Rel p l e s m b below meth c w i 1052 := by
  intro μ ν H locs ls cl sl ⟨hR, hPC, hPM, ho, hS, hl, hcl, hsl⟩
  obtain ⟨⟨hx, hb, -⟩, -, -, -, hAD, h0, hL⟩ := id G
  have hz : cl ≤ room_1.cells ∧ sl ≤ room_1.slots := ⟨Nat.le_trans hcl (by show 222 + i ≤ 601024; omega), Nat.le_trans hsl (by show 8988 + 6 * i ≤ 7293034; omega)⟩
  refine lv_aload_n hx hb dL_law_1052 rfl (lv_at hl 1 rfl) ?_
  refine l_arg (k := 1) G hS (lv_at hl 0 rfl) (lv_at hl 4 rfl) hi (by decide) (by decide) dL_law_1053 dL_law_1054 dL_law_1056 dL_law_1057 dL_law_1058 ?_
  refine l_arg (k := 2) G hS (lv_at hl 0 rfl) (lv_at hl 4 rfl) hi (by decide) (by decide) dL_law_1059 dL_law_1060 dL_law_1062 dL_law_1063 dL_law_1064 ?_
  obtain ⟨r, μ1, ν1, f1, f2, hR⟩ := sim (xs (i + 1)) (xs (i + 2)) μ ν hR
  refine lgC_i G (callV_run (w := wC w) (As := [.int (xs (i + 1)), .int (xs (i + 2))]) (rest := []) G.1 hl hPC (l_old hS h0 _) ⟨show 0 ≤ 0 by decide, show 0 < 181 by decide⟩ (by decide +kernel) (m_X10_way l (wC w) (hAD.J (by decide)) rfl 0 (xs (i + 1)) (xs (i + 2)) (by decide +kernel) μ f1) mv_L_130 ⟨rfl, rfl, by decide, by decide⟩ rfl rfl (Nat.le_of_ble_eq_true rfl) hz dL_law_1065) hS hPM ho (fun H locs hPC hPM ho hS => ?_)
  refine lv_aload_n hx hb dL_law_1068 rfl (lv_at hl 2 rfl) ?_
  refine l_arg (k := 1) G hS (lv_at hl 0 rfl) (lv_at hl 4 rfl) hi (by decide) (by decide) dL_law_1069 dL_law_1070 dL_law_1072 dL_law_1073 dL_law_1074 ?_
  refine l_arg (k := 2) G hS (lv_at hl 0 rfl) (lv_at hl 4 rfl) hi (by decide) (by decide) dL_law_1075 dL_law_1076 dL_law_1078 dL_law_1079 dL_law_1080 ?_
  refine lgM_i G (callV_run (w := wM w) (As := [.int (xs (i + 1)), .int (xs (i + 2))]) (rest := [.int r]) G.2.1 hl hPM (l_old hS h0 _) ⟨show 181 ≤ 181 by decide, show 181 < 221 by decide⟩ (by decide +kernel) (m_X11_way l (wM w) (hAD.J (by decide)) rfl 181 (xs (i + 1)) (xs (i + 2)) (by decide +kernel) ν f2) mv_L_133 ⟨rfl, rfl, by decide, by decide⟩ rfl rfl (Nat.le_of_ble_eq_true rfl) hz dL_law_1081) hS hPC ho (fun H locs hPM hPC ho hS => ?_)
  refine lv_icmp_eq (tgt := 1540) hx hb dL_law_1084 (by decide) (fun _ => ?_) (fun c9 => absurd rfl c9)
  exact l_next G next hR hPC hPM ho hS hl hcl hsl
set_option maxHeartbeats 4000000 in
set_option maxRecDepth 100000 in
theorem lc_25 {Rel : fMem → fMem → Prop} {p : Program} {l : Launch} {e : Env} {s : State} {m : MethodId} {below : List Frame} {meth : Method} {c : Code} {w : fW} {b L i : Nat} {xs : Nat → Int32} (G : LG p s m b meth c w L xs) (hi : i + 6 ≤ L) (sim : ∀ (a0 : Int32) (a1 : Int32) (a2 : Int32) (a3 : Int32), Sim Rel (f_X10_likely 0 a0 a1 a2 a3) (f_X11_likely 181 a0 a1 a2 a3)) (next : LI Rel p l e s m b below meth c w (i + 6) 23) : LI Rel p l e s m b below meth c w i 1089 := by
  intro μ ν H locs ls cl sl ⟨hR, hPC, hPM, ho, hS, hl, hcl, hsl⟩
  obtain ⟨⟨hx, hb, -⟩, -, -, -, hAD, h0, hL⟩ := id G
  have hz : cl ≤ room_1.cells ∧ sl ≤ room_1.slots := ⟨Nat.le_trans hcl (by show 222 + i ≤ 601024; omega), Nat.le_trans hsl (by show 8988 + 6 * i ≤ 7293034; omega)⟩
  refine lv_aload_n hx hb dL_law_1089 rfl (lv_at hl 1 rfl) ?_
  refine l_arg (k := 1) G hS (lv_at hl 0 rfl) (lv_at hl 4 rfl) hi (by decide) (by decide) dL_law_1090 dL_law_1091 dL_law_1093 dL_law_1094 dL_law_1095 ?_
  refine l_arg (k := 2) G hS (lv_at hl 0 rfl) (lv_at hl 4 rfl) hi (by decide) (by decide) dL_law_1096 dL_law_1097 dL_law_1099 dL_law_1100 dL_law_1101 ?_
  refine l_arg (k := 3) G hS (lv_at hl 0 rfl) (lv_at hl 4 rfl) hi (by decide) (by decide) dL_law_1102 dL_law_1103 dL_law_1105 dL_law_1106 dL_law_1107 ?_
  refine l_arg (k := 4) G hS (lv_at hl 0 rfl) (lv_at hl 4 rfl) hi (by decide) (by decide) dL_law_1108 dL_law_1109 dL_law_1111 dL_law_1112 dL_law_1113 ?_
  obtain ⟨r, μ1, ν1, f1, f2, hR⟩ := sim (xs (i + 1)) (xs (i + 2)) (xs (i + 3)) (xs (i + 4)) μ ν hR
  refine lgC_l G (callV_run (w := wC w) (As := [.int (xs (i + 1)), .int (xs (i + 2)), .int (xs (i + 3)), .int (xs (i + 4))]) (rest := []) G.1 hl hPC (l_old hS h0 _) ⟨show 0 ≤ 0 by decide, show 0 < 181 by decide⟩ (by decide +kernel) (m_X10_likely l (wC w) (hAD.J (by decide)) rfl 0 (xs (i + 1)) (xs (i + 2)) (xs (i + 3)) (xs (i + 4)) (by decide +kernel) μ f1) mv_L_134 ⟨rfl, rfl, by decide, by decide⟩ rfl rfl (Nat.le_of_ble_eq_true rfl) hz dL_law_1114) hS hPM ho (fun H locs hPC hPM ho hS => ?_)
  refine lv_aload_n hx hb dL_law_1117 rfl (lv_at hl 2 rfl) ?_
  refine l_arg (k := 1) G hS (lv_at hl 0 rfl) (lv_at hl 4 rfl) hi (by decide) (by decide) dL_law_1118 dL_law_1119 dL_law_1121 dL_law_1122 dL_law_1123 ?_
  refine l_arg (k := 2) G hS (lv_at hl 0 rfl) (lv_at hl 4 rfl) hi (by decide) (by decide) dL_law_1124 dL_law_1125 dL_law_1127 dL_law_1128 dL_law_1129 ?_
  refine l_arg (k := 3) G hS (lv_at hl 0 rfl) (lv_at hl 4 rfl) hi (by decide) (by decide) dL_law_1130 dL_law_1131 dL_law_1133 dL_law_1134 dL_law_1135 ?_
  refine l_arg (k := 4) G hS (lv_at hl 0 rfl) (lv_at hl 4 rfl) hi (by decide) (by decide) dL_law_1136 dL_law_1137 dL_law_1139 dL_law_1140 dL_law_1141 ?_
  refine lgM_l G (callV_run (w := wM w) (As := [.int (xs (i + 1)), .int (xs (i + 2)), .int (xs (i + 3)), .int (xs (i + 4))]) (rest := [.long r]) G.2.1 hl hPM (l_old hS h0 _) ⟨show 181 ≤ 181 by decide, show 181 < 221 by decide⟩ (by decide +kernel) (m_X11_likely l (wM w) (hAD.J (by decide)) rfl 181 (xs (i + 1)) (xs (i + 2)) (xs (i + 3)) (xs (i + 4)) (by decide +kernel) ν f2) mv_L_138 ⟨rfl, rfl, by decide, by decide⟩ rfl rfl (Nat.le_of_ble_eq_true rfl) hz dL_law_1142) hS hPC ho (fun H locs hPM hPC ho hS => ?_)
  refine W.lcmp hx hb dL_law_1145 ?_
  rw [lg_cmp_self]
  refine lv_if_eq (tgt := 1540) hx hb dL_law_1146 (by decide) (fun _ => ?_) (fun c9 => absurd rfl c9)
  exact l_next G next hR hPC hPM ho hS hl hcl hsl
set_option maxHeartbeats 4000000 in
set_option maxRecDepth 100000 in
theorem lc_26 {Rel : fMem → fMem → Prop} {p : Program} {l : Launch} {e : Env} {s : State} {m : MethodId} {below : List Frame} {meth : Method} {c : Code} {w : fW} {b L i : Nat} {xs : Nat → Int32} (G : LG p s m b meth c w L xs) (hi : i + 6 ≤ L) (sim : ∀ (a0 : Int32), Sim Rel (f_X10_tickets 0 a0) (f_X11_tickets 181 a0)) (next : LI Rel p l e s m b below meth c w (i + 6) 23) : LI Rel p l e s m b below meth c w i 1151 := by
  intro μ ν H locs ls cl sl ⟨hR, hPC, hPM, ho, hS, hl, hcl, hsl⟩
  obtain ⟨⟨hx, hb, -⟩, -, -, -, hAD, h0, hL⟩ := id G
  have hz : cl ≤ room_1.cells ∧ sl ≤ room_1.slots := ⟨Nat.le_trans hcl (by show 222 + i ≤ 601024; omega), Nat.le_trans hsl (by show 8988 + 6 * i ≤ 7293034; omega)⟩
  refine lv_aload_n hx hb dL_law_1151 rfl (lv_at hl 1 rfl) ?_
  refine l_arg (k := 1) G hS (lv_at hl 0 rfl) (lv_at hl 4 rfl) hi (by decide) (by decide) dL_law_1152 dL_law_1153 dL_law_1155 dL_law_1156 dL_law_1157 ?_
  obtain ⟨r, μ1, ν1, f1, f2, hR⟩ := sim (xs (i + 1)) μ ν hR
  refine lgC_i G (callV_run (w := wC w) (As := [.int (xs (i + 1))]) (rest := []) G.1 hl hPC (l_old hS h0 _) ⟨show 0 ≤ 0 by decide, show 0 < 181 by decide⟩ (by decide +kernel) (m_X10_tickets l (wC w) (hAD.J (by decide)) rfl 0 (xs (i + 1)) (by decide +kernel) μ f1) mv_L_139 ⟨rfl, rfl, by decide, by decide⟩ rfl rfl (Nat.le_of_ble_eq_true rfl) hz dL_law_1158) hS hPM ho (fun H locs hPC hPM ho hS => ?_)
  refine lv_aload_n hx hb dL_law_1161 rfl (lv_at hl 2 rfl) ?_
  refine l_arg (k := 1) G hS (lv_at hl 0 rfl) (lv_at hl 4 rfl) hi (by decide) (by decide) dL_law_1162 dL_law_1163 dL_law_1165 dL_law_1166 dL_law_1167 ?_
  refine lgM_i G (callV_run (w := wM w) (As := [.int (xs (i + 1))]) (rest := [.int r]) G.2.1 hl hPM (l_old hS h0 _) ⟨show 181 ≤ 181 by decide, show 181 < 221 by decide⟩ (by decide +kernel) (m_X11_tickets l (wM w) (hAD.J (by decide)) rfl 181 (xs (i + 1)) (by decide +kernel) ν f2) mv_L_142 ⟨rfl, rfl, by decide, by decide⟩ rfl rfl (Nat.le_of_ble_eq_true rfl) hz dL_law_1168) hS hPC ho (fun H locs hPM hPC ho hS => ?_)
  refine lv_icmp_eq (tgt := 1540) hx hb dL_law_1171 (by decide) (fun _ => ?_) (fun c9 => absurd rfl c9)
  exact l_next G next hR hPC hPM ho hS hl hcl hsl
set_option maxHeartbeats 4000000 in
set_option maxRecDepth 100000 in
theorem lc_27 {Rel : fMem → fMem → Prop} {p : Program} {l : Launch} {e : Env} {s : State} {m : MethodId} {below : List Frame} {meth : Method} {c : Code} {w : fW} {b L i : Nat} {xs : Nat → Int32} (G : LG p s m b meth c w L xs) (hi : i + 6 ≤ L) (sim : Sim Rel (f_X10_shunned 0) (f_X11_shunned 181)) (next : LI Rel p l e s m b below meth c w (i + 6) 23) : LI Rel p l e s m b below meth c w i 1176 := by
  intro μ ν H locs ls cl sl ⟨hR, hPC, hPM, ho, hS, hl, hcl, hsl⟩
  obtain ⟨⟨hx, hb, -⟩, -, -, -, hAD, h0, hL⟩ := id G
  have hz : cl ≤ room_1.cells ∧ sl ≤ room_1.slots := ⟨Nat.le_trans hcl (by show 222 + i ≤ 601024; omega), Nat.le_trans hsl (by show 8988 + 6 * i ≤ 7293034; omega)⟩
  refine lv_aload_n hx hb dL_law_1176 rfl (lv_at hl 1 rfl) ?_
  obtain ⟨r, μ1, ν1, f1, f2, hR⟩ := sim  μ ν hR
  refine lgC_i G (callV_run (w := wC w) (As := []) (rest := []) G.1 hl hPC (l_old hS h0 _) ⟨show 0 ≤ 0 by decide, show 0 < 181 by decide⟩ (by decide +kernel) (m_X10_shunned l (wC w) (hAD.J (by decide)) rfl 0  (by decide +kernel) μ f1) mv_L_143 ⟨rfl, rfl, by decide, by decide⟩ rfl rfl (Nat.le_of_ble_eq_true rfl) hz dL_law_1177) hS hPM ho (fun H locs hPC hPM ho hS => ?_)
  refine lv_aload_n hx hb dL_law_1180 rfl (lv_at hl 2 rfl) ?_
  refine lgM_i G (callV_run (w := wM w) (As := []) (rest := [.int r]) G.2.1 hl hPM (l_old hS h0 _) ⟨show 181 ≤ 181 by decide, show 181 < 221 by decide⟩ (by decide +kernel) (m_X11_shunned l (wM w) (hAD.J (by decide)) rfl 181  (by decide +kernel) ν f2) mv_L_146 ⟨rfl, rfl, by decide, by decide⟩ rfl rfl (Nat.le_of_ble_eq_true rfl) hz dL_law_1181) hS hPC ho (fun H locs hPM hPC ho hS => ?_)
  refine lv_icmp_eq (tgt := 1540) hx hb dL_law_1184 (by decide) (fun _ => ?_) (fun c9 => absurd rfl c9)
  exact l_next G next hR hPC hPM ho hS hl hcl hsl
set_option maxHeartbeats 4000000 in
set_option maxRecDepth 100000 in
theorem lc_28 {Rel : fMem → fMem → Prop} {p : Program} {l : Launch} {e : Env} {s : State} {m : MethodId} {below : List Frame} {meth : Method} {c : Code} {w : fW} {b L i : Nat} {xs : Nat → Int32} (G : LG p s m b meth c w L xs) (hi : i + 6 ≤ L) (sim : ∀ (a0 : Int32), Sim Rel (f_X10_loved 0 a0) (f_X11_loved 181 a0)) (next : LI Rel p l e s m b below meth c w (i + 6) 23) : LI Rel p l e s m b below meth c w i 1189 := by
  intro μ ν H locs ls cl sl ⟨hR, hPC, hPM, ho, hS, hl, hcl, hsl⟩
  obtain ⟨⟨hx, hb, -⟩, -, -, -, hAD, h0, hL⟩ := id G
  have hz : cl ≤ room_1.cells ∧ sl ≤ room_1.slots := ⟨Nat.le_trans hcl (by show 222 + i ≤ 601024; omega), Nat.le_trans hsl (by show 8988 + 6 * i ≤ 7293034; omega)⟩
  refine lv_aload_n hx hb dL_law_1189 rfl (lv_at hl 1 rfl) ?_
  refine l_arg (k := 1) G hS (lv_at hl 0 rfl) (lv_at hl 4 rfl) hi (by decide) (by decide) dL_law_1190 dL_law_1191 dL_law_1193 dL_law_1194 dL_law_1195 ?_
  obtain ⟨r, μ1, ν1, f1, f2, hR⟩ := sim (xs (i + 1)) μ ν hR
  refine lgC_i G (callV_run (w := wC w) (As := [.int (xs (i + 1))]) (rest := []) G.1 hl hPC (l_old hS h0 _) ⟨show 0 ≤ 0 by decide, show 0 < 181 by decide⟩ (by decide +kernel) (m_X10_loved l (wC w) (hAD.J (by decide)) rfl 0 (xs (i + 1)) (by decide +kernel) μ f1) mv_L_147 ⟨rfl, rfl, by decide, by decide⟩ rfl rfl (Nat.le_of_ble_eq_true rfl) hz dL_law_1196) hS hPM ho (fun H locs hPC hPM ho hS => ?_)
  refine lv_aload_n hx hb dL_law_1199 rfl (lv_at hl 2 rfl) ?_
  refine l_arg (k := 1) G hS (lv_at hl 0 rfl) (lv_at hl 4 rfl) hi (by decide) (by decide) dL_law_1200 dL_law_1201 dL_law_1203 dL_law_1204 dL_law_1205 ?_
  refine lgM_i G (callV_run (w := wM w) (As := [.int (xs (i + 1))]) (rest := [.int r]) G.2.1 hl hPM (l_old hS h0 _) ⟨show 181 ≤ 181 by decide, show 181 < 221 by decide⟩ (by decide +kernel) (m_X11_loved l (wM w) (hAD.J (by decide)) rfl 181 (xs (i + 1)) (by decide +kernel) ν f2) mv_L_150 ⟨rfl, rfl, by decide, by decide⟩ rfl rfl (Nat.le_of_ble_eq_true rfl) hz dL_law_1206) hS hPC ho (fun H locs hPM hPC ho hS => ?_)
  refine lv_icmp_eq (tgt := 1540) hx hb dL_law_1209 (by decide) (fun _ => ?_) (fun c9 => absurd rfl c9)
  exact l_next G next hR hPC hPM ho hS hl hcl hsl
set_option maxHeartbeats 4000000 in
set_option maxRecDepth 100000 in
theorem lc_29 {Rel : fMem → fMem → Prop} {p : Program} {l : Launch} {e : Env} {s : State} {m : MethodId} {below : List Frame} {meth : Method} {c : Code} {w : fW} {b L i : Nat} {xs : Nat → Int32} (G : LG p s m b meth c w L xs) (hi : i + 6 ≤ L) (sim : ∀ (a0 : Int32) (a1 : Int32) (a2 : Int32) (a3 : Int32), bl a3 → Sim Rel (f_X10_note 0 a0 a1 a2 a3) (f_X11_note 181 a0 a1 a2 a3)) (next : LI Rel p l e s m b below meth c w (i + 6) 23) : LI Rel p l e s m b below meth c w i 1214 := by
  intro μ ν H locs ls cl sl ⟨hR, hPC, hPM, ho, hS, hl, hcl, hsl⟩
  obtain ⟨⟨hx, hb, -⟩, -, -, -, hAD, h0, hL⟩ := id G
  have hz : cl ≤ room_1.cells ∧ sl ≤ room_1.slots := ⟨Nat.le_trans hcl (by show 222 + i ≤ 601024; omega), Nat.le_trans hsl (by show 8988 + 6 * i ≤ 7293034; omega)⟩
  refine lv_aload_n hx hb dL_law_1214 rfl (lv_at hl 1 rfl) ?_
  refine l_arg (k := 1) G hS (lv_at hl 0 rfl) (lv_at hl 4 rfl) hi (by decide) (by decide) dL_law_1215 dL_law_1216 dL_law_1218 dL_law_1219 dL_law_1220 ?_
  refine l_arg (k := 2) G hS (lv_at hl 0 rfl) (lv_at hl 4 rfl) hi (by decide) (by decide) dL_law_1221 dL_law_1222 dL_law_1224 dL_law_1225 dL_law_1226 ?_
  refine l_arg (k := 3) G hS (lv_at hl 0 rfl) (lv_at hl 4 rfl) hi (by decide) (by decide) dL_law_1227 dL_law_1228 dL_law_1230 dL_law_1231 dL_law_1232 ?_
  refine l_arg (k := 4) G hS (lv_at hl 0 rfl) (lv_at hl 4 rfl) hi (by decide) (by decide) dL_law_1233 dL_law_1234 dL_law_1236 dL_law_1237 dL_law_1238 ?_
  refine lv_if_eq (tgt := 1246) hx hb dL_law_1239 (by decide) (fun cb4 => ?_) (fun cb4 => ?_)
  · refine lv_iconst (v := 0) hx hb dL_law_1246 (by decide) ?_
    obtain ⟨r, μ1, ν1, f1, f2, hR⟩ := sim (xs (i + 1)) (xs (i + 2)) (xs (i + 3)) (0) (Or.inl rfl) μ ν hR
    refine lgC_i G (callV_run (w := wC w) (As := [.int (xs (i + 1)), .int (xs (i + 2)), .int (xs (i + 3)), .int 0]) (rest := []) G.1 hl hPC (l_old hS h0 _) ⟨show 0 ≤ 0 by decide, show 0 < 181 by decide⟩ (by decide +kernel) (m_X10_note l (wC w) (hAD.J (by decide)) rfl 0 (xs (i + 1)) (xs (i + 2)) (xs (i + 3)) (0) (by decide +kernel) μ f1) mv_L_151 ⟨rfl, rfl, by decide, by decide⟩ rfl rfl (Nat.le_of_ble_eq_true rfl) hz dL_law_1247) hS hPM ho (fun H locs hPC hPM ho hS => ?_)
    refine lv_aload_n hx hb dL_law_1250 rfl (lv_at hl 2 rfl) ?_
    refine l_arg (k := 1) G hS (lv_at hl 0 rfl) (lv_at hl 4 rfl) hi (by decide) (by decide) dL_law_1251 dL_law_1252 dL_law_1254 dL_law_1255 dL_law_1256 ?_
    refine l_arg (k := 2) G hS (lv_at hl 0 rfl) (lv_at hl 4 rfl) hi (by decide) (by decide) dL_law_1257 dL_law_1258 dL_law_1260 dL_law_1261 dL_law_1262 ?_
    refine l_arg (k := 3) G hS (lv_at hl 0 rfl) (lv_at hl 4 rfl) hi (by decide) (by decide) dL_law_1263 dL_law_1264 dL_law_1266 dL_law_1267 dL_law_1268 ?_
    refine l_arg (k := 4) G hS (lv_at hl 0 rfl) (lv_at hl 4 rfl) hi (by decide) (by decide) dL_law_1269 dL_law_1270 dL_law_1272 dL_law_1273 dL_law_1274 ?_
    refine lv_if_eq (tgt := 1282) hx hb dL_law_1275 (by decide) (fun dcb4 => ?_) (fun dcb4 => ?_)
    · refine lv_iconst (v := 0) hx hb dL_law_1282 (by decide) ?_
      refine lgM_i G (callV_run (w := wM w) (As := [.int (xs (i + 1)), .int (xs (i + 2)), .int (xs (i + 3)), .int 0]) (rest := [.int r]) G.2.1 hl hPM (l_old hS h0 _) ⟨show 181 ≤ 181 by decide, show 181 < 221 by decide⟩ (by decide +kernel) (m_X11_note l (wM w) (hAD.J (by decide)) rfl 181 (xs (i + 1)) (xs (i + 2)) (xs (i + 3)) (0) (by decide +kernel) ν f2) mv_L_155 ⟨rfl, rfl, by decide, by decide⟩ rfl rfl (Nat.le_of_ble_eq_true rfl) hz dL_law_1283) hS hPC ho (fun H locs hPM hPC ho hS => ?_)
      refine lv_icmp_eq (tgt := 1540) hx hb dL_law_1286 (by decide) (fun _ => ?_) (fun c9 => absurd rfl c9)
      exact l_next G next hR hPC hPM ho hS hl hcl hsl
    · exact absurd cb4 dcb4
  · refine lv_iconst (v := 1) hx hb dL_law_1242 (by decide) ?_
    refine lv_goto (tgt := 1247) hx hb dL_law_1243 (by decide) ?_
    obtain ⟨r, μ1, ν1, f1, f2, hR⟩ := sim (xs (i + 1)) (xs (i + 2)) (xs (i + 3)) (1) (Or.inr rfl) μ ν hR
    refine lgC_i G (callV_run (w := wC w) (As := [.int (xs (i + 1)), .int (xs (i + 2)), .int (xs (i + 3)), .int 1]) (rest := []) G.1 hl hPC (l_old hS h0 _) ⟨show 0 ≤ 0 by decide, show 0 < 181 by decide⟩ (by decide +kernel) (m_X10_note l (wC w) (hAD.J (by decide)) rfl 0 (xs (i + 1)) (xs (i + 2)) (xs (i + 3)) (1) (by decide +kernel) μ f1) mv_L_151 ⟨rfl, rfl, by decide, by decide⟩ rfl rfl (Nat.le_of_ble_eq_true rfl) hz dL_law_1247) hS hPM ho (fun H locs hPC hPM ho hS => ?_)
    refine lv_aload_n hx hb dL_law_1250 rfl (lv_at hl 2 rfl) ?_
    refine l_arg (k := 1) G hS (lv_at hl 0 rfl) (lv_at hl 4 rfl) hi (by decide) (by decide) dL_law_1251 dL_law_1252 dL_law_1254 dL_law_1255 dL_law_1256 ?_
    refine l_arg (k := 2) G hS (lv_at hl 0 rfl) (lv_at hl 4 rfl) hi (by decide) (by decide) dL_law_1257 dL_law_1258 dL_law_1260 dL_law_1261 dL_law_1262 ?_
    refine l_arg (k := 3) G hS (lv_at hl 0 rfl) (lv_at hl 4 rfl) hi (by decide) (by decide) dL_law_1263 dL_law_1264 dL_law_1266 dL_law_1267 dL_law_1268 ?_
    refine l_arg (k := 4) G hS (lv_at hl 0 rfl) (lv_at hl 4 rfl) hi (by decide) (by decide) dL_law_1269 dL_law_1270 dL_law_1272 dL_law_1273 dL_law_1274 ?_
    refine lv_if_eq (tgt := 1282) hx hb dL_law_1275 (by decide) (fun dcb4 => ?_) (fun dcb4 => ?_)
    · exact absurd dcb4 cb4
    · refine lv_iconst (v := 1) hx hb dL_law_1278 (by decide) ?_
      refine lv_goto (tgt := 1283) hx hb dL_law_1279 (by decide) ?_
      refine lgM_i G (callV_run (w := wM w) (As := [.int (xs (i + 1)), .int (xs (i + 2)), .int (xs (i + 3)), .int 1]) (rest := [.int r]) G.2.1 hl hPM (l_old hS h0 _) ⟨show 181 ≤ 181 by decide, show 181 < 221 by decide⟩ (by decide +kernel) (m_X11_note l (wM w) (hAD.J (by decide)) rfl 181 (xs (i + 1)) (xs (i + 2)) (xs (i + 3)) (1) (by decide +kernel) ν f2) mv_L_155 ⟨rfl, rfl, by decide, by decide⟩ rfl rfl (Nat.le_of_ble_eq_true rfl) hz dL_law_1283) hS hPC ho (fun H locs hPM hPC ho hS => ?_)
      refine lv_icmp_eq (tgt := 1540) hx hb dL_law_1286 (by decide) (fun _ => ?_) (fun c9 => absurd rfl c9)
      exact l_next G next hR hPC hPM ho hS hl hcl hsl
set_option maxHeartbeats 4000000 in
set_option maxRecDepth 100000 in
theorem lc_30 {Rel : fMem → fMem → Prop} {p : Program} {l : Launch} {e : Env} {s : State} {m : MethodId} {below : List Frame} {meth : Method} {c : Code} {w : fW} {b L i : Nat} {xs : Nat → Int32} (G : LG p s m b meth c w L xs) (hi : i + 6 ≤ L) (sim : ∀ (a0 : Int32), Sim Rel (f_X10_out 0 a0) (f_X11_out 181 a0)) (next : LI Rel p l e s m b below meth c w (i + 6) 23) : LI Rel p l e s m b below meth c w i 1291 := by
  intro μ ν H locs ls cl sl ⟨hR, hPC, hPM, ho, hS, hl, hcl, hsl⟩
  obtain ⟨⟨hx, hb, -⟩, -, -, -, hAD, h0, hL⟩ := id G
  have hz : cl ≤ room_1.cells ∧ sl ≤ room_1.slots := ⟨Nat.le_trans hcl (by show 222 + i ≤ 601024; omega), Nat.le_trans hsl (by show 8988 + 6 * i ≤ 7293034; omega)⟩
  refine lv_aload_n hx hb dL_law_1291 rfl (lv_at hl 1 rfl) ?_
  refine l_arg (k := 1) G hS (lv_at hl 0 rfl) (lv_at hl 4 rfl) hi (by decide) (by decide) dL_law_1292 dL_law_1293 dL_law_1295 dL_law_1296 dL_law_1297 ?_
  obtain ⟨r, μ1, ν1, f1, f2, hR⟩ := sim (xs (i + 1)) μ ν hR
  refine lgC_i G (callV_run (w := wC w) (As := [.int (xs (i + 1))]) (rest := []) G.1 hl hPC (l_old hS h0 _) ⟨show 0 ≤ 0 by decide, show 0 < 181 by decide⟩ (by decide +kernel) (m_X10_out l (wC w) (hAD.J (by decide)) rfl 0 (xs (i + 1)) (by decide +kernel) μ f1) mv_L_156 ⟨rfl, rfl, by decide, by decide⟩ rfl rfl (Nat.le_of_ble_eq_true rfl) hz dL_law_1298) hS hPM ho (fun H locs hPC hPM ho hS => ?_)
  refine lv_aload_n hx hb dL_law_1301 rfl (lv_at hl 2 rfl) ?_
  refine l_arg (k := 1) G hS (lv_at hl 0 rfl) (lv_at hl 4 rfl) hi (by decide) (by decide) dL_law_1302 dL_law_1303 dL_law_1305 dL_law_1306 dL_law_1307 ?_
  refine lgM_i G (callV_run (w := wM w) (As := [.int (xs (i + 1))]) (rest := [.int r]) G.2.1 hl hPM (l_old hS h0 _) ⟨show 181 ≤ 181 by decide, show 181 < 221 by decide⟩ (by decide +kernel) (m_X11_out l (wM w) (hAD.J (by decide)) rfl 181 (xs (i + 1)) (by decide +kernel) ν f2) mv_L_159 ⟨rfl, rfl, by decide, by decide⟩ rfl rfl (Nat.le_of_ble_eq_true rfl) hz dL_law_1308) hS hPC ho (fun H locs hPM hPC ho hS => ?_)
  refine lv_icmp_eq (tgt := 1540) hx hb dL_law_1311 (by decide) (fun _ => ?_) (fun c9 => absurd rfl c9)
  exact l_next G next hR hPC hPM ho hS hl hcl hsl
set_option maxHeartbeats 4000000 in
set_option maxRecDepth 100000 in
theorem lc_31 {Rel : fMem → fMem → Prop} {p : Program} {l : Launch} {e : Env} {s : State} {m : MethodId} {below : List Frame} {meth : Method} {c : Code} {w : fW} {b L i : Nat} {xs : Nat → Int32} (G : LG p s m b meth c w L xs) (hi : i + 6 ≤ L) (sim : ∀ (a0 : Int32), Sim Rel (f_X10_known 0 a0) (f_X11_known 181 a0)) (next : LI Rel p l e s m b below meth c w (i + 6) 23) : LI Rel p l e s m b below meth c w i 1316 := by
  intro μ ν H locs ls cl sl ⟨hR, hPC, hPM, ho, hS, hl, hcl, hsl⟩
  obtain ⟨⟨hx, hb, -⟩, -, -, -, hAD, h0, hL⟩ := id G
  have hz : cl ≤ room_1.cells ∧ sl ≤ room_1.slots := ⟨Nat.le_trans hcl (by show 222 + i ≤ 601024; omega), Nat.le_trans hsl (by show 8988 + 6 * i ≤ 7293034; omega)⟩
  refine lv_aload_n hx hb dL_law_1316 rfl (lv_at hl 1 rfl) ?_
  refine l_arg (k := 1) G hS (lv_at hl 0 rfl) (lv_at hl 4 rfl) hi (by decide) (by decide) dL_law_1317 dL_law_1318 dL_law_1320 dL_law_1321 dL_law_1322 ?_
  obtain ⟨r, μ1, ν1, f1, f2, hR⟩ := sim (xs (i + 1)) μ ν hR
  refine lgC_i G (callV_run (w := wC w) (As := [.int (xs (i + 1))]) (rest := []) G.1 hl hPC (l_old hS h0 _) ⟨show 0 ≤ 0 by decide, show 0 < 181 by decide⟩ (by decide +kernel) (m_X10_known l (wC w) (hAD.J (by decide)) rfl 0 (xs (i + 1)) (by decide +kernel) μ f1) mv_L_160 ⟨rfl, rfl, by decide, by decide⟩ rfl rfl (Nat.le_of_ble_eq_true rfl) hz dL_law_1323) hS hPM ho (fun H locs hPC hPM ho hS => ?_)
  refine lv_aload_n hx hb dL_law_1326 rfl (lv_at hl 2 rfl) ?_
  refine l_arg (k := 1) G hS (lv_at hl 0 rfl) (lv_at hl 4 rfl) hi (by decide) (by decide) dL_law_1327 dL_law_1328 dL_law_1330 dL_law_1331 dL_law_1332 ?_
  refine lgM_i G (callV_run (w := wM w) (As := [.int (xs (i + 1))]) (rest := [.int r]) G.2.1 hl hPM (l_old hS h0 _) ⟨show 181 ≤ 181 by decide, show 181 < 221 by decide⟩ (by decide +kernel) (m_X11_known l (wM w) (hAD.J (by decide)) rfl 181 (xs (i + 1)) (by decide +kernel) ν f2) mv_L_163 ⟨rfl, rfl, by decide, by decide⟩ rfl rfl (Nat.le_of_ble_eq_true rfl) hz dL_law_1333) hS hPC ho (fun H locs hPM hPC ho hS => ?_)
  refine lv_icmp_eq (tgt := 1540) hx hb dL_law_1336 (by decide) (fun _ => ?_) (fun c9 => absurd rfl c9)
  exact l_next G next hR hPC hPM ho hS hl hcl hsl
set_option maxHeartbeats 4000000 in
set_option maxRecDepth 100000 in
theorem lc_32 {Rel : fMem → fMem → Prop} {p : Program} {l : Launch} {e : Env} {s : State} {m : MethodId} {below : List Frame} {meth : Method} {c : Code} {w : fW} {b L i : Nat} {xs : Nat → Int32} (G : LG p s m b meth c w L xs) (hi : i + 6 ≤ L) (sim : ∀ (a0 : Int32), Sim Rel (f_X10_tastes 0 a0) (f_X11_tastes 181 a0)) (next : LI Rel p l e s m b below meth c w (i + 6) 23) : LI Rel p l e s m b below meth c w i 1341 := by
  intro μ ν H locs ls cl sl ⟨hR, hPC, hPM, ho, hS, hl, hcl, hsl⟩
  obtain ⟨⟨hx, hb, -⟩, -, -, -, hAD, h0, hL⟩ := id G
  have hz : cl ≤ room_1.cells ∧ sl ≤ room_1.slots := ⟨Nat.le_trans hcl (by show 222 + i ≤ 601024; omega), Nat.le_trans hsl (by show 8988 + 6 * i ≤ 7293034; omega)⟩
  refine lv_aload_n hx hb dL_law_1341 rfl (lv_at hl 1 rfl) ?_
  refine l_arg (k := 1) G hS (lv_at hl 0 rfl) (lv_at hl 4 rfl) hi (by decide) (by decide) dL_law_1342 dL_law_1343 dL_law_1345 dL_law_1346 dL_law_1347 ?_
  obtain ⟨r, μ1, ν1, f1, f2, hR⟩ := sim (xs (i + 1)) μ ν hR
  refine lgC_i G (callV_run (w := wC w) (As := [.int (xs (i + 1))]) (rest := []) G.1 hl hPC (l_old hS h0 _) ⟨show 0 ≤ 0 by decide, show 0 < 181 by decide⟩ (by decide +kernel) (m_X10_tastes l (wC w) (hAD.J (by decide)) rfl 0 (xs (i + 1)) (by decide +kernel) μ f1) mv_L_164 ⟨rfl, rfl, by decide, by decide⟩ rfl rfl (Nat.le_of_ble_eq_true rfl) hz dL_law_1348) hS hPM ho (fun H locs hPC hPM ho hS => ?_)
  refine lv_aload_n hx hb dL_law_1351 rfl (lv_at hl 2 rfl) ?_
  refine l_arg (k := 1) G hS (lv_at hl 0 rfl) (lv_at hl 4 rfl) hi (by decide) (by decide) dL_law_1352 dL_law_1353 dL_law_1355 dL_law_1356 dL_law_1357 ?_
  refine lgM_i G (callV_run (w := wM w) (As := [.int (xs (i + 1))]) (rest := [.int r]) G.2.1 hl hPM (l_old hS h0 _) ⟨show 181 ≤ 181 by decide, show 181 < 221 by decide⟩ (by decide +kernel) (m_X11_tastes l (wM w) (hAD.J (by decide)) rfl 181 (xs (i + 1)) (by decide +kernel) ν f2) mv_L_167 ⟨rfl, rfl, by decide, by decide⟩ rfl rfl (Nat.le_of_ble_eq_true rfl) hz dL_law_1358) hS hPC ho (fun H locs hPM hPC ho hS => ?_)
  refine lv_icmp_eq (tgt := 1540) hx hb dL_law_1361 (by decide) (fun _ => ?_) (fun c9 => absurd rfl c9)
  exact l_next G next hR hPC hPM ho hS hl hcl hsl
set_option maxHeartbeats 4000000 in
set_option maxRecDepth 100000 in
theorem lc_33 {Rel : fMem → fMem → Prop} {p : Program} {l : Launch} {e : Env} {s : State} {m : MethodId} {below : List Frame} {meth : Method} {c : Code} {w : fW} {b L i : Nat} {xs : Nat → Int32} (G : LG p s m b meth c w L xs) (hi : i + 6 ≤ L) (sim : ∀ (a0 : Int32) (a1 : Int32) (a2 : Int32) (a3 : Int32), Sim Rel (f_X10_chance 0 a0 a1 a2 a3) (f_X11_chance 181 a0 a1 a2 a3)) (next : LI Rel p l e s m b below meth c w (i + 6) 23) : LI Rel p l e s m b below meth c w i 1366 := by
  intro μ ν H locs ls cl sl ⟨hR, hPC, hPM, ho, hS, hl, hcl, hsl⟩
  obtain ⟨⟨hx, hb, -⟩, -, -, -, hAD, h0, hL⟩ := id G
  have hz : cl ≤ room_1.cells ∧ sl ≤ room_1.slots := ⟨Nat.le_trans hcl (by show 222 + i ≤ 601024; omega), Nat.le_trans hsl (by show 8988 + 6 * i ≤ 7293034; omega)⟩
  refine lv_aload_n hx hb dL_law_1366 rfl (lv_at hl 1 rfl) ?_
  refine l_arg (k := 1) G hS (lv_at hl 0 rfl) (lv_at hl 4 rfl) hi (by decide) (by decide) dL_law_1367 dL_law_1368 dL_law_1370 dL_law_1371 dL_law_1372 ?_
  refine l_arg (k := 2) G hS (lv_at hl 0 rfl) (lv_at hl 4 rfl) hi (by decide) (by decide) dL_law_1373 dL_law_1374 dL_law_1376 dL_law_1377 dL_law_1378 ?_
  refine l_arg (k := 3) G hS (lv_at hl 0 rfl) (lv_at hl 4 rfl) hi (by decide) (by decide) dL_law_1379 dL_law_1380 dL_law_1382 dL_law_1383 dL_law_1384 ?_
  refine l_arg (k := 4) G hS (lv_at hl 0 rfl) (lv_at hl 4 rfl) hi (by decide) (by decide) dL_law_1385 dL_law_1386 dL_law_1388 dL_law_1389 dL_law_1390 ?_
  obtain ⟨r, μ1, ν1, f1, f2, hR⟩ := sim (xs (i + 1)) (xs (i + 2)) (xs (i + 3)) (xs (i + 4)) μ ν hR
  refine lgC_i G (callV_run (w := wC w) (As := [.int (xs (i + 1)), .int (xs (i + 2)), .int (xs (i + 3)), .int (xs (i + 4))]) (rest := []) G.1 hl hPC (l_old hS h0 _) ⟨show 0 ≤ 0 by decide, show 0 < 181 by decide⟩ (by decide +kernel) (m_X10_chance l (wC w) (hAD.J (by decide)) rfl 0 (xs (i + 1)) (xs (i + 2)) (xs (i + 3)) (xs (i + 4)) (by decide +kernel) μ f1) mv_L_168 ⟨rfl, rfl, by decide, by decide⟩ rfl rfl (Nat.le_of_ble_eq_true rfl) hz dL_law_1391) hS hPM ho (fun H locs hPC hPM ho hS => ?_)
  refine lv_aload_n hx hb dL_law_1394 rfl (lv_at hl 2 rfl) ?_
  refine l_arg (k := 1) G hS (lv_at hl 0 rfl) (lv_at hl 4 rfl) hi (by decide) (by decide) dL_law_1395 dL_law_1396 dL_law_1398 dL_law_1399 dL_law_1400 ?_
  refine l_arg (k := 2) G hS (lv_at hl 0 rfl) (lv_at hl 4 rfl) hi (by decide) (by decide) dL_law_1401 dL_law_1402 dL_law_1404 dL_law_1405 dL_law_1406 ?_
  refine l_arg (k := 3) G hS (lv_at hl 0 rfl) (lv_at hl 4 rfl) hi (by decide) (by decide) dL_law_1407 dL_law_1408 dL_law_1410 dL_law_1411 dL_law_1412 ?_
  refine l_arg (k := 4) G hS (lv_at hl 0 rfl) (lv_at hl 4 rfl) hi (by decide) (by decide) dL_law_1413 dL_law_1414 dL_law_1416 dL_law_1417 dL_law_1418 ?_
  refine lgM_i G (callV_run (w := wM w) (As := [.int (xs (i + 1)), .int (xs (i + 2)), .int (xs (i + 3)), .int (xs (i + 4))]) (rest := [.int r]) G.2.1 hl hPM (l_old hS h0 _) ⟨show 181 ≤ 181 by decide, show 181 < 221 by decide⟩ (by decide +kernel) (m_X11_chance l (wM w) (hAD.J (by decide)) rfl 181 (xs (i + 1)) (xs (i + 2)) (xs (i + 3)) (xs (i + 4)) (by decide +kernel) ν f2) mv_L_172 ⟨rfl, rfl, by decide, by decide⟩ rfl rfl (Nat.le_of_ble_eq_true rfl) hz dL_law_1419) hS hPC ho (fun H locs hPM hPC ho hS => ?_)
  refine lv_icmp_eq (tgt := 1540) hx hb dL_law_1422 (by decide) (fun _ => ?_) (fun c9 => absurd rfl c9)
  exact l_next G next hR hPC hPM ho hS hl hcl hsl
set_option maxHeartbeats 4000000 in
set_option maxRecDepth 100000 in
theorem lc_34 {Rel : fMem → fMem → Prop} {p : Program} {l : Launch} {e : Env} {s : State} {m : MethodId} {below : List Frame} {meth : Method} {c : Code} {w : fW} {b L i : Nat} {xs : Nat → Int32} (G : LG p s m b meth c w L xs) (hi : i + 6 ≤ L) (sim : ∀ (a0 : Int32) (a1 : Int32) (a2 : Int32), Sim Rel (f_X10_tried 0 a0 a1 a2) (f_X11_tried 181 a0 a1 a2)) (next : LI Rel p l e s m b below meth c w (i + 6) 23) : LI Rel p l e s m b below meth c w i 1427 := by
  intro μ ν H locs ls cl sl ⟨hR, hPC, hPM, ho, hS, hl, hcl, hsl⟩
  obtain ⟨⟨hx, hb, -⟩, -, -, -, hAD, h0, hL⟩ := id G
  have hz : cl ≤ room_1.cells ∧ sl ≤ room_1.slots := ⟨Nat.le_trans hcl (by show 222 + i ≤ 601024; omega), Nat.le_trans hsl (by show 8988 + 6 * i ≤ 7293034; omega)⟩
  refine lv_aload_n hx hb dL_law_1427 rfl (lv_at hl 1 rfl) ?_
  refine l_arg (k := 1) G hS (lv_at hl 0 rfl) (lv_at hl 4 rfl) hi (by decide) (by decide) dL_law_1428 dL_law_1429 dL_law_1431 dL_law_1432 dL_law_1433 ?_
  refine l_arg (k := 2) G hS (lv_at hl 0 rfl) (lv_at hl 4 rfl) hi (by decide) (by decide) dL_law_1434 dL_law_1435 dL_law_1437 dL_law_1438 dL_law_1439 ?_
  refine l_arg (k := 3) G hS (lv_at hl 0 rfl) (lv_at hl 4 rfl) hi (by decide) (by decide) dL_law_1440 dL_law_1441 dL_law_1443 dL_law_1444 dL_law_1445 ?_
  obtain ⟨r, μ1, ν1, f1, f2, hR⟩ := sim (xs (i + 1)) (xs (i + 2)) (xs (i + 3)) μ ν hR
  refine lgC_i G (callV_run (w := wC w) (As := [.int (xs (i + 1)), .int (xs (i + 2)), .int (xs (i + 3))]) (rest := []) G.1 hl hPC (l_old hS h0 _) ⟨show 0 ≤ 0 by decide, show 0 < 181 by decide⟩ (by decide +kernel) (m_X10_tried l (wC w) (hAD.J (by decide)) rfl 0 (xs (i + 1)) (xs (i + 2)) (xs (i + 3)) (by decide +kernel) μ f1) mv_L_173 ⟨rfl, rfl, by decide, by decide⟩ rfl rfl (Nat.le_of_ble_eq_true rfl) hz dL_law_1446) hS hPM ho (fun H locs hPC hPM ho hS => ?_)
  refine lv_aload_n hx hb dL_law_1449 rfl (lv_at hl 2 rfl) ?_
  refine l_arg (k := 1) G hS (lv_at hl 0 rfl) (lv_at hl 4 rfl) hi (by decide) (by decide) dL_law_1450 dL_law_1451 dL_law_1453 dL_law_1454 dL_law_1455 ?_
  refine l_arg (k := 2) G hS (lv_at hl 0 rfl) (lv_at hl 4 rfl) hi (by decide) (by decide) dL_law_1456 dL_law_1457 dL_law_1459 dL_law_1460 dL_law_1461 ?_
  refine l_arg (k := 3) G hS (lv_at hl 0 rfl) (lv_at hl 4 rfl) hi (by decide) (by decide) dL_law_1462 dL_law_1463 dL_law_1465 dL_law_1466 dL_law_1467 ?_
  refine lgM_i G (callV_run (w := wM w) (As := [.int (xs (i + 1)), .int (xs (i + 2)), .int (xs (i + 3))]) (rest := [.int r]) G.2.1 hl hPM (l_old hS h0 _) ⟨show 181 ≤ 181 by decide, show 181 < 221 by decide⟩ (by decide +kernel) (m_X11_tried l (wM w) (hAD.J (by decide)) rfl 181 (xs (i + 1)) (xs (i + 2)) (xs (i + 3)) (by decide +kernel) ν f2) mv_L_176 ⟨rfl, rfl, by decide, by decide⟩ rfl rfl (Nat.le_of_ble_eq_true rfl) hz dL_law_1468) hS hPC ho (fun H locs hPM hPC ho hS => ?_)
  refine lv_icmp_eq (tgt := 1540) hx hb dL_law_1471 (by decide) (fun _ => ?_) (fun c9 => absurd rfl c9)
  exact l_next G next hR hPC hPM ho hS hl hcl hsl
set_option maxHeartbeats 4000000 in
set_option maxRecDepth 100000 in
theorem lc_35 {Rel : fMem → fMem → Prop} {p : Program} {l : Launch} {e : Env} {s : State} {m : MethodId} {below : List Frame} {meth : Method} {c : Code} {w : fW} {b L i : Nat} {xs : Nat → Int32} (G : LG p s m b meth c w L xs) (hi : i + 6 ≤ L) (sim : Sim Rel (f_X10_undo 0) (f_X11_undo 181)) (next : LI Rel p l e s m b below meth c w (i + 6) 23) : LI Rel p l e s m b below meth c w i 1476 := by
  intro μ ν H locs ls cl sl ⟨hR, hPC, hPM, ho, hS, hl, hcl, hsl⟩
  obtain ⟨⟨hx, hb, -⟩, -, -, -, hAD, h0, hL⟩ := id G
  have hz : cl ≤ room_1.cells ∧ sl ≤ room_1.slots := ⟨Nat.le_trans hcl (by show 222 + i ≤ 601024; omega), Nat.le_trans hsl (by show 8988 + 6 * i ≤ 7293034; omega)⟩
  refine lv_aload_n hx hb dL_law_1476 rfl (lv_at hl 1 rfl) ?_
  obtain ⟨r, μ1, ν1, f1, f2, hR⟩ := sim  μ ν hR
  refine lgC_i G (callV_run (w := wC w) (As := []) (rest := []) G.1 hl hPC (l_old hS h0 _) ⟨show 0 ≤ 0 by decide, show 0 < 181 by decide⟩ (by decide +kernel) (m_X10_undo l (wC w) (hAD.J (by decide)) rfl 0  (by decide +kernel) μ f1) mv_L_177 ⟨rfl, rfl, by decide, by decide⟩ rfl rfl (Nat.le_of_ble_eq_true rfl) hz dL_law_1477) hS hPM ho (fun H locs hPC hPM ho hS => ?_)
  refine lv_aload_n hx hb dL_law_1480 rfl (lv_at hl 2 rfl) ?_
  refine lgM_i G (callV_run (w := wM w) (As := []) (rest := [.int r]) G.2.1 hl hPM (l_old hS h0 _) ⟨show 181 ≤ 181 by decide, show 181 < 221 by decide⟩ (by decide +kernel) (m_X11_undo l (wM w) (hAD.J (by decide)) rfl 181  (by decide +kernel) ν f2) mv_L_180 ⟨rfl, rfl, by decide, by decide⟩ rfl rfl (Nat.le_of_ble_eq_true rfl) hz dL_law_1481) hS hPC ho (fun H locs hPM hPC ho hS => ?_)
  refine lv_icmp_eq (tgt := 1540) hx hb dL_law_1484 (by decide) (fun _ => ?_) (fun c9 => absurd rfl c9)
  exact l_next G next hR hPC hPM ho hS hl hcl hsl
set_option maxHeartbeats 4000000 in
set_option maxRecDepth 100000 in
theorem lc_36 {Rel : fMem → fMem → Prop} {p : Program} {l : Launch} {e : Env} {s : State} {m : MethodId} {below : List Frame} {meth : Method} {c : Code} {w : fW} {b L i : Nat} {xs : Nat → Int32} (G : LG p s m b meth c w L xs) (hi : i + 6 ≤ L) (sim : Sim Rel (f_X10_keep 0) (f_X11_keep 181)) (next : LI Rel p l e s m b below meth c w (i + 6) 23) : LI Rel p l e s m b below meth c w i 1489 := by
  intro μ ν H locs ls cl sl ⟨hR, hPC, hPM, ho, hS, hl, hcl, hsl⟩
  obtain ⟨⟨hx, hb, -⟩, -, -, -, hAD, h0, hL⟩ := id G
  have hz : cl ≤ room_1.cells ∧ sl ≤ room_1.slots := ⟨Nat.le_trans hcl (by show 222 + i ≤ 601024; omega), Nat.le_trans hsl (by show 8988 + 6 * i ≤ 7293034; omega)⟩
  refine lv_aload_n hx hb dL_law_1489 rfl (lv_at hl 1 rfl) ?_
  obtain ⟨r, μ1, ν1, f1, f2, hR⟩ := sim  μ ν hR
  refine lgC_i G (callV_run (w := wC w) (As := []) (rest := []) G.1 hl hPC (l_old hS h0 _) ⟨show 0 ≤ 0 by decide, show 0 < 181 by decide⟩ (by decide +kernel) (m_X10_keep l (wC w) (hAD.J (by decide)) rfl 0  (by decide +kernel) μ f1) mv_L_181 ⟨rfl, rfl, by decide, by decide⟩ rfl rfl (Nat.le_of_ble_eq_true rfl) hz dL_law_1490) hS hPM ho (fun H locs hPC hPM ho hS => ?_)
  refine lv_aload_n hx hb dL_law_1493 rfl (lv_at hl 2 rfl) ?_
  refine lgM_i G (callV_run (w := wM w) (As := []) (rest := [.int r]) G.2.1 hl hPM (l_old hS h0 _) ⟨show 181 ≤ 181 by decide, show 181 < 221 by decide⟩ (by decide +kernel) (m_X11_keep l (wM w) (hAD.J (by decide)) rfl 181  (by decide +kernel) ν f2) mv_L_184 ⟨rfl, rfl, by decide, by decide⟩ rfl rfl (Nat.le_of_ble_eq_true rfl) hz dL_law_1494) hS hPC ho (fun H locs hPM hPC ho hS => ?_)
  refine lv_icmp_eq (tgt := 1540) hx hb dL_law_1497 (by decide) (fun _ => ?_) (fun c9 => absurd rfl c9)
  exact l_next G next hR hPC hPM ho hS hl hcl hsl
set_option maxHeartbeats 4000000 in
set_option maxRecDepth 100000 in
theorem lc_37 {Rel : fMem → fMem → Prop} {p : Program} {l : Launch} {e : Env} {s : State} {m : MethodId} {below : List Frame} {meth : Method} {c : Code} {w : fW} {b L i : Nat} {xs : Nat → Int32} (G : LG p s m b meth c w L xs) (hi : i + 6 ≤ L) (sim : Sim Rel (f_X10_back 0) (f_X11_back 181)) (next : LI Rel p l e s m b below meth c w (i + 6) 23) : LI Rel p l e s m b below meth c w i 1502 := by
  intro μ ν H locs ls cl sl ⟨hR, hPC, hPM, ho, hS, hl, hcl, hsl⟩
  obtain ⟨⟨hx, hb, -⟩, -, -, -, hAD, h0, hL⟩ := id G
  have hz : cl ≤ room_1.cells ∧ sl ≤ room_1.slots := ⟨Nat.le_trans hcl (by show 222 + i ≤ 601024; omega), Nat.le_trans hsl (by show 8988 + 6 * i ≤ 7293034; omega)⟩
  refine lv_aload_n hx hb dL_law_1502 rfl (lv_at hl 1 rfl) ?_
  obtain ⟨r, μ1, ν1, f1, f2, hR⟩ := sim  μ ν hR
  refine lgC_i G (callV_run (w := wC w) (As := []) (rest := []) G.1 hl hPC (l_old hS h0 _) ⟨show 0 ≤ 0 by decide, show 0 < 181 by decide⟩ (by decide +kernel) (m_X10_back l (wC w) (hAD.J (by decide)) rfl 0  (by decide +kernel) μ f1) mv_L_185 ⟨rfl, rfl, by decide, by decide⟩ rfl rfl (Nat.le_of_ble_eq_true rfl) hz dL_law_1503) hS hPM ho (fun H locs hPC hPM ho hS => ?_)
  refine lv_aload_n hx hb dL_law_1506 rfl (lv_at hl 2 rfl) ?_
  refine lgM_i G (callV_run (w := wM w) (As := []) (rest := [.int r]) G.2.1 hl hPM (l_old hS h0 _) ⟨show 181 ≤ 181 by decide, show 181 < 221 by decide⟩ (by decide +kernel) (m_X11_back l (wM w) (hAD.J (by decide)) rfl 181  (by decide +kernel) ν f2) mv_L_188 ⟨rfl, rfl, by decide, by decide⟩ rfl rfl (Nat.le_of_ble_eq_true rfl) hz dL_law_1507) hS hPC ho (fun H locs hPM hPC ho hS => ?_)
  refine lv_icmp_eq (tgt := 1540) hx hb dL_law_1510 (by decide) (fun _ => ?_) (fun c9 => absurd rfl c9)
  exact l_next G next hR hPC hPM ho hS hl hcl hsl
set_option maxHeartbeats 4000000 in
set_option maxRecDepth 100000 in
theorem lc_38 {Rel : fMem → fMem → Prop} {p : Program} {l : Launch} {e : Env} {s : State} {m : MethodId} {below : List Frame} {meth : Method} {c : Code} {w : fW} {b L i : Nat} {xs : Nat → Int32} (G : LG p s m b meth c w L xs) (hi : i + 6 ≤ L) (sim : ∀ (a0 : Int32), Sim Rel (f_X10_count 0 a0) (f_X11_count 181 a0)) (next : LI Rel p l e s m b below meth c w (i + 6) 23) : LI Rel p l e s m b below meth c w i 1515 := by
  intro μ ν H locs ls cl sl ⟨hR, hPC, hPM, ho, hS, hl, hcl, hsl⟩
  obtain ⟨⟨hx, hb, -⟩, -, -, -, hAD, h0, hL⟩ := id G
  have hz : cl ≤ room_1.cells ∧ sl ≤ room_1.slots := ⟨Nat.le_trans hcl (by show 222 + i ≤ 601024; omega), Nat.le_trans hsl (by show 8988 + 6 * i ≤ 7293034; omega)⟩
  refine lv_aload_n hx hb dL_law_1515 rfl (lv_at hl 1 rfl) ?_
  refine l_arg (k := 1) G hS (lv_at hl 0 rfl) (lv_at hl 4 rfl) hi (by decide) (by decide) dL_law_1516 dL_law_1517 dL_law_1519 dL_law_1520 dL_law_1521 ?_
  obtain ⟨r, μ1, ν1, f1, f2, hR⟩ := sim (xs (i + 1)) μ ν hR
  refine lgC_i G (callV_run (w := wC w) (As := [.int (xs (i + 1))]) (rest := []) G.1 hl hPC (l_old hS h0 _) ⟨show 0 ≤ 0 by decide, show 0 < 181 by decide⟩ (by decide +kernel) (m_X10_count l (wC w) (hAD.J (by decide)) rfl 0 (xs (i + 1)) (by decide +kernel) μ f1) mv_L_189 ⟨rfl, rfl, by decide, by decide⟩ rfl rfl (Nat.le_of_ble_eq_true rfl) hz dL_law_1522) hS hPM ho (fun H locs hPC hPM ho hS => ?_)
  refine lv_aload_n hx hb dL_law_1525 rfl (lv_at hl 2 rfl) ?_
  refine l_arg (k := 1) G hS (lv_at hl 0 rfl) (lv_at hl 4 rfl) hi (by decide) (by decide) dL_law_1526 dL_law_1527 dL_law_1529 dL_law_1530 dL_law_1531 ?_
  refine lgM_i G (callV_run (w := wM w) (As := [.int (xs (i + 1))]) (rest := [.int r]) G.2.1 hl hPM (l_old hS h0 _) ⟨show 181 ≤ 181 by decide, show 181 < 221 by decide⟩ (by decide +kernel) (m_X11_count l (wM w) (hAD.J (by decide)) rfl 181 (xs (i + 1)) (by decide +kernel) ν f2) mv_L_192 ⟨rfl, rfl, by decide, by decide⟩ rfl rfl (Nat.le_of_ble_eq_true rfl) hz dL_law_1532) hS hPC ho (fun H locs hPM hPC ho hS => ?_)
  refine lv_icmp_eq (tgt := 1540) hx hb dL_law_1535 (by decide) (fun _ => ?_) (fun c9 => absurd rfl c9)
  exact l_next G next hR hPC hPM ho hS hl hcl hsl

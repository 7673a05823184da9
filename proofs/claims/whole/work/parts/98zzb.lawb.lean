theorem lc_feed {K : aK} {d bc bs n F : Nat} {g : aG} {m : aM} {Q : aQ} {i : Int32} (hF : 20000 ≤ F) (hd : 600 ≤ d) (hi : rdO K i) (I : LI (n + 1) g m bc bs) (hk : LK K d n i Q) : G K M_Law_law (d + 2) bc bs 212 (lwL i (.double 0) (.double 0)) [] (g, m) Q := by
  obtain ⟨r, m1, e1, m2, e2, iv, ag⟩ := z_feedI (scr K i 1) (scr K i 2) (scr K i 3) (scr K i 4) (scr K i 5) F m (by omega) I.1
  refine g_aload_n k_Law_law_212 rfl rfl ?_
  refine g_rd (j := 1) k_Law_law_213 k_Law_law_214 k_Law_law_216 k_Law_law_217 k_Law_law_218 rfl rfl rfl (hi _ (by decide) (by decide)) ?_
  refine g_rd (j := 2) k_Law_law_219 k_Law_law_220 k_Law_law_222 k_Law_law_223 k_Law_law_224 rfl rfl rfl (hi _ (by decide) (by decide)) ?_
  refine g_rd (j := 3) k_Law_law_225 k_Law_law_226 k_Law_law_228 k_Law_law_229 k_Law_law_230 rfl rfl rfl (hi _ (by decide) (by decide)) ?_
  refine g_rd (j := 4) k_Law_law_231 k_Law_law_232 k_Law_law_234 k_Law_law_235 k_Law_law_236 rfl rfl rfl (hi _ (by decide) (by decide)) ?_
  refine g_rd (j := 5) k_Law_law_237 k_Law_law_238 k_Law_law_240 k_Law_law_241 k_Law_law_242 rfl rfl rfl (hi _ (by decide) (by decide)) ?_
  refine g_cv (bc' := 0) (bs' := 0) k_Law_law_243 lv_Law_122 (by decide +kernel) (T := F_Led) (N := 10) (ci := 9) rfl (sk_Led I.2.1.1) (s_Led_feed (bc := 0) (bs := 0) I.2.1.1 F _ _ _ _ _ m e1 (by omega)) rfl rfl (by simp [Value.category]) (by simp [Value.category]) (by omega) (by omega) (by omega) ?_
  refine g_aload_n k_Law_law_246 rfl rfl ?_
  refine g_rd (j := 1) k_Law_law_247 k_Law_law_248 k_Law_law_250 k_Law_law_251 k_Law_law_252 rfl rfl rfl (hi _ (by decide) (by decide)) ?_
  refine g_rd (j := 2) k_Law_law_253 k_Law_law_254 k_Law_law_256 k_Law_law_257 k_Law_law_258 rfl rfl rfl (hi _ (by decide) (by decide)) ?_
  refine g_rd (j := 3) k_Law_law_259 k_Law_law_260 k_Law_law_262 k_Law_law_263 k_Law_law_264 rfl rfl rfl (hi _ (by decide) (by decide)) ?_
  refine g_rd (j := 4) k_Law_law_265 k_Law_law_266 k_Law_law_268 k_Law_law_269 k_Law_law_270 rfl rfl rfl (hi _ (by decide) (by decide)) ?_
  refine g_rd (j := 5) k_Law_law_271 k_Law_law_272 k_Law_law_274 k_Law_law_275 k_Law_law_276 rfl rfl rfl (hi _ (by decide) (by decide)) ?_
  refine g_cv (bc' := 0) (bs' := 0) k_Law_law_277 lv_Law_125 (by decide +kernel) (T := F_Mod) (N := 61) (ci := 10) rfl (sk_Mod I.2.1.2.1) (s_Mod_feed (bc := 0) (bs := 0) I.2.1.2.1 F _ _ _ _ _ _ e2) rfl rfl (by simp [Value.category]) (by simp [Value.category]) (by omega) (by omega) (by omega) ?_
  refine g_icmp_eq (tgt := 2591) k_Law_law_280 (by decide) (fun _ => ?_) (fun c => absurd rfl c)
  exact hk _ _ _ _ (I.p iv ag (by omega) (by omega))
theorem lc_lens {K : aK} {d bc bs n F : Nat} {g : aG} {m : aM} {Q : aQ} {i : Int32} (hF : 20000 ≤ F) (hd : 600 ≤ d) (hi : rdO K i) (I : LI (n + 1) g m bc bs) (hk : LK K d n i Q) : G K M_Law_law (d + 2) bc bs 285 (lwL i (.double 0) (.double 0)) [] (g, m) Q := by
  obtain ⟨r, m1, e1, v, m2, e2, co, iv, ag⟩ := z_lensI (scr K i 1) F m (by omega) I.1
  have C : SpG K M_Led_lens d 12 60 [.ref 0, .int (scr K i 1)] (g, m) (o_out _) _ (fun g' => g' = g) := spe_g (s_Led_lens I.2.1.1 F _ m e1 (by omega) (by omega) (by omega))
  have b1 := I.2.2.2.2.2.1
  obtain ⟨pw, pl, b2, -, -⟩ := I.2.2.2.2.2.2
  refine g_aload_n k_Law_law_285 rfl rfl ?_
  refine g_rd (j := 1) k_Law_law_286 k_Law_law_287 k_Law_law_289 k_Law_law_290 k_Law_law_291 rfl rfl rfl (hi _ (by decide) (by decide)) ?_
  refine g_aload_n k_Law_law_292 rfl rfl ?_
  refine g_hR (bc' := 12) (bs' := 60) k_Law_law_293 lh_Law_126 (by decide +kernel) (s_Law_lens (sk_Led I.2.1.1) C (fun g' hg => by subst hg; exact I.2.1.2.2.1) co) rfl rfl (by simp [Value.category]) (by simp [Value.category]) (by omega) (by omega) (fun v' h' P => ?_)
  obtain ⟨g', rfl, rfl, rfl⟩ := P
  have S : LSy (gO Int32.toInt64 g' r) := I.2.1.gO
  refine g_istore k_Law_law_296 (by decide) ?_
  refine g_aload_n k_Law_law_298 rfl rfl ?_
  refine g_rd (j := 1) k_Law_law_299 k_Law_law_300 k_Law_law_302 k_Law_law_303 k_Law_law_304 rfl rfl rfl (hi _ (by decide) (by decide)) ?_
  refine g_cv (bc' := 0) (bs' := 0) k_Law_law_305 lv_Law_131 (by decide +kernel) (T := F_Mod) (N := 61) (ci := 10) rfl (sk_Mod S.2.1) (s_Mod_lens (bc := 0) (bs := 0) S.2.1 F _ _ e2 (by omega)) rfl rfl (by simp [Value.category]) (by simp [Value.category]) (by omega) (by omega) (by omega) ?_
  refine g_istore k_Law_law_308 (by decide) ?_
  refine g_aload_n k_Law_law_310 rfl rfl ?_
  refine g_cv (bc' := 0) (bs' := 0) k_Law_law_311 lv_Law_132 (by decide +kernel) (T := F_Mod) (N := 61) (ci := 10) rfl (sk_Mod S.2.1) (s_Mod_thrown (bc := 0) (bs := 0) S.2.1 _ rfl) rfl rfl (by simp [Value.category]) (by simp [Value.category]) (by omega) (by omega) (by omega) ?_
  refine g_iload k_Law_law_314 rfl ?_
  refine g_icmp_eq (tgt := 321) k_Law_law_316 (by decide) (fun _ => ?_) (fun c => absurd rfl c)
  refine g_iload k_Law_law_321 rfl ?_
  rcases co_cs co (by decide) with ⟨y, rfl, h0, rfl⟩ | ⟨E, rfl, h0⟩
  · refine g_if_ne (tgt := 338) k_Law_law_323 (by decide) (fun _ => ?_) (fun c => absurd h0 c)
    refine g_aload_n k_Law_law_326 rfl rfl ?_
    refine g_iconst (v := 0) k_Law_law_327 rfl ?_
    refine g_lald k_Law_law_328 S.2.2.1 in01 ?_
    refine g_iload k_Law_law_329 rfl ?_
    refine g_i2l k_Law_law_331 ?_
    refine g_lcmp k_Law_law_332 ?_
    refine G.v (y := 0) (by rw [show (0 : Int32).toNatClampNeg = 0 from rfl, gO_rd]; exact lgc0 _) ?_
    refine g_if_eq (tgt := 338) k_Law_law_333 (by decide) (fun _ => ?_) (fun c => absurd rfl c)
    refine g_goto (tgt := 2591) k_Law_law_338 (by decide) ?_
    exact lw_w (hk _ _ _ _ ((I.p iv ag (by omega) (by omega)).ex gO_ex))
  · refine g_if_ne (tgt := 338) k_Law_law_323 (by decide) (fun c => absurd c h0) (fun _ => ?_)
    refine g_goto (tgt := 2591) k_Law_law_338 (by decide) ?_
    exact lw_w (hk _ _ _ _ ((I.p iv ag (by omega) (by omega)).ex gO_ex))
theorem lc_fault {K : aK} {d bc bs n F : Nat} {g : aG} {m : aM} {Q : aQ} {i : Int32} (hF : 20000 ≤ F) (hd : 600 ≤ d) (hi : rdO K i) (I : LI (n + 1) g m bc bs) (hk : LK K d n i Q) : G K M_Law_law (d + 2) bc bs 341 (lwL i (.double 0) (.double 0)) [] (g, m) Q := by
  obtain ⟨r, m1, e1, m2, e2, iv, ag⟩ := z_fault  m I.1
  obtain ⟨r0, e9, q⟩ := Option.map_eq_some_iff.mp e1
  cases q
  refine g_aload_n k_Law_law_341 rfl rfl ?_
  refine g_cv (bc' := 0) (bs' := 0) k_Law_law_342 lv_Law_136 (by decide +kernel) (T := F_Led) (N := 10) (ci := 9) rfl (sk_Led I.2.1.1) (s_Led_fault (bc := 0) (bs := 0) I.2.1.1  m e9) rfl rfl (by simp [Value.category]) (by simp [Value.category]) (by omega) (by omega) (by omega) ?_
  refine g_aload_n k_Law_law_345 rfl rfl ?_
  refine g_cv (bc' := 0) (bs' := 0) k_Law_law_346 lv_Law_139 (by decide +kernel) (T := F_Mod) (N := 61) (ci := 10) rfl (sk_Mod I.2.1.2.1) (s_Mod_fault (bc := 0) (bs := 0) I.2.1.2.1  _ e2) rfl rfl (by simp [Value.category]) (by simp [Value.category]) (by omega) (by omega) (by omega) ?_
  refine g_icmp_eq (tgt := 2591) k_Law_law_349 (by decide) (fun _ => ?_) (fun c => absurd rfl c)
  exact hk _ _ _ _ (I.p iv ag (by omega) (by omega))
theorem lc_see {K : aK} {d bc bs n F : Nat} {g : aG} {m : aM} {Q : aQ} {i : Int32} (hF : 20000 ≤ F) (hd : 600 ≤ d) (hi : rdO K i) (I : LI (n + 1) g m bc bs) (hk : LK K d n i Q) : G K M_Law_law (d + 2) bc bs 354 (lwL i (.double 0) (.double 0)) [] (g, m) Q := by
  obtain ⟨r, m1, e1, v, m2, e2, co, iv, ag⟩ := z_see (scr K i 1) (scr K i 2) (scr K i 3) (scr K i 4) (scr K i 5) F m (by omega) I.1
  have C : SpG K M_Led_see d 12 60 [.ref 0, .int (scr K i 1), .int (scr K i 2), .int (scr K i 3), .int (scr K i 4), .int (scr K i 5)] (g, m) (o_out _) _ (fun g' => g' = g) := spe_g (s_Led_see I.2.1.1 F _ _ _ _ _ m e1 (by omega) (by omega) (by omega))
  have b1 := I.2.2.2.2.2.1
  obtain ⟨pw, pl, b2, -, -⟩ := I.2.2.2.2.2.2
  refine g_aload_n k_Law_law_354 rfl rfl ?_
  refine g_rd (j := 1) k_Law_law_355 k_Law_law_356 k_Law_law_358 k_Law_law_359 k_Law_law_360 rfl rfl rfl (hi _ (by decide) (by decide)) ?_
  refine g_rd (j := 2) k_Law_law_361 k_Law_law_362 k_Law_law_364 k_Law_law_365 k_Law_law_366 rfl rfl rfl (hi _ (by decide) (by decide)) ?_
  refine g_rd (j := 3) k_Law_law_367 k_Law_law_368 k_Law_law_370 k_Law_law_371 k_Law_law_372 rfl rfl rfl (hi _ (by decide) (by decide)) ?_
  refine g_rd (j := 4) k_Law_law_373 k_Law_law_374 k_Law_law_376 k_Law_law_377 k_Law_law_378 rfl rfl rfl (hi _ (by decide) (by decide)) ?_
  refine g_rd (j := 5) k_Law_law_379 k_Law_law_380 k_Law_law_382 k_Law_law_383 k_Law_law_384 rfl rfl rfl (hi _ (by decide) (by decide)) ?_
  refine g_aload_n k_Law_law_385 rfl rfl ?_
  refine g_hR (bc' := 12) (bs' := 60) k_Law_law_386 lh_Law_140 (by decide +kernel) (s_Law_see (sk_Led I.2.1.1) C (fun g' hg => by subst hg; exact I.2.1.2.2.1) co) rfl rfl (by simp [Value.category]) (by simp [Value.category]) (by omega) (by omega) (fun v' h' P => ?_)
  obtain ⟨g', rfl, rfl, rfl⟩ := P
  have S : LSy (gO Int32.toInt64 g' r) := I.2.1.gO
  refine g_istore k_Law_law_389 (by decide) ?_
  refine g_aload_n k_Law_law_391 rfl rfl ?_
  refine g_rd (j := 1) k_Law_law_392 k_Law_law_393 k_Law_law_395 k_Law_law_396 k_Law_law_397 rfl rfl rfl (hi _ (by decide) (by decide)) ?_
  refine g_rd (j := 2) k_Law_law_398 k_Law_law_399 k_Law_law_401 k_Law_law_402 k_Law_law_403 rfl rfl rfl (hi _ (by decide) (by decide)) ?_
  refine g_rd (j := 3) k_Law_law_404 k_Law_law_405 k_Law_law_407 k_Law_law_408 k_Law_law_409 rfl rfl rfl (hi _ (by decide) (by decide)) ?_
  refine g_rd (j := 4) k_Law_law_410 k_Law_law_411 k_Law_law_413 k_Law_law_414 k_Law_law_415 rfl rfl rfl (hi _ (by decide) (by decide)) ?_
  refine g_rd (j := 5) k_Law_law_416 k_Law_law_417 k_Law_law_419 k_Law_law_420 k_Law_law_421 rfl rfl rfl (hi _ (by decide) (by decide)) ?_
  refine g_cv (bc' := 0) (bs' := 0) k_Law_law_422 lv_Law_143 (by decide +kernel) (T := F_Mod) (N := 61) (ci := 10) rfl (sk_Mod S.2.1) (s_Mod_see (bc := 0) (bs := 0) S.2.1 F _ _ _ _ _ _ e2 (by omega)) rfl rfl (by simp [Value.category]) (by simp [Value.category]) (by omega) (by omega) (by omega) ?_
  refine g_istore k_Law_law_425 (by decide) ?_
  refine g_aload_n k_Law_law_427 rfl rfl ?_
  refine g_cv (bc' := 0) (bs' := 0) k_Law_law_428 lv_Law_132 (by decide +kernel) (T := F_Mod) (N := 61) (ci := 10) rfl (sk_Mod S.2.1) (s_Mod_thrown (bc := 0) (bs := 0) S.2.1 _ rfl) rfl rfl (by simp [Value.category]) (by simp [Value.category]) (by omega) (by omega) (by omega) ?_
  refine g_iload k_Law_law_431 rfl ?_
  refine g_icmp_eq (tgt := 438) k_Law_law_433 (by decide) (fun _ => ?_) (fun c => absurd rfl c)
  refine g_iload k_Law_law_438 rfl ?_
  rcases co_cs co (by decide) with ⟨y, rfl, h0, rfl⟩ | ⟨E, rfl, h0⟩
  · refine g_if_ne (tgt := 455) k_Law_law_440 (by decide) (fun _ => ?_) (fun c => absurd h0 c)
    refine g_aload_n k_Law_law_443 rfl rfl ?_
    refine g_iconst (v := 0) k_Law_law_444 rfl ?_
    refine g_lald k_Law_law_445 S.2.2.1 in01 ?_
    refine g_iload k_Law_law_446 rfl ?_
    refine g_i2l k_Law_law_448 ?_
    refine g_lcmp k_Law_law_449 ?_
    refine G.v (y := 0) (by rw [show (0 : Int32).toNatClampNeg = 0 from rfl, gO_rd]; exact lgc0 _) ?_
    refine g_if_eq (tgt := 455) k_Law_law_450 (by decide) (fun _ => ?_) (fun c => absurd rfl c)
    refine g_goto (tgt := 2591) k_Law_law_455 (by decide) ?_
    exact lw_w (hk _ _ _ _ ((I.p iv ag (by omega) (by omega)).ex gO_ex))
  · refine g_if_ne (tgt := 455) k_Law_law_440 (by decide) (fun c => absurd c h0) (fun _ => ?_)
    refine g_goto (tgt := 2591) k_Law_law_455 (by decide) ?_
    exact lw_w (hk _ _ _ _ ((I.p iv ag (by omega) (by omega)).ex gO_ex))
theorem lc_put {K : aK} {d bc bs n F : Nat} {g : aG} {m : aM} {Q : aQ} {i : Int32} (hF : 20000 ≤ F) (hd : 600 ≤ d) (hi : rdO K i) (I : LI (n + 1) g m bc bs) (hk : LK K d n i Q) : G K M_Law_law (d + 2) bc bs 458 (lwL i (.double 0) (.double 0)) [] (g, m) Q := by
  obtain ⟨r, m1, e1, v, m2, e2, co, iv, ag⟩ := z_put (scr K i 1) (scr K i 2) (scr K i 3) (scr K i 4) (scr K i 5) (scr K i 6) F m (by omega) I.1
  have C : SpG K M_Led_put d 12 60 [.ref 0, .int (scr K i 1), .int (scr K i 2), .int (scr K i 3), .int (scr K i 4), .int (scr K i 5), .int (scr K i 6)] (g, m) (o_out _) _ (fun g' => g' = g) := spe_g (s_Led_put I.2.1.1 F _ _ _ _ _ _ m e1 (by omega) (by omega) (by omega))
  have b1 := I.2.2.2.2.2.1
  obtain ⟨pw, pl, b2, -, -⟩ := I.2.2.2.2.2.2
  refine g_aload_n k_Law_law_458 rfl rfl ?_
  refine g_rd (j := 1) k_Law_law_459 k_Law_law_460 k_Law_law_462 k_Law_law_463 k_Law_law_464 rfl rfl rfl (hi _ (by decide) (by decide)) ?_
  refine g_rd (j := 2) k_Law_law_465 k_Law_law_466 k_Law_law_468 k_Law_law_469 k_Law_law_470 rfl rfl rfl (hi _ (by decide) (by decide)) ?_
  refine g_rd (j := 3) k_Law_law_471 k_Law_law_472 k_Law_law_474 k_Law_law_475 k_Law_law_476 rfl rfl rfl (hi _ (by decide) (by decide)) ?_
  refine g_rd (j := 4) k_Law_law_477 k_Law_law_478 k_Law_law_480 k_Law_law_481 k_Law_law_482 rfl rfl rfl (hi _ (by decide) (by decide)) ?_
  refine g_rd (j := 5) k_Law_law_483 k_Law_law_484 k_Law_law_486 k_Law_law_487 k_Law_law_488 rfl rfl rfl (hi _ (by decide) (by decide)) ?_
  refine g_rdb (j := 6) k_Law_law_489 k_Law_law_490 k_Law_law_492 k_Law_law_494 k_Law_law_495 rfl rfl rfl (hi _ (by decide) (by decide)) ?_
  refine g_aload_n k_Law_law_496 rfl rfl ?_
  refine g_hR (bc' := 12) (bs' := 60) k_Law_law_497 lh_Law_144 (by decide +kernel) (s_Law_put (sk_Led I.2.1.1) C (fun g' hg => by subst hg; exact I.2.1.2.2.1) co) rfl rfl (by simp [Value.category]) (by simp [Value.category]) (by omega) (by omega) (fun v' h' P => ?_)
  obtain ⟨g', rfl, rfl, rfl⟩ := P
  have S : LSy (gO Int32.toInt64 g' r) := I.2.1.gO
  refine g_istore k_Law_law_500 (by decide) ?_
  refine g_aload_n k_Law_law_502 rfl rfl ?_
  refine g_rd (j := 1) k_Law_law_503 k_Law_law_504 k_Law_law_506 k_Law_law_507 k_Law_law_508 rfl rfl rfl (hi _ (by decide) (by decide)) ?_
  refine g_rd (j := 2) k_Law_law_509 k_Law_law_510 k_Law_law_512 k_Law_law_513 k_Law_law_514 rfl rfl rfl (hi _ (by decide) (by decide)) ?_
  refine g_rd (j := 3) k_Law_law_515 k_Law_law_516 k_Law_law_518 k_Law_law_519 k_Law_law_520 rfl rfl rfl (hi _ (by decide) (by decide)) ?_
  refine g_rd (j := 4) k_Law_law_521 k_Law_law_522 k_Law_law_524 k_Law_law_525 k_Law_law_526 rfl rfl rfl (hi _ (by decide) (by decide)) ?_
  refine g_rd (j := 5) k_Law_law_527 k_Law_law_528 k_Law_law_530 k_Law_law_531 k_Law_law_532 rfl rfl rfl (hi _ (by decide) (by decide)) ?_
  refine g_rdb (j := 6) k_Law_law_533 k_Law_law_534 k_Law_law_536 k_Law_law_538 k_Law_law_539 rfl rfl rfl (hi _ (by decide) (by decide)) ?_
  refine g_cv (bc' := 0) (bs' := 0) k_Law_law_540 lv_Law_147 (by decide +kernel) (T := F_Mod) (N := 61) (ci := 10) rfl (sk_Mod S.2.1) (s_Mod_put (bc := 0) (bs := 0) S.2.1 F _ _ _ _ _ _ _ e2 (by omega)) rfl rfl (by simp [Value.category]) (by simp [Value.category]) (by omega) (by omega) (by omega) ?_
  refine g_istore k_Law_law_543 (by decide) ?_
  refine g_aload_n k_Law_law_545 rfl rfl ?_
  refine g_cv (bc' := 0) (bs' := 0) k_Law_law_546 lv_Law_132 (by decide +kernel) (T := F_Mod) (N := 61) (ci := 10) rfl (sk_Mod S.2.1) (s_Mod_thrown (bc := 0) (bs := 0) S.2.1 _ rfl) rfl rfl (by simp [Value.category]) (by simp [Value.category]) (by omega) (by omega) (by omega) ?_
  refine g_iload k_Law_law_549 rfl ?_
  refine g_icmp_eq (tgt := 556) k_Law_law_551 (by decide) (fun _ => ?_) (fun c => absurd rfl c)
  refine g_iload k_Law_law_556 rfl ?_
  rcases co_cs co (by decide) with ⟨y, rfl, h0, rfl⟩ | ⟨E, rfl, h0⟩
  · refine g_if_ne (tgt := 573) k_Law_law_558 (by decide) (fun _ => ?_) (fun c => absurd h0 c)
    refine g_aload_n k_Law_law_561 rfl rfl ?_
    refine g_iconst (v := 0) k_Law_law_562 rfl ?_
    refine g_lald k_Law_law_563 S.2.2.1 in01 ?_
    refine g_iload k_Law_law_564 rfl ?_
    refine g_i2l k_Law_law_566 ?_
    refine g_lcmp k_Law_law_567 ?_
    refine G.v (y := 0) (by rw [show (0 : Int32).toNatClampNeg = 0 from rfl, gO_rd]; exact lgc0 _) ?_
    refine g_if_eq (tgt := 573) k_Law_law_568 (by decide) (fun _ => ?_) (fun c => absurd rfl c)
    refine g_goto (tgt := 2591) k_Law_law_573 (by decide) ?_
    exact lw_w (hk _ _ _ _ ((I.p iv ag (by omega) (by omega)).ex gO_ex))
  · refine g_if_ne (tgt := 573) k_Law_law_558 (by decide) (fun c => absurd c h0) (fun _ => ?_)
    refine g_goto (tgt := 2591) k_Law_law_573 (by decide) ?_
    exact lw_w (hk _ _ _ _ ((I.p iv ag (by omega) (by omega)).ex gO_ex))
theorem lc_box {K : aK} {d bc bs n F : Nat} {g : aG} {m : aM} {Q : aQ} {i : Int32} (hF : 20000 ≤ F) (hd : 600 ≤ d) (hi : rdO K i) (I : LI (n + 1) g m bc bs) (hk : LK K d n i Q) : G K M_Law_law (d + 2) bc bs 576 (lwL i (.double 0) (.double 0)) [] (g, m) Q := by
  obtain ⟨r, m1, e1, v, m2, e2, co, iv, ag⟩ := z_boxI (scr K i 1) (scr K i 2) (scr K i 3) m I.1
  have C : SpG K M_Led_box d 12 60 [.ref 0, .int (scr K i 1), .int (scr K i 2), .int (scr K i 3)] (g, m) (o_outv _) _ (fun g' => g' = g) := spe_g (s_Led_box I.2.1.1 _ _ _ m e1 (by omega) (by omega) (by omega))
  have b1 := I.2.2.2.2.2.1
  obtain ⟨pw, pl, b2, -, -⟩ := I.2.2.2.2.2.2
  refine g_aload_n k_Law_law_576 rfl rfl ?_
  refine g_rd (j := 1) k_Law_law_577 k_Law_law_578 k_Law_law_580 k_Law_law_581 k_Law_law_582 rfl rfl rfl (hi _ (by decide) (by decide)) ?_
  refine g_rd (j := 2) k_Law_law_583 k_Law_law_584 k_Law_law_586 k_Law_law_587 k_Law_law_588 rfl rfl rfl (hi _ (by decide) (by decide)) ?_
  refine g_rd (j := 3) k_Law_law_589 k_Law_law_590 k_Law_law_592 k_Law_law_593 k_Law_law_594 rfl rfl rfl (hi _ (by decide) (by decide)) ?_
  refine g_hR (bc' := 12) (bs' := 60) k_Law_law_595 lh_Law_148 (by decide +kernel) (s_Law_box (sk_Led I.2.1.1) C  co) rfl rfl (by simp [Value.category]) (by simp [Value.category]) (by omega) (by omega) (fun v' h' P => ?_)
  obtain ⟨g', rfl, rfl, rfl⟩ := P
  have S := I.2.1
  refine g_istore k_Law_law_598 (by decide) ?_
  refine g_aload_n k_Law_law_600 rfl rfl ?_
  refine g_rd (j := 1) k_Law_law_601 k_Law_law_602 k_Law_law_604 k_Law_law_605 k_Law_law_606 rfl rfl rfl (hi _ (by decide) (by decide)) ?_
  refine g_rd (j := 2) k_Law_law_607 k_Law_law_608 k_Law_law_610 k_Law_law_611 k_Law_law_612 rfl rfl rfl (hi _ (by decide) (by decide)) ?_
  refine g_rd (j := 3) k_Law_law_613 k_Law_law_614 k_Law_law_616 k_Law_law_617 k_Law_law_618 rfl rfl rfl (hi _ (by decide) (by decide)) ?_
  refine g_cv (bc' := 0) (bs' := 0) k_Law_law_619 lv_Law_151 (by decide +kernel) (T := F_Mod) (N := 61) (ci := 10) rfl (sk_Mod S.2.1) (s_Mod_box (bc := 0) (bs := 0) S.2.1 _ _ _ _ e2 (by omega)) rfl rfl (by simp [Value.category]) (by simp [Value.category]) (by omega) (by omega) (by omega) ?_
  refine g_aload_n k_Law_law_622 rfl rfl ?_
  refine g_cv (bc' := 0) (bs' := 0) k_Law_law_623 lv_Law_132 (by decide +kernel) (T := F_Mod) (N := 61) (ci := 10) rfl (sk_Mod S.2.1) (s_Mod_thrown (bc := 0) (bs := 0) S.2.1 _ rfl) rfl rfl (by simp [Value.category]) (by simp [Value.category]) (by omega) (by omega) (by omega) ?_
  refine g_iload k_Law_law_626 rfl ?_
  refine g_icmp_eq (tgt := 633) k_Law_law_628 (by decide) (fun _ => ?_) (fun c => absurd rfl c)
  refine g_goto (tgt := 2591) k_Law_law_633 (by decide) ?_
  exact lw_w (hk _ _ _ _ (I.p iv ag (by omega) (by omega)))
theorem lc_agree {K : aK} {d bc bs n F : Nat} {g : aG} {m : aM} {Q : aQ} {i : Int32} (hF : 20000 ≤ F) (hd : 600 ≤ d) (hi : rdO K i) (I : LI (n + 1) g m bc bs) (hk : LK K d n i Q) : G K M_Law_law (d + 2) bc bs 636 (lwL i (.double 0) (.double 0)) [] (g, m) Q := by
  obtain ⟨r, m1, e1, v, m2, e2, co, iv, ag⟩ := z_agreeI (scr K i 1) (scr K i 2) F m (by omega) I.1
  have C : SpG K M_Led_agree d 12 60 [.ref 0, .int (scr K i 1), .int (scr K i 2)] (g, m) (o_out _) _ (fun g' => g' = g) := spe_g (s_Led_agree I.2.1.1 F _ _ m e1 (by omega) (by omega) (by omega))
  have b1 := I.2.2.2.2.2.1
  obtain ⟨pw, pl, b2, -, -⟩ := I.2.2.2.2.2.2
  refine g_aload_n k_Law_law_636 rfl rfl ?_
  refine g_rd (j := 1) k_Law_law_637 k_Law_law_638 k_Law_law_640 k_Law_law_641 k_Law_law_642 rfl rfl rfl (hi _ (by decide) (by decide)) ?_
  refine g_rd (j := 2) k_Law_law_643 k_Law_law_644 k_Law_law_646 k_Law_law_647 k_Law_law_648 rfl rfl rfl (hi _ (by decide) (by decide)) ?_
  refine g_aload_n k_Law_law_649 rfl rfl ?_
  refine g_hR (bc' := 12) (bs' := 60) k_Law_law_650 lh_Law_152 (by decide +kernel) (s_Law_agree (sk_Led I.2.1.1) C (fun g' hg => by subst hg; exact I.2.1.2.2.1) co) rfl rfl (by simp [Value.category]) (by simp [Value.category]) (by omega) (by omega) (fun v' h' P => ?_)
  obtain ⟨g', rfl, rfl, rfl⟩ := P
  have S : LSy (gO Int32.toInt64 g' r) := I.2.1.gO
  refine g_istore k_Law_law_653 (by decide) ?_
  refine g_aload_n k_Law_law_655 rfl rfl ?_
  refine g_rd (j := 1) k_Law_law_656 k_Law_law_657 k_Law_law_659 k_Law_law_660 k_Law_law_661 rfl rfl rfl (hi _ (by decide) (by decide)) ?_
  refine g_rd (j := 2) k_Law_law_662 k_Law_law_663 k_Law_law_665 k_Law_law_666 k_Law_law_667 rfl rfl rfl (hi _ (by decide) (by decide)) ?_
  refine g_cv (bc' := 0) (bs' := 0) k_Law_law_668 lv_Law_155 (by decide +kernel) (T := F_Mod) (N := 61) (ci := 10) rfl (sk_Mod S.2.1) (s_Mod_agree (bc := 0) (bs := 0) S.2.1 F _ _ _ e2 (by omega)) rfl rfl (by simp [Value.category]) (by simp [Value.category]) (by omega) (by omega) (by omega) ?_
  refine g_istore k_Law_law_671 (by decide) ?_
  refine g_aload_n k_Law_law_673 rfl rfl ?_
  refine g_cv (bc' := 0) (bs' := 0) k_Law_law_674 lv_Law_132 (by decide +kernel) (T := F_Mod) (N := 61) (ci := 10) rfl (sk_Mod S.2.1) (s_Mod_thrown (bc := 0) (bs := 0) S.2.1 _ rfl) rfl rfl (by simp [Value.category]) (by simp [Value.category]) (by omega) (by omega) (by omega) ?_
  refine g_iload k_Law_law_677 rfl ?_
  refine g_icmp_eq (tgt := 684) k_Law_law_679 (by decide) (fun _ => ?_) (fun c => absurd rfl c)
  refine g_iload k_Law_law_684 rfl ?_
  rcases co_cs co (by decide) with ⟨y, rfl, h0, rfl⟩ | ⟨E, rfl, h0⟩
  · refine g_if_ne (tgt := 701) k_Law_law_686 (by decide) (fun _ => ?_) (fun c => absurd h0 c)
    refine g_aload_n k_Law_law_689 rfl rfl ?_
    refine g_iconst (v := 0) k_Law_law_690 rfl ?_
    refine g_lald k_Law_law_691 S.2.2.1 in01 ?_
    refine g_iload k_Law_law_692 rfl ?_
    refine g_i2l k_Law_law_694 ?_
    refine g_lcmp k_Law_law_695 ?_
    refine G.v (y := 0) (by rw [show (0 : Int32).toNatClampNeg = 0 from rfl, gO_rd]; exact lgc0 _) ?_
    refine g_if_eq (tgt := 701) k_Law_law_696 (by decide) (fun _ => ?_) (fun c => absurd rfl c)
    refine g_goto (tgt := 2591) k_Law_law_701 (by decide) ?_
    exact lw_w (hk _ _ _ _ ((I.p iv ag (by omega) (by omega)).ex gO_ex))
  · refine g_if_ne (tgt := 701) k_Law_law_686 (by decide) (fun c => absurd c h0) (fun _ => ?_)
    refine g_goto (tgt := 2591) k_Law_law_701 (by decide) ?_
    exact lw_w (hk _ _ _ _ ((I.p iv ag (by omega) (by omega)).ex gO_ex))
theorem lc_unlike {K : aK} {d bc bs n F : Nat} {g : aG} {m : aM} {Q : aQ} {i : Int32} (hF : 20000 ≤ F) (hd : 600 ≤ d) (hi : rdO K i) (I : LI (n + 1) g m bc bs) (hk : LK K d n i Q) : G K M_Law_law (d + 2) bc bs 704 (lwL i (.double 0) (.double 0)) [] (g, m) Q := by
  obtain ⟨r, m1, e1, v, m2, e2, co, iv, ag⟩ := z_unlikeI (scr K i 1) F m (by omega) I.1
  have C : SpG K M_Led_unlike d 12 60 [.ref 0, .int (scr K i 1)] (g, m) (o_out _) _ (fun g' => g' = g) := spe_g (s_Led_unlike I.2.1.1 F _ m e1 (by omega) (by omega) (by omega))
  have b1 := I.2.2.2.2.2.1
  obtain ⟨pw, pl, b2, -, -⟩ := I.2.2.2.2.2.2
  refine g_aload_n k_Law_law_704 rfl rfl ?_
  refine g_rd (j := 1) k_Law_law_705 k_Law_law_706 k_Law_law_708 k_Law_law_709 k_Law_law_710 rfl rfl rfl (hi _ (by decide) (by decide)) ?_
  refine g_aload_n k_Law_law_711 rfl rfl ?_
  refine g_hR (bc' := 12) (bs' := 60) k_Law_law_712 lh_Law_156 (by decide +kernel) (s_Law_unlike (sk_Led I.2.1.1) C (fun g' hg => by subst hg; exact I.2.1.2.2.1) co) rfl rfl (by simp [Value.category]) (by simp [Value.category]) (by omega) (by omega) (fun v' h' P => ?_)
  obtain ⟨g', rfl, rfl, rfl⟩ := P
  have S : LSy (gO Int32.toInt64 g' r) := I.2.1.gO
  refine g_istore k_Law_law_715 (by decide) ?_
  refine g_aload_n k_Law_law_717 rfl rfl ?_
  refine g_rd (j := 1) k_Law_law_718 k_Law_law_719 k_Law_law_721 k_Law_law_722 k_Law_law_723 rfl rfl rfl (hi _ (by decide) (by decide)) ?_
  refine g_cv (bc' := 0) (bs' := 0) k_Law_law_724 lv_Law_158 (by decide +kernel) (T := F_Mod) (N := 61) (ci := 10) rfl (sk_Mod S.2.1) (s_Mod_unlike (bc := 0) (bs := 0) S.2.1 F _ _ e2 (by omega)) rfl rfl (by simp [Value.category]) (by simp [Value.category]) (by omega) (by omega) (by omega) ?_
  refine g_istore k_Law_law_727 (by decide) ?_
  refine g_aload_n k_Law_law_729 rfl rfl ?_
  refine g_cv (bc' := 0) (bs' := 0) k_Law_law_730 lv_Law_132 (by decide +kernel) (T := F_Mod) (N := 61) (ci := 10) rfl (sk_Mod S.2.1) (s_Mod_thrown (bc := 0) (bs := 0) S.2.1 _ rfl) rfl rfl (by simp [Value.category]) (by simp [Value.category]) (by omega) (by omega) (by omega) ?_
  refine g_iload k_Law_law_733 rfl ?_
  refine g_icmp_eq (tgt := 740) k_Law_law_735 (by decide) (fun _ => ?_) (fun c => absurd rfl c)
  refine g_iload k_Law_law_740 rfl ?_
  rcases co_cs co (by decide) with ⟨y, rfl, h0, rfl⟩ | ⟨E, rfl, h0⟩
  · refine g_if_ne (tgt := 757) k_Law_law_742 (by decide) (fun _ => ?_) (fun c => absurd h0 c)
    refine g_aload_n k_Law_law_745 rfl rfl ?_
    refine g_iconst (v := 0) k_Law_law_746 rfl ?_
    refine g_lald k_Law_law_747 S.2.2.1 in01 ?_
    refine g_iload k_Law_law_748 rfl ?_
    refine g_i2l k_Law_law_750 ?_
    refine g_lcmp k_Law_law_751 ?_
    refine G.v (y := 0) (by rw [show (0 : Int32).toNatClampNeg = 0 from rfl, gO_rd]; exact lgc0 _) ?_
    refine g_if_eq (tgt := 757) k_Law_law_752 (by decide) (fun _ => ?_) (fun c => absurd rfl c)
    refine g_goto (tgt := 2591) k_Law_law_757 (by decide) ?_
    exact lw_w (hk _ _ _ _ ((I.p iv ag (by omega) (by omega)).ex gO_ex))
  · refine g_if_ne (tgt := 757) k_Law_law_742 (by decide) (fun c => absurd c h0) (fun _ => ?_)
    refine g_goto (tgt := 2591) k_Law_law_757 (by decide) ?_
    exact lw_w (hk _ _ _ _ ((I.p iv ag (by omega) (by omega)).ex gO_ex))
theorem lc_lost {K : aK} {d bc bs n F : Nat} {g : aG} {m : aM} {Q : aQ} {i : Int32} (hF : 20000 ≤ F) (hd : 600 ≤ d) (hi : rdO K i) (I : LI (n + 1) g m bc bs) (hk : LK K d n i Q) : G K M_Law_law (d + 2) bc bs 760 (lwL i (.double 0) (.double 0)) [] (g, m) Q := by
  obtain ⟨l, ml, W, hl, ivl, cW, sW, h1, h2, h3, fin⟩ := I.lh
  obtain ⟨r, m1, e1, m2, e2, iv, ps, fr⟩ := z_lostI F l ml (by omega) (by omega) ivl
  refine g_aload_n k_Law_law_760 rfl rfl ?_
  refine g_cvR (bc' := cW) (bs' := sW) k_Law_law_761 lv_Law_159 (by decide +kernel) (T := F_Led) (N := 10) (ci := 9) rfl (sk_Led I.2.1.1) (s_Led_lostX I.2.1.1 (by have := I.2.1.2.2.2; omega) F W e1 (by omega) h1) rfl rfl (by simp [Value.category]) (by simp [Value.category]) (by omega) (by omega) (by omega) (fun v h' P => ?_)
  obtain ⟨g', rfl, rfl, LR'⟩ := P
  have S := I.2.1.ex LR'.1
  refine g_aload_n k_Law_law_764 rfl rfl ?_
  refine g_cv (bc' := 0) (bs' := 0) k_Law_law_765 lv_Law_162 (by decide +kernel) (T := F_Mod) (N := 61) (ci := 10) rfl (sk_Mod S.2.1) (s_Mod_lost (bc := 0) (bs := 0) S.2.1 F  _ e2 (by omega)) rfl rfl (by simp [Value.category]) (by simp [Value.category]) (by omega) (by omega) (by omega) ?_
  refine g_icmp_eq (tgt := 2591) k_Law_law_768 (by decide) (fun _ => ?_) (fun c => absurd rfl c)
  exact hk _ _ _ _ ((fin _ _ LR' iv ps fr).mono (by omega) (by omega))
theorem lc_wrong {K : aK} {d bc bs n F : Nat} {g : aG} {m : aM} {Q : aQ} {i : Int32} (hF : 20000 ≤ F) (hd : 600 ≤ d) (hi : rdO K i) (I : LI (n + 1) g m bc bs) (hk : LK K d n i Q) : G K M_Law_law (d + 2) bc bs 773 (lwL i (.double 0) (.double 0)) [] (g, m) Q := by
  obtain ⟨r, m1, e1, m2, e2, iv, ag⟩ := z_wrongI  F m (by omega) I.1
  refine g_aload_n k_Law_law_773 rfl rfl ?_
  refine g_cv (bc' := 0) (bs' := 0) k_Law_law_774 lv_Law_163 (by decide +kernel) (T := F_Led) (N := 10) (ci := 9) rfl (sk_Led I.2.1.1) (s_Led_wrong (bc := 0) (bs := 0) I.2.1.1 F  m e1 (by omega)) rfl rfl (by simp [Value.category]) (by simp [Value.category]) (by omega) (by omega) (by omega) ?_
  refine g_aload_n k_Law_law_777 rfl rfl ?_
  refine g_cv (bc' := 0) (bs' := 0) k_Law_law_778 lv_Law_166 (by decide +kernel) (T := F_Mod) (N := 61) (ci := 10) rfl (sk_Mod I.2.1.2.1) (s_Mod_wrong (bc := 0) (bs := 0) I.2.1.2.1 F  _ e2 (by omega)) rfl rfl (by simp [Value.category]) (by simp [Value.category]) (by omega) (by omega) (by omega) ?_
  refine g_icmp_eq (tgt := 2591) k_Law_law_781 (by decide) (fun _ => ?_) (fun c => absurd rfl c)
  exact hk _ _ _ _ (I.p iv ag (by omega) (by omega))

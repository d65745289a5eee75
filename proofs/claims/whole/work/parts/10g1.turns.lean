section
variable {x : sm_Cx} {n : Nat} {K : sm_K} {bc bs : Nat} {T : List sm_Sh} {I : sm_MI} {L : sm_ML} {Ls t bn : Nat} {xs : Nat → Int32} {a5 a6 : Option Value}
set_option maxRecDepth 100000 in
theorem w_0 (hx : sm_Ok x mL_law (n + 61) K) (hS : sm_Sc x Ls xs) (ht : 6 * t + 6 ≤ Ls) (hI : Inv bn T I L) (hb : bn + 60 < 2 ^ 29) (hl : T.length + 6 < 1000000) (kk : Nx x bc bs T bn t) : sm_V x (bc + 6) (bs + 400) T I L 212 (lawL t a5 a6) [] := by
  obtain ⟨A, W, H, S, N, R, ν, lb, hR, hA⟩ := hI
  have hB := hR.hB
  refine V_more (bc := bc) (bs := bs) ?_ (Nat.le_add_right _ _) (Nat.le_add_right _ _)
  refine sm_aload_n (i := 1) (z := 0) hx dL_law_212 rfl ?_
  refine rdS (k := 1) hx hS ht (by decide) (by decide) dL_law_213 dL_law_214 dL_law_216 dL_law_217 dL_law_218 ?_
  refine rdS (k := 2) hx hS ht (by decide) (by decide) dL_law_219 dL_law_220 dL_law_222 dL_law_223 dL_law_224 ?_
  refine rdS (k := 3) hx hS ht (by decide) (by decide) dL_law_225 dL_law_226 dL_law_228 dL_law_229 dL_law_230 ?_
  refine rdS (k := 4) hx hS ht (by decide) (by decide) dL_law_231 dL_law_232 dL_law_234 dL_law_235 dL_law_236 ?_
  refine rdS (k := 5) hx hS ht (by decide) (by decide) dL_law_237 dL_law_238 dL_law_240 dL_law_241 dL_law_242 ?_
  refine sm_callVI (n := n + 60) (args := [.int (xs (6 * t + 1)), .int (xs (6 * t + 2)), .int (xs (6 * t + 3)), .int (xs (6 * t + 4)), .int (xs (6 * t + 5))]) (k := 0) (st := []) hx dL_law_243 lv_L_19_11 rfl rfl (t_0 hB) rfl rfl (p_feed (n := n + 40) (G := fun r1 r2 I2 L2 => r1 = r2 ∧ Inv (bn + 60) T I2 L2) hR (fun _ _ _ hR' => ⟨rfl, Inv_up hR' hA hb⟩)) (fun r1 I1 L1 q1 => ?_)
  refine sm_aload_n (i := 2) (z := 76) hx dL_law_246 rfl ?_
  refine rdS (k := 1) hx hS ht (by decide) (by decide) dL_law_247 dL_law_248 dL_law_250 dL_law_251 dL_law_252 ?_
  refine rdS (k := 2) hx hS ht (by decide) (by decide) dL_law_253 dL_law_254 dL_law_256 dL_law_257 dL_law_258 ?_
  refine rdS (k := 3) hx hS ht (by decide) (by decide) dL_law_259 dL_law_260 dL_law_262 dL_law_263 dL_law_264 ?_
  refine rdS (k := 4) hx hS ht (by decide) (by decide) dL_law_265 dL_law_266 dL_law_268 dL_law_269 dL_law_270 ?_
  refine rdS (k := 5) hx hS ht (by decide) (by decide) dL_law_271 dL_law_272 dL_law_274 dL_law_275 dL_law_276 ?_
  refine sm_callVI (n := n + 60) (args := [.int (xs (6 * t + 1)), .int (xs (6 * t + 2)), .int (xs (6 * t + 3)), .int (xs (6 * t + 4)), .int (xs (6 * t + 5))]) (k := 76) (st := [.int r1]) hx dL_law_277 lv_L_23_12 rfl rfl (t_76 hB) rfl rfl q1 (fun r2 I2 L2 q2 => ?_)
  exact sm_icmpeq (a := r1) (b := r2) hx dL_law_280 (tgt := 1654) (by decide) (fun _ => kk _ _ _ _ _ (by omega) q2.2) (fun z => absurd q2.1 z)
set_option maxRecDepth 100000 in
theorem w_1 (hx : sm_Ok x mL_law (n + 61) K) (hS : sm_Sc x Ls xs) (ht : 6 * t + 6 ≤ Ls) (hI : Inv bn T I L) (hb : bn + 60 < 2 ^ 29) (hl : T.length + 6 < 1000000) (kk : Nx x bc bs T bn t) : sm_V x (bc + 6) (bs + 400) T I L 285 (lawL t a5 a6) [] := by
  obtain ⟨A, W, H, S, N, R, ν, lb, hR, hA⟩ := hI
  have hB := hR.hB
  refine V_more (bc := bc) (bs := bs) ?_ (Nat.le_add_right _ _) (Nat.le_add_right _ _)
  refine sm_aload_n (i := 1) (z := 0) hx dL_law_285 rfl ?_
  refine rdS (k := 1) hx hS ht (by decide) (by decide) dL_law_286 dL_law_287 dL_law_289 dL_law_290 dL_law_291 ?_
  refine sm_callVZ (n := n + 60) (args := [.int (xs (6 * t + 1))]) (k := 0) (st := []) hx dL_law_292 lv_L_24_11 rfl rfl (t_0 hB) rfl rfl (p_end (n := n + 40) (G := fun r1 r2 I2 L2 => r1 = r2 ∧ Inv (bn + 60) T I2 L2) hR (fun _ _ _ hR' => ⟨rfl, Inv_up hR' hA hb⟩)) (fun r1 I1 L1 q1 => ?_)
  refine sm_aload_n (i := 2) (z := 76) hx dL_law_295 rfl ?_
  refine rdS (k := 1) hx hS ht (by decide) (by decide) dL_law_296 dL_law_297 dL_law_299 dL_law_300 dL_law_301 ?_
  refine sm_callVZ (n := n + 60) (args := [.int (xs (6 * t + 1))]) (k := 76) (st := [.int (sm_z r1)]) hx dL_law_302 lv_L_28_12 rfl rfl (t_76 hB) rfl rfl q1 (fun r2 I2 L2 q2 => ?_)
  exact sm_icmpeq (a := sm_z r1) (b := sm_z r2) hx dL_law_305 (tgt := 1654) (by decide) (fun _ => kk _ _ _ _ _ (by omega) q2.2) (fun z => absurd (congrArg sm_z q2.1) z)
set_option maxRecDepth 100000 in
theorem w_2 (hx : sm_Ok x mL_law (n + 61) K) (hS : sm_Sc x Ls xs) (ht : 6 * t + 6 ≤ Ls) (hI : Inv bn T I L) (hb : bn + 60 < 2 ^ 29) (hl : T.length + 6 < 1000000) (kk : Nx x bc bs T bn t) : sm_V x (bc + 6) (bs + 400) T I L 310 (lawL t a5 a6) [] := by
  obtain ⟨A, W, H, S, N, R, ν, lb, hR, hA⟩ := hI
  have hB := hR.hB
  refine V_more (bc := bc) (bs := bs) ?_ (Nat.le_add_right _ _) (Nat.le_add_right _ _)
  refine sm_aload_n (i := 1) (z := 0) hx dL_law_310 rfl ?_
  refine rdS (k := 1) hx hS ht (by decide) (by decide) dL_law_311 dL_law_312 dL_law_314 dL_law_315 dL_law_316 ?_
  refine sm_callVI (n := n + 60) (args := [.int (xs (6 * t + 1))]) (k := 0) (st := []) hx dL_law_317 lv_L_29_11 rfl rfl (t_0 hB) rfl rfl (p_fault (n := n + 20) (G := fun r1 r2 I2 L2 => r1 = r2 ∧ Inv (bn + 60) T I2 L2) hR (fun _ _ _ hR' => ⟨rfl, Inv_up hR' hA hb⟩)) (fun r1 I1 L1 q1 => ?_)
  refine sm_aload_n (i := 2) (z := 76) hx dL_law_320 rfl ?_
  refine rdS (k := 1) hx hS ht (by decide) (by decide) dL_law_321 dL_law_322 dL_law_324 dL_law_325 dL_law_326 ?_
  refine sm_callVI (n := n + 60) (args := [.int (xs (6 * t + 1))]) (k := 76) (st := [.int r1]) hx dL_law_327 lv_L_33_12 rfl rfl (t_76 hB) rfl rfl q1 (fun r2 I2 L2 q2 => ?_)
  exact sm_icmpeq (a := r1) (b := r2) hx dL_law_330 (tgt := 1654) (by decide) (fun _ => kk _ _ _ _ _ (by omega) q2.2) (fun z => absurd q2.1 z)
set_option maxRecDepth 100000 in
theorem w_3 (hx : sm_Ok x mL_law (n + 61) K) (hS : sm_Sc x Ls xs) (ht : 6 * t + 6 ≤ Ls) (hI : Inv bn T I L) (hb : bn + 60 < 2 ^ 29) (hl : T.length + 6 < 1000000) (kk : Nx x bc bs T bn t) : sm_V x (bc + 6) (bs + 400) T I L 335 (lawL t a5 a6) [] := by
  obtain ⟨A, W, H, S, N, R, ν, lb, hR, hA⟩ := hI
  have hB := hR.hB
  refine sm_aload_n (i := 1) (z := 0) hx dL_law_335 rfl ?_
  refine rdS (k := 1) hx hS ht (by decide) (by decide) dL_law_336 dL_law_337 dL_law_339 dL_law_340 dL_law_341 ?_
  refine sm_callV (n := n + 60) (args := [.int (xs (6 * t + 1))]) (k := 0) (st := []) (bc' := 6) (bs' := 400) hx dL_law_342 lv_L_34_11 rfl rfl (t_0 hB) rfl rfl (Nat.le_add_left _ _) (Nat.le_add_left _ _) (p_text (n := n + 15) (G := fun r1 r2 T2 I2 L2 => r1 = r2 ∧ T2.length ≤ T.length + 6 ∧ Inv (bn + 60) T2 I2 L2) hR hA hl (fun v A' W' H' S' N' R' ν' lb' T' I' L' hR' hA' hc => ⟨rfl, (by rcases hc with ⟨rfl, _⟩ | ⟨_, hc⟩ <;> omega), Inv_up hR' hA' hb⟩)) (fun v T1 I1 L1 q => ?_)
  obtain ⟨r1, rfl, hB1, q1⟩ := q
  rw [Nat.add_sub_cancel, Nat.add_sub_cancel]
  show sm_V x bc bs T1 I1 L1 345 (lawL t a5 a6) [.int r1]
  refine sm_aload_n (i := 2) (z := 76) hx dL_law_345 rfl ?_
  refine rdS (k := 1) hx hS ht (by decide) (by decide) dL_law_346 dL_law_347 dL_law_349 dL_law_350 dL_law_351 ?_
  refine sm_callVI (n := n + 60) (args := [.int (xs (6 * t + 1))]) (k := 76) (st := [.int r1]) hx dL_law_352 lv_L_37_12 rfl rfl (t_76 hB1) rfl rfl q1 (fun r2 I2 L2 q2 => ?_)
  exact sm_icmpeq (a := r1) (b := r2) hx dL_law_355 (tgt := 1654) (by decide) (fun _ => kk _ _ _ _ _ q2.2.1 q2.2.2) (fun z => absurd q2.1 z)
set_option maxRecDepth 100000 in
theorem w_5 (hx : sm_Ok x mL_law (n + 61) K) (hS : sm_Sc x Ls xs) (ht : 6 * t + 6 ≤ Ls) (hI : Inv bn T I L) (hb : bn + 60 < 2 ^ 29) (hl : T.length + 6 < 1000000) (kk : Nx x bc bs T bn t) : sm_V x (bc + 6) (bs + 400) T I L 428 (lawL t a5 a6) [] := by
  obtain ⟨A, W, H, S, N, R, ν, lb, hR, hA⟩ := hI
  have hB := hR.hB
  refine V_more (bc := bc) (bs := bs) ?_ (Nat.le_add_right _ _) (Nat.le_add_right _ _)
  refine sm_aload_n (i := 1) (z := 0) hx dL_law_428 rfl ?_
  refine rdS (k := 1) hx hS ht (by decide) (by decide) dL_law_429 dL_law_430 dL_law_432 dL_law_433 dL_law_434 ?_
  refine rdS (k := 2) hx hS ht (by decide) (by decide) dL_law_435 dL_law_436 dL_law_438 dL_law_439 dL_law_440 ?_
  refine sm_callVI (n := n + 60) (args := [.int (xs (6 * t + 1)), .int (xs (6 * t + 2))]) (k := 0) (st := []) hx dL_law_441 lv_L_48_11 rfl rfl (t_0 hB) rfl rfl (p_thing (n := n + 40) (G := fun r1 r2 I2 L2 => r1 = r2 ∧ Inv (bn + 60) T I2 L2) hR (fun _ _ _ hR' => ⟨rfl, Inv_up hR' hA hb⟩)) (fun r1 I1 L1 q1 => ?_)
  refine sm_aload_n (i := 2) (z := 76) hx dL_law_444 rfl ?_
  refine rdS (k := 1) hx hS ht (by decide) (by decide) dL_law_445 dL_law_446 dL_law_448 dL_law_449 dL_law_450 ?_
  refine rdS (k := 2) hx hS ht (by decide) (by decide) dL_law_451 dL_law_452 dL_law_454 dL_law_455 dL_law_456 ?_
  refine sm_callVI (n := n + 60) (args := [.int (xs (6 * t + 1)), .int (xs (6 * t + 2))]) (k := 76) (st := [.int r1]) hx dL_law_457 lv_L_51_12 rfl rfl (t_76 hB) rfl rfl q1 (fun r2 I2 L2 q2 => ?_)
  exact sm_icmpeq (a := r1) (b := r2) hx dL_law_460 (tgt := 1654) (by decide) (fun _ => kk _ _ _ _ _ (by omega) q2.2) (fun z => absurd q2.1 z)
set_option maxRecDepth 100000 in
theorem w_6 (hx : sm_Ok x mL_law (n + 61) K) (hS : sm_Sc x Ls xs) (ht : 6 * t + 6 ≤ Ls) (hI : Inv bn T I L) (hb : bn + 60 < 2 ^ 29) (hl : T.length + 6 < 1000000) (kk : Nx x bc bs T bn t) : sm_V x (bc + 6) (bs + 400) T I L 465 (lawL t a5 a6) [] := by
  obtain ⟨A, W, H, S, N, R, ν, lb, hR, hA⟩ := hI
  have hB := hR.hB
  refine V_more (bc := bc) (bs := bs) ?_ (Nat.le_add_right _ _) (Nat.le_add_right _ _)
  refine sm_aload_n (i := 1) (z := 0) hx dL_law_465 rfl ?_
  refine rdS (k := 1) hx hS ht (by decide) (by decide) dL_law_466 dL_law_467 dL_law_469 dL_law_470 dL_law_471 ?_
  refine rdS (k := 2) hx hS ht (by decide) (by decide) dL_law_472 dL_law_473 dL_law_475 dL_law_476 dL_law_477 ?_
  refine sm_callVI (n := n + 60) (args := [.int (xs (6 * t + 1)), .int (xs (6 * t + 2))]) (k := 0) (st := []) hx dL_law_478 lv_L_52_11 rfl rfl (t_0 hB) rfl rfl (p_house (n := n + 40) (G := fun r1 r2 I2 L2 => r1 = r2 ∧ Inv (bn + 60) T I2 L2) hR (fun _ _ _ hR' => ⟨rfl, Inv_up hR' hA hb⟩)) (fun r1 I1 L1 q1 => ?_)
  refine sm_aload_n (i := 2) (z := 76) hx dL_law_481 rfl ?_
  refine rdS (k := 1) hx hS ht (by decide) (by decide) dL_law_482 dL_law_483 dL_law_485 dL_law_486 dL_law_487 ?_
  refine rdS (k := 2) hx hS ht (by decide) (by decide) dL_law_488 dL_law_489 dL_law_491 dL_law_492 dL_law_493 ?_
  refine sm_callVI (n := n + 60) (args := [.int (xs (6 * t + 1)), .int (xs (6 * t + 2))]) (k := 76) (st := [.int r1]) hx dL_law_494 lv_L_55_12 rfl rfl (t_76 hB) rfl rfl q1 (fun r2 I2 L2 q2 => ?_)
  exact sm_icmpeq (a := r1) (b := r2) hx dL_law_497 (tgt := 1654) (by decide) (fun _ => kk _ _ _ _ _ (by omega) q2.2) (fun z => absurd q2.1 z)
set_option maxRecDepth 100000 in
theorem w_7 (hx : sm_Ok x mL_law (n + 61) K) (hS : sm_Sc x Ls xs) (ht : 6 * t + 6 ≤ Ls) (hI : Inv bn T I L) (hb : bn + 60 < 2 ^ 29) (hl : T.length + 6 < 1000000) (kk : Nx x bc bs T bn t) : sm_V x (bc + 6) (bs + 400) T I L 502 (lawL t a5 a6) [] := by
  obtain ⟨A, W, H, S, N, R, ν, lb, hR, hA⟩ := hI
  have hB := hR.hB
  obtain ⟨e0, h23⟩ := hA.at
  refine V_more (bc := bc) (bs := bs) ?_ (Nat.le_add_right _ _) (Nat.le_add_right _ _)
  refine sm_aload_n (i := 1) (z := 0) hx dL_law_502 rfl ?_
  refine rdS (k := 1) hx hS ht (by decide) (by decide) dL_law_503 dL_law_504 dL_law_506 dL_law_507 dL_law_508 ?_
  refine rdS (k := 2) hx hS ht (by decide) (by decide) dL_law_509 dL_law_510 dL_law_512 dL_law_513 dL_law_514 ?_
  refine sm_callVZ (n := n + 60) (args := [.int (xs (6 * t + 1)), .int (xs (6 * t + 2))]) (k := 0) (st := []) hx dL_law_515 lv_L_56_11 rfl rfl (t_0 hB) rfl rfl (p_rule (n := n + 40) (G := fun r1 r2 I2 L2 => r1 = r2 ∧ Inv (bn + 60) T I2 L2) h23 (fun F n I L h => s_size h23 h) hR (fun _ _ _ _ hR' => ⟨rfl, Inv_up hR' hA hb⟩)) (fun r1 I1 L1 q1 => ?_)
  refine sm_aload_n (i := 2) (z := 76) hx dL_law_518 rfl ?_
  refine rdS (k := 1) hx hS ht (by decide) (by decide) dL_law_519 dL_law_520 dL_law_522 dL_law_523 dL_law_524 ?_
  refine rdS (k := 2) hx hS ht (by decide) (by decide) dL_law_525 dL_law_526 dL_law_528 dL_law_529 dL_law_530 ?_
  refine sm_callVZ (n := n + 60) (args := [.int (xs (6 * t + 1)), .int (xs (6 * t + 2))]) (k := 76) (st := [.int (sm_z r1)]) hx dL_law_531 lv_L_60_12 rfl rfl (t_76 hB) rfl rfl q1 (fun r2 I2 L2 q2 => ?_)
  exact sm_icmpeq (a := sm_z r1) (b := sm_z r2) hx dL_law_534 (tgt := 1654) (by decide) (fun _ => kk _ _ _ _ _ (by omega) q2.2) (fun z => absurd (congrArg sm_z q2.1) z)
set_option maxRecDepth 100000 in
theorem w_8 (hx : sm_Ok x mL_law (n + 61) K) (hS : sm_Sc x Ls xs) (ht : 6 * t + 6 ≤ Ls) (hI : Inv bn T I L) (hb : bn + 60 < 2 ^ 29) (hl : T.length + 6 < 1000000) (kk : Nx x bc bs T bn t) : sm_V x (bc + 6) (bs + 400) T I L 539 (lawL t a5 a6) [] := by
  obtain ⟨A, W, H, S, N, R, ν, lb, hR, hA⟩ := hI
  have hB := hR.hB
  refine V_more (bc := bc) (bs := bs) ?_ (Nat.le_add_right _ _) (Nat.le_add_right _ _)
  refine sm_aload_n (i := 1) (z := 0) hx dL_law_539 rfl ?_
  refine rdS (k := 1) hx hS ht (by decide) (by decide) dL_law_540 dL_law_541 dL_law_543 dL_law_544 dL_law_545 ?_
  refine sm_callVZ (n := n + 60) (args := [.int (xs (6 * t + 1))]) (k := 0) (st := []) hx dL_law_546 lv_L_61_11 rfl rfl (t_0 hB) rfl rfl (p_risk (n := n + 40) (G := fun r1 r2 I2 L2 => r1 = r2 ∧ Inv (bn + 60) T I2 L2) hR (fun _ _ _ hR' => ⟨rfl, Inv_up hR' hA hb⟩)) (fun r1 I1 L1 q1 => ?_)
  refine sm_aload_n (i := 2) (z := 76) hx dL_law_549 rfl ?_
  refine rdS (k := 1) hx hS ht (by decide) (by decide) dL_law_550 dL_law_551 dL_law_553 dL_law_554 dL_law_555 ?_
  refine sm_callVZ (n := n + 60) (args := [.int (xs (6 * t + 1))]) (k := 76) (st := [.int (sm_z r1)]) hx dL_law_556 lv_L_64_12 rfl rfl (t_76 hB) rfl rfl q1 (fun r2 I2 L2 q2 => ?_)
  exact sm_icmpeq (a := sm_z r1) (b := sm_z r2) hx dL_law_559 (tgt := 1654) (by decide) (fun _ => kk _ _ _ _ _ (by omega) q2.2) (fun z => absurd (congrArg sm_z q2.1) z)
set_option maxRecDepth 100000 in
theorem w_9 (hx : sm_Ok x mL_law (n + 61) K) (hS : sm_Sc x Ls xs) (ht : 6 * t + 6 ≤ Ls) (hI : Inv bn T I L) (hb : bn + 60 < 2 ^ 29) (hl : T.length + 6 < 1000000) (kk : Nx x bc bs T bn t) : sm_V x (bc + 6) (bs + 400) T I L 564 (lawL t a5 a6) [] := by
  obtain ⟨A, W, H, S, N, R, ν, lb, hR, hA⟩ := hI
  have hB := hR.hB
  refine V_more (bc := bc) (bs := bs) ?_ (Nat.le_add_right _ _) (Nat.le_add_right _ _)
  refine sm_aload_n (i := 1) (z := 0) hx dL_law_564 rfl ?_
  refine rdS (k := 1) hx hS ht (by decide) (by decide) dL_law_565 dL_law_566 dL_law_568 dL_law_569 dL_law_570 ?_
  refine sm_i2l hx dL_law_571 ?_
  refine sm_bipush (v := 32) hx dL_law_572 (by decide) ?_
  refine sm_lshl hx dL_law_574 ?_
  refine rdS (k := 2) hx hS ht (by decide) (by decide) dL_law_575 dL_law_576 dL_law_578 dL_law_579 dL_law_580 ?_
  refine sm_i2l hx dL_law_581 ?_
  refine sm_ldc2 (v := 4294967295) hx dL_law_582 k_L_65 ?_
  refine sm_land hx dL_law_585 ?_
  refine sm_lor hx dL_law_586 ?_
  refine sm_callVZ (n := n + 60) (args := [.long (((Int32.toInt64 (xs (6 * t + 1))) <<< (Int32.toInt64 32 &&& 63)) ||| ((Int32.toInt64 (xs (6 * t + 2))) &&& 4294967295))]) (k := 0) (st := []) hx dL_law_587 lv_L_67_11 rfl rfl (t_0 hB) rfl rfl (p_seed (n := n + 40) (G := fun r1 r2 I2 L2 => r1 = r2 ∧ Inv (bn + 60) T I2 L2) hR (fun _ _ _ hR' => ⟨rfl, Inv_up hR' hA hb⟩)) (fun r1 I1 L1 q1 => ?_)
  refine sm_aload_n (i := 2) (z := 76) hx dL_law_590 rfl ?_
  refine rdS (k := 1) hx hS ht (by decide) (by decide) dL_law_591 dL_law_592 dL_law_594 dL_law_595 dL_law_596 ?_
  refine sm_i2l hx dL_law_597 ?_
  refine sm_bipush (v := 32) hx dL_law_598 (by decide) ?_
  refine sm_lshl hx dL_law_600 ?_
  refine rdS (k := 2) hx hS ht (by decide) (by decide) dL_law_601 dL_law_602 dL_law_604 dL_law_605 dL_law_606 ?_
  refine sm_i2l hx dL_law_607 ?_
  refine sm_ldc2 (v := 4294967295) hx dL_law_608 k_L_65 ?_
  refine sm_land hx dL_law_611 ?_
  refine sm_lor hx dL_law_612 ?_
  refine sm_callVZ (n := n + 60) (args := [.long (((Int32.toInt64 (xs (6 * t + 1))) <<< (Int32.toInt64 32 &&& 63)) ||| ((Int32.toInt64 (xs (6 * t + 2))) &&& 4294967295))]) (k := 76) (st := [.int (sm_z r1)]) hx dL_law_613 lv_L_71_12 rfl rfl (t_76 hB) rfl rfl q1 (fun r2 I2 L2 q2 => ?_)
  exact sm_icmpeq (a := sm_z r1) (b := sm_z r2) hx dL_law_616 (tgt := 1654) (by decide) (fun _ => kk _ _ _ _ _ (by omega) q2.2) (fun z => absurd (congrArg sm_z q2.1) z)
set_option maxRecDepth 100000 in
theorem w_10 (hx : sm_Ok x mL_law (n + 61) K) (hS : sm_Sc x Ls xs) (ht : 6 * t + 6 ≤ Ls) (hI : Inv bn T I L) (hb : bn + 60 < 2 ^ 29) (hl : T.length + 6 < 1000000) (kk : Nx x bc bs T bn t) : sm_V x (bc + 6) (bs + 400) T I L 621 (lawL t a5 a6) [] := by
  obtain ⟨A, W, H, S, N, R, ν, lb, hR, hA⟩ := hI
  have hB := hR.hB
  refine V_more (bc := bc) (bs := bs) ?_ (Nat.le_add_right _ _) (Nat.le_add_right _ _)
  refine sm_aload_n (i := 1) (z := 0) hx dL_law_621 rfl ?_
  refine rdS (k := 1) hx hS ht (by decide) (by decide) dL_law_622 dL_law_623 dL_law_625 dL_law_626 dL_law_627 ?_
  refine rdS (k := 2) hx hS ht (by decide) (by decide) dL_law_628 dL_law_629 dL_law_631 dL_law_632 dL_law_633 ?_
  refine sm_callVZ (n := n + 60) (args := [.int (xs (6 * t + 1)), .int (xs (6 * t + 2))]) (k := 0) (st := []) hx dL_law_634 lv_L_72_11 rfl rfl (t_0 hB) rfl rfl (p_put (n := n + 40) (G := fun r1 r2 I2 L2 => r1 = r2 ∧ Inv (bn + 60) T I2 L2) hR (fun _ _ _ hR' => ⟨rfl, Inv_up hR' hA hb⟩)) (fun r1 I1 L1 q1 => ?_)
  refine sm_aload_n (i := 2) (z := 76) hx dL_law_637 rfl ?_
  refine rdS (k := 1) hx hS ht (by decide) (by decide) dL_law_638 dL_law_639 dL_law_641 dL_law_642 dL_law_643 ?_
  refine rdS (k := 2) hx hS ht (by decide) (by decide) dL_law_644 dL_law_645 dL_law_647 dL_law_648 dL_law_649 ?_
  refine sm_callVZ (n := n + 60) (args := [.int (xs (6 * t + 1)), .int (xs (6 * t + 2))]) (k := 76) (st := [.int (sm_z r1)]) hx dL_law_650 lv_L_75_12 rfl rfl (t_76 hB) rfl rfl q1 (fun r2 I2 L2 q2 => ?_)
  exact sm_icmpeq (a := sm_z r1) (b := sm_z r2) hx dL_law_653 (tgt := 1654) (by decide) (fun _ => kk _ _ _ _ _ (by omega) q2.2) (fun z => absurd (congrArg sm_z q2.1) z)
set_option maxRecDepth 100000 in
theorem w_11 (hx : sm_Ok x mL_law (n + 61) K) (hS : sm_Sc x Ls xs) (ht : 6 * t + 6 ≤ Ls) (hI : Inv bn T I L) (hb : bn + 60 < 2 ^ 29) (hl : T.length + 6 < 1000000) (kk : Nx x bc bs T bn t) : sm_V x (bc + 6) (bs + 400) T I L 658 (lawL t a5 a6) [] := by
  obtain ⟨A, W, H, S, N, R, ν, lb, hR, hA⟩ := hI
  have hB := hR.hB
  refine V_more (bc := bc) (bs := bs) ?_ (Nat.le_add_right _ _) (Nat.le_add_right _ _)
  refine sm_aload_n (i := 1) (z := 0) hx dL_law_658 rfl ?_
  refine rdS (k := 1) hx hS ht (by decide) (by decide) dL_law_659 dL_law_660 dL_law_662 dL_law_663 dL_law_664 ?_
  refine rdS (k := 2) hx hS ht (by decide) (by decide) dL_law_665 dL_law_666 dL_law_668 dL_law_669 dL_law_670 ?_
  refine rdB (v := xs (6 * t + 2)) (X := 678) (Y := 679) hx dL_law_671 (by decide) dL_law_674 dL_law_675 (by decide) dL_law_678 rfl ?_
  refine sm_callVZ (n := n + 60) (args := [.int (xs (6 * t + 1)), .int (sm_z (decide (¬ xs (6 * t + 2) = 0)))]) (k := 0) (st := []) hx dL_law_679 lv_L_76_11 rfl rfl (t_0 hB) rfl rfl (p_lock (n := n + 40) (G := fun r1 r2 I2 L2 => r1 = r2 ∧ Inv (bn + 60) T I2 L2) hR (fun _ _ _ _ hR' => ⟨rfl, Inv_up hR' hA hb⟩)) (fun r1 I1 L1 q1 => ?_)
  refine sm_aload_n (i := 2) (z := 76) hx dL_law_682 rfl ?_
  refine rdS (k := 1) hx hS ht (by decide) (by decide) dL_law_683 dL_law_684 dL_law_686 dL_law_687 dL_law_688 ?_
  refine rdS (k := 2) hx hS ht (by decide) (by decide) dL_law_689 dL_law_690 dL_law_692 dL_law_693 dL_law_694 ?_
  refine rdB (v := xs (6 * t + 2)) (X := 702) (Y := 703) hx dL_law_695 (by decide) dL_law_698 dL_law_699 (by decide) dL_law_702 rfl ?_
  refine sm_callVZ (n := n + 60) (args := [.int (xs (6 * t + 1)), .int (sm_z (decide (¬ xs (6 * t + 2) = 0)))]) (k := 76) (st := [.int (sm_z r1)]) hx dL_law_703 lv_L_80_12 rfl rfl (t_76 hB) rfl rfl q1 (fun r2 I2 L2 q2 => ?_)
  exact sm_icmpeq (a := sm_z r1) (b := sm_z r2) hx dL_law_706 (tgt := 1654) (by decide) (fun _ => kk _ _ _ _ _ (by omega) q2.2) (fun z => absurd (congrArg sm_z q2.1) z)
set_option maxRecDepth 100000 in
theorem w_12 (hx : sm_Ok x mL_law (n + 61) K) (hS : sm_Sc x Ls xs) (ht : 6 * t + 6 ≤ Ls) (hI : Inv bn T I L) (hb : bn + 60 < 2 ^ 29) (hl : T.length + 6 < 1000000) (kk : Nx x bc bs T bn t) : sm_V x (bc + 6) (bs + 400) T I L 711 (lawL t a5 a6) [] := by
  obtain ⟨A, W, H, S, N, R, ν, lb, hR, hA⟩ := hI
  have hB := hR.hB
  refine V_more (bc := bc) (bs := bs) ?_ (Nat.le_add_right _ _) (Nat.le_add_right _ _)
  refine sm_aload_n (i := 1) (z := 0) hx dL_law_711 rfl ?_
  refine rdS (k := 1) hx hS ht (by decide) (by decide) dL_law_712 dL_law_713 dL_law_715 dL_law_716 dL_law_717 ?_
  refine sm_callVI (n := n + 60) (args := [.int (xs (6 * t + 1))]) (k := 0) (st := []) hx dL_law_718 lv_L_81_11 rfl rfl (t_0 hB) rfl rfl (p_nights (n := n + 40) (G := fun r1 r2 I2 L2 => r1 = r2 ∧ Inv (bn + 60) T I2 L2) hR hb (fun _ _ _ _ hR' => ⟨rfl, _, _, _, _, _, _, _, _, hR', hA⟩)) (fun r1 I1 L1 q1 => ?_)
  refine sm_aload_n (i := 2) (z := 76) hx dL_law_721 rfl ?_
  refine rdS (k := 1) hx hS ht (by decide) (by decide) dL_law_722 dL_law_723 dL_law_725 dL_law_726 dL_law_727 ?_
  refine sm_callVI (n := n + 60) (args := [.int (xs (6 * t + 1))]) (k := 76) (st := [.int r1]) hx dL_law_728 lv_L_84_12 rfl rfl (t_76 hB) rfl rfl q1 (fun r2 I2 L2 q2 => ?_)
  exact sm_icmpeq (a := r1) (b := r2) hx dL_law_731 (tgt := 1654) (by decide) (fun _ => kk _ _ _ _ _ (by omega) q2.2) (fun z => absurd q2.1 z)
set_option maxRecDepth 100000 in
theorem w_13 (hx : sm_Ok x mL_law (n + 61) K) (hS : sm_Sc x Ls xs) (ht : 6 * t + 6 ≤ Ls) (hI : Inv bn T I L) (hb : bn + 60 < 2 ^ 29) (hl : T.length + 6 < 1000000) (kk : Nx x bc bs T bn t) : sm_V x (bc + 6) (bs + 400) T I L 736 (lawL t a5 a6) [] := by
  obtain ⟨A, W, H, S, N, R, ν, lb, hR, hA⟩ := hI
  have hB := hR.hB
  refine V_more (bc := bc) (bs := bs) ?_ (Nat.le_add_right _ _) (Nat.le_add_right _ _)
  refine sm_aload_n (i := 1) (z := 0) hx dL_law_736 rfl ?_
  refine sm_callVI (n := n + 60) (args := []) (k := 0) (st := []) hx dL_law_737 lv_L_85_11 rfl rfl (t_0 hB) rfl rfl (p_undo (n := n + 40) (G := fun r1 r2 I2 L2 => r1 = r2 ∧ Inv (bn + 60) T I2 L2) hR (fun _ _ _ _ hR' => ⟨rfl, Inv_up hR' hA hb⟩)) (fun r1 I1 L1 q1 => ?_)
  refine sm_aload_n (i := 2) (z := 76) hx dL_law_740 rfl ?_
  refine sm_callVI (n := n + 60) (args := []) (k := 76) (st := [.int r1]) hx dL_law_741 lv_L_88_12 rfl rfl (t_76 hB) rfl rfl q1 (fun r2 I2 L2 q2 => ?_)
  exact sm_icmpeq (a := r1) (b := r2) hx dL_law_744 (tgt := 1654) (by decide) (fun _ => kk _ _ _ _ _ (by omega) q2.2) (fun z => absurd q2.1 z)
set_option maxRecDepth 100000 in
theorem w_14 (hx : sm_Ok x mL_law (n + 61) K) (hS : sm_Sc x Ls xs) (ht : 6 * t + 6 ≤ Ls) (hI : Inv bn T I L) (hb : bn + 60 < 2 ^ 29) (hl : T.length + 6 < 1000000) (kk : Nx x bc bs T bn t) : sm_V x (bc + 6) (bs + 400) T I L 749 (lawL t a5 a6) [] := by
  obtain ⟨A, W, H, S, N, R, ν, lb, hR, hA⟩ := hI
  have hB := hR.hB
  refine V_more (bc := bc) (bs := bs) ?_ (Nat.le_add_right _ _) (Nat.le_add_right _ _)
  refine sm_aload_n (i := 1) (z := 0) hx dL_law_749 rfl ?_
  refine rdS (k := 1) hx hS ht (by decide) (by decide) dL_law_750 dL_law_751 dL_law_753 dL_law_754 dL_law_755 ?_
  refine sm_callVI (n := n + 60) (args := [.int (xs (6 * t + 1))]) (k := 0) (st := []) hx dL_law_756 lv_L_89_11 rfl rfl (t_0 hB) rfl rfl (p_moon (n := n + 40) (G := fun r1 r2 I2 L2 => r1 = r2 ∧ Inv (bn + 60) T I2 L2) hR (fun _ _ _ hR' => ⟨rfl, Inv_up hR' hA hb⟩)) (fun r1 I1 L1 q1 => ?_)
  refine sm_aload_n (i := 2) (z := 76) hx dL_law_759 rfl ?_
  refine rdS (k := 1) hx hS ht (by decide) (by decide) dL_law_760 dL_law_761 dL_law_763 dL_law_764 dL_law_765 ?_
  refine sm_callVI (n := n + 60) (args := [.int (xs (6 * t + 1))]) (k := 76) (st := [.int r1]) hx dL_law_766 lv_L_92_12 rfl rfl (t_76 hB) rfl rfl q1 (fun r2 I2 L2 q2 => ?_)
  exact sm_icmpeq (a := r1) (b := r2) hx dL_law_769 (tgt := 1654) (by decide) (fun _ => kk _ _ _ _ _ (by omega) q2.2) (fun z => absurd q2.1 z)
set_option maxRecDepth 100000 in
theorem w_15 (hx : sm_Ok x mL_law (n + 61) K) (hS : sm_Sc x Ls xs) (ht : 6 * t + 6 ≤ Ls) (hI : Inv bn T I L) (hb : bn + 60 < 2 ^ 29) (hl : T.length + 6 < 1000000) (kk : Nx x bc bs T bn t) : sm_V x (bc + 6) (bs + 400) T I L 774 (lawL t a5 a6) [] := by
  obtain ⟨A, W, H, S, N, R, ν, lb, hR, hA⟩ := hI
  have hB := hR.hB
  refine V_more (bc := bc) (bs := bs) ?_ (Nat.le_add_right _ _) (Nat.le_add_right _ _)
  refine sm_aload_n (i := 1) (z := 0) hx dL_law_774 rfl ?_
  refine rdS (k := 1) hx hS ht (by decide) (by decide) dL_law_775 dL_law_776 dL_law_778 dL_law_779 dL_law_780 ?_
  refine rdS (k := 2) hx hS ht (by decide) (by decide) dL_law_781 dL_law_782 dL_law_784 dL_law_785 dL_law_786 ?_
  refine sm_callVI (n := n + 60) (args := [.int (xs (6 * t + 1)), .int (xs (6 * t + 2))]) (k := 0) (st := []) hx dL_law_787 lv_L_93_11 rfl rfl (t_0 hB) rfl rfl (p_where (n := n + 40) (G := fun r1 r2 I2 L2 => r1 = r2 ∧ Inv (bn + 60) T I2 L2) hR (fun _ _ _ hR' => ⟨rfl, Inv_up hR' hA hb⟩)) (fun r1 I1 L1 q1 => ?_)
  refine sm_aload_n (i := 2) (z := 76) hx dL_law_790 rfl ?_
  refine rdS (k := 1) hx hS ht (by decide) (by decide) dL_law_791 dL_law_792 dL_law_794 dL_law_795 dL_law_796 ?_
  refine rdS (k := 2) hx hS ht (by decide) (by decide) dL_law_797 dL_law_798 dL_law_800 dL_law_801 dL_law_802 ?_
  refine sm_callVI (n := n + 60) (args := [.int (xs (6 * t + 1)), .int (xs (6 * t + 2))]) (k := 76) (st := [.int r1]) hx dL_law_803 lv_L_96_12 rfl rfl (t_76 hB) rfl rfl q1 (fun r2 I2 L2 q2 => ?_)
  exact sm_icmpeq (a := r1) (b := r2) hx dL_law_806 (tgt := 1654) (by decide) (fun _ => kk _ _ _ _ _ (by omega) q2.2) (fun z => absurd q2.1 z)
set_option maxRecDepth 100000 in
theorem w_16 (hx : sm_Ok x mL_law (n + 61) K) (hS : sm_Sc x Ls xs) (ht : 6 * t + 6 ≤ Ls) (hI : Inv bn T I L) (hb : bn + 60 < 2 ^ 29) (hl : T.length + 6 < 1000000) (kk : Nx x bc bs T bn t) : sm_V x (bc + 6) (bs + 400) T I L 811 (lawL t a5 a6) [] := by
  obtain ⟨A, W, H, S, N, R, ν, lb, hR, hA⟩ := hI
  have hB := hR.hB
  refine V_more (bc := bc) (bs := bs) ?_ (Nat.le_add_right _ _) (Nat.le_add_right _ _)
  refine sm_aload_n (i := 1) (z := 0) hx dL_law_811 rfl ?_
  refine rdS (k := 1) hx hS ht (by decide) (by decide) dL_law_812 dL_law_813 dL_law_815 dL_law_816 dL_law_817 ?_
  refine rdS (k := 2) hx hS ht (by decide) (by decide) dL_law_818 dL_law_819 dL_law_821 dL_law_822 dL_law_823 ?_
  refine sm_callVI (n := n + 60) (args := [.int (xs (6 * t + 1)), .int (xs (6 * t + 2))]) (k := 0) (st := []) hx dL_law_824 lv_L_97_11 rfl rfl (t_0 hB) rfl rfl (p_carries (n := n + 40) (G := fun r1 r2 I2 L2 => r1 = r2 ∧ Inv (bn + 60) T I2 L2) hR (fun _ _ _ hR' => ⟨rfl, Inv_up hR' hA hb⟩)) (fun r1 I1 L1 q1 => ?_)
  refine sm_aload_n (i := 2) (z := 76) hx dL_law_827 rfl ?_
  refine rdS (k := 1) hx hS ht (by decide) (by decide) dL_law_828 dL_law_829 dL_law_831 dL_law_832 dL_law_833 ?_
  refine rdS (k := 2) hx hS ht (by decide) (by decide) dL_law_834 dL_law_835 dL_law_837 dL_law_838 dL_law_839 ?_
  refine sm_callVI (n := n + 60) (args := [.int (xs (6 * t + 1)), .int (xs (6 * t + 2))]) (k := 76) (st := [.int r1]) hx dL_law_840 lv_L_100_12 rfl rfl (t_76 hB) rfl rfl q1 (fun r2 I2 L2 q2 => ?_)
  exact sm_icmpeq (a := r1) (b := r2) hx dL_law_843 (tgt := 1654) (by decide) (fun _ => kk _ _ _ _ _ (by omega) q2.2) (fun z => absurd q2.1 z)
set_option maxRecDepth 100000 in
theorem w_17 (hx : sm_Ok x mL_law (n + 61) K) (hS : sm_Sc x Ls xs) (ht : 6 * t + 6 ≤ Ls) (hI : Inv bn T I L) (hb : bn + 60 < 2 ^ 29) (hl : T.length + 6 < 1000000) (kk : Nx x bc bs T bn t) : sm_V x (bc + 6) (bs + 400) T I L 848 (lawL t a5 a6) [] := by
  obtain ⟨A, W, H, S, N, R, ν, lb, hR, hA⟩ := hI
  have hB := hR.hB
  refine V_more (bc := bc) (bs := bs) ?_ (Nat.le_add_right _ _) (Nat.le_add_right _ _)
  refine sm_aload_n (i := 1) (z := 0) hx dL_law_848 rfl ?_
  refine rdS (k := 1) hx hS ht (by decide) (by decide) dL_law_849 dL_law_850 dL_law_852 dL_law_853 dL_law_854 ?_
  refine rdS (k := 2) hx hS ht (by decide) (by decide) dL_law_855 dL_law_856 dL_law_858 dL_law_859 dL_law_860 ?_
  refine sm_callVI (n := n + 60) (args := [.int (xs (6 * t + 1)), .int (xs (6 * t + 2))]) (k := 0) (st := []) hx dL_law_861 lv_L_101_11 rfl rfl (t_0 hB) rfl rfl (p_touched (n := n + 40) (G := fun r1 r2 I2 L2 => r1 = r2 ∧ Inv (bn + 60) T I2 L2) hR (fun _ _ _ hR' => ⟨rfl, Inv_up hR' hA hb⟩)) (fun r1 I1 L1 q1 => ?_)
  refine sm_aload_n (i := 2) (z := 76) hx dL_law_864 rfl ?_
  refine rdS (k := 1) hx hS ht (by decide) (by decide) dL_law_865 dL_law_866 dL_law_868 dL_law_869 dL_law_870 ?_
  refine rdS (k := 2) hx hS ht (by decide) (by decide) dL_law_871 dL_law_872 dL_law_874 dL_law_875 dL_law_876 ?_
  refine sm_callVI (n := n + 60) (args := [.int (xs (6 * t + 1)), .int (xs (6 * t + 2))]) (k := 76) (st := [.int r1]) hx dL_law_877 lv_L_104_12 rfl rfl (t_76 hB) rfl rfl q1 (fun r2 I2 L2 q2 => ?_)
  exact sm_icmpeq (a := r1) (b := r2) hx dL_law_880 (tgt := 1654) (by decide) (fun _ => kk _ _ _ _ _ (by omega) q2.2) (fun z => absurd q2.1 z)
set_option maxRecDepth 100000 in
theorem w_18 (hx : sm_Ok x mL_law (n + 61) K) (hS : sm_Sc x Ls xs) (ht : 6 * t + 6 ≤ Ls) (hI : Inv bn T I L) (hb : bn + 60 < 2 ^ 29) (hl : T.length + 6 < 1000000) (kk : Nx x bc bs T bn t) : sm_V x (bc + 6) (bs + 400) T I L 885 (lawL t a5 a6) [] := by
  obtain ⟨A, W, H, S, N, R, ν, lb, hR, hA⟩ := hI
  have hB := hR.hB
  refine V_more (bc := bc) (bs := bs) ?_ (Nat.le_add_right _ _) (Nat.le_add_right _ _)
  refine sm_aload_n (i := 1) (z := 0) hx dL_law_885 rfl ?_
  refine rdS (k := 1) hx hS ht (by decide) (by decide) dL_law_886 dL_law_887 dL_law_889 dL_law_890 dL_law_891 ?_
  refine rdS (k := 2) hx hS ht (by decide) (by decide) dL_law_892 dL_law_893 dL_law_895 dL_law_896 dL_law_897 ?_
  refine sm_callVI (n := n + 60) (args := [.int (xs (6 * t + 1)), .int (xs (6 * t + 2))]) (k := 0) (st := []) hx dL_law_898 lv_L_105_11 rfl rfl (t_0 hB) rfl rfl (p_empty (n := n + 40) (G := fun r1 r2 I2 L2 => r1 = r2 ∧ Inv (bn + 60) T I2 L2) hR (fun _ _ _ hR' => ⟨rfl, Inv_up hR' hA hb⟩)) (fun r1 I1 L1 q1 => ?_)
  refine sm_aload_n (i := 2) (z := 76) hx dL_law_901 rfl ?_
  refine rdS (k := 1) hx hS ht (by decide) (by decide) dL_law_902 dL_law_903 dL_law_905 dL_law_906 dL_law_907 ?_
  refine rdS (k := 2) hx hS ht (by decide) (by decide) dL_law_908 dL_law_909 dL_law_911 dL_law_912 dL_law_913 ?_
  refine sm_callVI (n := n + 60) (args := [.int (xs (6 * t + 1)), .int (xs (6 * t + 2))]) (k := 76) (st := [.int r1]) hx dL_law_914 lv_L_108_12 rfl rfl (t_76 hB) rfl rfl q1 (fun r2 I2 L2 q2 => ?_)
  exact sm_icmpeq (a := r1) (b := r2) hx dL_law_917 (tgt := 1654) (by decide) (fun _ => kk _ _ _ _ _ (by omega) q2.2) (fun z => absurd q2.1 z)
set_option maxRecDepth 100000 in
theorem w_19 (hx : sm_Ok x mL_law (n + 61) K) (hS : sm_Sc x Ls xs) (ht : 6 * t + 6 ≤ Ls) (hI : Inv bn T I L) (hb : bn + 60 < 2 ^ 29) (hl : T.length + 6 < 1000000) (kk : Nx x bc bs T bn t) : sm_V x (bc + 6) (bs + 400) T I L 922 (lawL t a5 a6) [] := by
  obtain ⟨A, W, H, S, N, R, ν, lb, hR, hA⟩ := hI
  have hB := hR.hB
  refine V_more (bc := bc) (bs := bs) ?_ (Nat.le_add_right _ _) (Nat.le_add_right _ _)
  refine sm_aload_n (i := 1) (z := 0) hx dL_law_922 rfl ?_
  refine rdS (k := 1) hx hS ht (by decide) (by decide) dL_law_923 dL_law_924 dL_law_926 dL_law_927 dL_law_928 ?_
  refine rdS (k := 2) hx hS ht (by decide) (by decide) dL_law_929 dL_law_930 dL_law_932 dL_law_933 dL_law_934 ?_
  refine rdS (k := 3) hx hS ht (by decide) (by decide) dL_law_935 dL_law_936 dL_law_938 dL_law_939 dL_law_940 ?_
  refine rdS (k := 4) hx hS ht (by decide) (by decide) dL_law_941 dL_law_942 dL_law_944 dL_law_945 dL_law_946 ?_
  refine sm_callVI (n := n + 60) (args := [.int (xs (6 * t + 1)), .int (xs (6 * t + 2)), .int (xs (6 * t + 3)), .int (xs (6 * t + 4))]) (k := 0) (st := []) hx dL_law_947 lv_L_109_11 rfl rfl (t_0 hB) rfl rfl (p_met (n := n + 40) (G := fun r1 r2 I2 L2 => r1 = r2 ∧ Inv (bn + 60) T I2 L2) hR (fun _ _ _ hR' => ⟨rfl, Inv_up hR' hA hb⟩)) (fun r1 I1 L1 q1 => ?_)
  refine sm_aload_n (i := 2) (z := 76) hx dL_law_950 rfl ?_
  refine rdS (k := 1) hx hS ht (by decide) (by decide) dL_law_951 dL_law_952 dL_law_954 dL_law_955 dL_law_956 ?_
  refine rdS (k := 2) hx hS ht (by decide) (by decide) dL_law_957 dL_law_958 dL_law_960 dL_law_961 dL_law_962 ?_
  refine rdS (k := 3) hx hS ht (by decide) (by decide) dL_law_963 dL_law_964 dL_law_966 dL_law_967 dL_law_968 ?_
  refine rdS (k := 4) hx hS ht (by decide) (by decide) dL_law_969 dL_law_970 dL_law_972 dL_law_973 dL_law_974 ?_
  refine sm_callVI (n := n + 60) (args := [.int (xs (6 * t + 1)), .int (xs (6 * t + 2)), .int (xs (6 * t + 3)), .int (xs (6 * t + 4))]) (k := 76) (st := [.int r1]) hx dL_law_975 lv_L_113_12 rfl rfl (t_76 hB) rfl rfl q1 (fun r2 I2 L2 q2 => ?_)
  exact sm_icmpeq (a := r1) (b := r2) hx dL_law_978 (tgt := 1654) (by decide) (fun _ => kk _ _ _ _ _ (by omega) q2.2) (fun z => absurd q2.1 z)
end

/-! ===== the law's cases, from 0 ===== -/
theorem lw_c0 {κ : Kx} {E : En} {Q : State → Prop} {k n : Nat} {i : Int32} {M : Wd} (hi1 : vp_in (i + (1 : Int32)) E.2.2.2.2.1) (hi2 : vp_in (i + (2 : Int32)) E.2.2.2.2.1) (hi3 : vp_in (i + (3 : Int32)) E.2.2.2.2.1) (hM : Inv M) (hk : k + 2 ≤ 601024) (hn : n + 12 ≤ 7293034) (kk : ∀ M', Inv M' → J κ E mi_law Q (k + 2) (n + 12) [(0, .ref 63), (1, .ref 0), (2, .ref 53), (3, .ref 62), (4, .int i)] M' 1976 []) : J κ E mi_law Q k n [(0, .ref 63), (1, .ref 0), (2, .ref 53), (3, .ref 62), (4, .int i)] M 252 [] := by
  obtain ⟨r, M1, b, M2, e1, e2, e3, e4, e5⟩ := t_addCar (E.2.2.2.2.2 (i + (1 : Int32)).toNatClampNeg) (E.2.2.2.2.2 (i + (2 : Int32)).toNatClampNeg) (E.2.2.2.2.2 (i + (3 : Int32)).toNatClampNeg) M hM
  have hend : J κ E mi_law Q (k + 1) (n + 6) [(0, .ref 63), (1, .ref 0), (2, .ref 53), (3, .ref 62), (4, .int i), (5, .int r), (6, .int b)] M2 329 [] := by
    refine J_goto (pc := 329) (tgt := 1976) dL_law_329 rfl ?_
    refine J_wide (k' := k + 2) (n' := n + 12) (by omega) (by omega) ?_
    refine J_sub (L' := [(0, .ref 63), (1, .ref 0), (2, .ref 53), (3, .ref 62), (4, .int i)]) [0, 1, 2, 3, 4] rfl ?_
    exact kk _ e5
  refine J_aload_n (pc := 252) dL_law_252 rfl 1 rfl ?_
  refine J_aload_n (pc := 253) dL_law_253 rfl 0 rfl ?_
  refine J_iload (pc := 254) dL_law_254 4 rfl ?_
  refine J_iconst (v := (1 : Int32)) (pc := 256) dL_law_256 (by decide) ?_
  refine J_iadd (pc := 257) dL_law_257 ?_
  refine J_sld (pc := 258) hi1 dL_law_258 ?_
  refine J_aload_n (pc := 259) dL_law_259 rfl 0 rfl ?_
  refine J_iload (pc := 260) dL_law_260 4 rfl ?_
  refine J_iconst (v := (2 : Int32)) (pc := 262) dL_law_262 (by decide) ?_
  refine J_iadd (pc := 263) dL_law_263 ?_
  refine J_sld (pc := 264) hi2 dL_law_264 ?_
  refine J_aload_n (pc := 265) dL_law_265 rfl 0 rfl ?_
  refine J_iload (pc := 266) dL_law_266 4 rfl ?_
  refine J_iconst (v := (3 : Int32)) (pc := 268) dL_law_268 (by decide) ?_
  refine J_iadd (pc := 269) dL_law_269 ?_
  refine J_sld (pc := 270) hi3 dL_law_270 ?_
  refine J_aload_n (pc := 271) dL_law_271 rfl 3 rfl ?_
  refine J_callSX (g := mi_L_addCar) (pc := 272) [.ref 0, .int (E.2.2.2.2.2 (i + (1 : Int32)).toNatClampNeg), .int (E.2.2.2.2.2 (i + (2 : Int32)).toNatClampNeg), .int (E.2.2.2.2.2 (i + (3 : Int32)).toNatClampNeg), .ref 62] [] ms_L_addCar w_615 (k_L_addCar_0_62 (E.2.2.2.2.2 (i + (1 : Int32)).toNatClampNeg) (E.2.2.2.2.2 (i + (2 : Int32)).toNatClampNeg) (E.2.2.2.2.2 (i + (3 : Int32)).toNatClampNeg) _ e1) rfl rfl (rm_law (Nat.le_of_ble_eq_true rfl) (Nat.le_of_ble_eq_true rfl) (show k + 1 ≤ 601024 by omega) (show n + 6 ≤ 7293034 by omega)) (Nat.le_of_ble_eq_true rfl) dL_law_272 (Jk_vk (k + 1) (n + 6) rfl rfl fun _ => ?_)
  refine J_istore (pc := 275) (L' := [(0, .ref 63), (1, .ref 0), (2, .ref 53), (3, .ref 62), (4, .int i), (5, .int r)]) dL_law_275 (by decide) [1, 2, 3, 4, 5, 0] rfl ?_
  refine J_aload_n (pc := 277) dL_law_277 rfl 2 rfl ?_
  refine J_aload_n (pc := 278) dL_law_278 rfl 0 rfl ?_
  refine J_iload (pc := 279) dL_law_279 4 rfl ?_
  refine J_iconst (v := (1 : Int32)) (pc := 281) dL_law_281 (by decide) ?_
  refine J_iadd (pc := 282) dL_law_282 ?_
  refine J_sld (pc := 283) hi1 dL_law_283 ?_
  refine J_aload_n (pc := 284) dL_law_284 rfl 0 rfl ?_
  refine J_iload (pc := 285) dL_law_285 4 rfl ?_
  refine J_iconst (v := (2 : Int32)) (pc := 287) dL_law_287 (by decide) ?_
  refine J_iadd (pc := 288) dL_law_288 ?_
  refine J_sld (pc := 289) hi2 dL_law_289 ?_
  refine J_aload_n (pc := 290) dL_law_290 rfl 0 rfl ?_
  refine J_iload (pc := 291) dL_law_291 4 rfl ?_
  refine J_iconst (v := (3 : Int32)) (pc := 293) dL_law_293 (by decide) ?_
  refine J_iadd (pc := 294) dL_law_294 ?_
  refine J_sld (pc := 295) hi3 dL_law_295 ?_
  refine J_callV (g := mi_X4_addCar) (ci := 4) (pc := 296) [.int (E.2.2.2.2.2 (i + (1 : Int32)).toNatClampNeg), .int (E.2.2.2.2.2 (i + (2 : Int32)).toNatClampNeg), .int (E.2.2.2.2.2 (i + (3 : Int32)).toNatClampNeg)] [] mv_X4_addCar w_1095 (k_X4_addCar (E.2.2.2.2.2 (i + (1 : Int32)).toNatClampNeg) (E.2.2.2.2.2 (i + (2 : Int32)).toNatClampNeg) (E.2.2.2.2.2 (i + (3 : Int32)).toNatClampNeg) _ e2) rfl (by decide) rfl rfl rfl (rm_law (Nat.le_of_ble_eq_true rfl) (Nat.le_of_ble_eq_true rfl) (show (k + 1) + 0 ≤ 601024 by omega) (show (n + 6) + 0 ≤ 7293034 by omega)) (Nat.le_of_ble_eq_true rfl) dL_law_296 (Jk_v rfl rfl fun _ => ?_)
  refine J_istore (pc := 299) (L' := [(0, .ref 63), (1, .ref 0), (2, .ref 53), (3, .ref 62), (4, .int i), (5, .int r), (6, .int b)]) dL_law_299 (by decide) [1, 2, 3, 4, 5, 6, 0] rfl ?_
  refine J_aload_n (pc := 301) dL_law_301 rfl 2 rfl ?_
  refine J_callV (g := mi_X4_thrown) (ci := 4) (pc := 302) [] [] mv_X4_thrown w_1091 (k_X4_thrown _) rfl (by decide) rfl rfl rfl (rm_law (Nat.le_of_ble_eq_true rfl) (Nat.le_of_ble_eq_true rfl) (show (k + 1) + 0 ≤ 601024 by omega) (show (n + 6) + 0 ≤ 7293034 by omega)) (Nat.le_of_ble_eq_true rfl) dL_law_302 (Jk_v rfl rfl fun _ => ?_)
  refine J_iload (pc := 305) dL_law_305 5 rfl ?_
  refine J_icmp_eq (pc := 307) (tgt := 312) dL_law_307 rfl (fun _ => ?_) (fun h => absurd e3 h)
  refine J_iload (pc := 312) dL_law_312 5 rfl ?_
  refine J_if_ne (pc := 314) (tgt := 329) dL_law_314 rfl (fun _ => hend) (fun hr => ?_)
  refine J_aload_n (pc := 317) dL_law_317 rfl 3 rfl ?_
  refine J_iconst (v := (0 : Int32)) (pc := 318) dL_law_318 (by decide) ?_
  refine J_lald (pc := 319) (i := (0 : Int32)) vin0 dL_law_319 ?_
  refine J_iload (pc := 320) dL_law_320 6 rfl ?_
  refine J_i2l (pc := 322) dL_law_322 ?_
  refine J_lcmp (pc := 323) dL_law_323 ?_
  exact J_if_eq (pc := 324) (tgt := 329) dL_law_324 rfl (fun _ => hend) (fun h => absurd (lg_self (e4 hr)) h)
theorem lw_c1 {κ : Kx} {E : En} {Q : State → Prop} {k n : Nat} {i : Int32} {M : Wd} (hi1 : vp_in (i + (1 : Int32)) E.2.2.2.2.1) (hi2 : vp_in (i + (2 : Int32)) E.2.2.2.2.1) (hi3 : vp_in (i + (3 : Int32)) E.2.2.2.2.1) (hM : Inv M) (hk : k + 2 ≤ 601024) (hn : n + 12 ≤ 7293034) (kk : ∀ M', Inv M' → J κ E mi_law Q (k + 2) (n + 12) [(0, .ref 63), (1, .ref 0), (2, .ref 53), (3, .ref 62), (4, .int i)] M' 1976 []) : J κ E mi_law Q k n [(0, .ref 63), (1, .ref 0), (2, .ref 53), (3, .ref 62), (4, .int i)] M 332 [] := by
  obtain ⟨r, M1, b, M2, e1, e2, e3, e4, e5⟩ := t_dropLast M hM
  have hend : J κ E mi_law Q (k + 1) (n + 6) [(0, .ref 63), (1, .ref 0), (2, .ref 53), (3, .ref 62), (4, .int i), (5, .int r), (6, .int b)] M2 373 [] := by
    refine J_goto (pc := 373) (tgt := 1976) dL_law_373 rfl ?_
    refine J_wide (k' := k + 2) (n' := n + 12) (by omega) (by omega) ?_
    refine J_sub (L' := [(0, .ref 63), (1, .ref 0), (2, .ref 53), (3, .ref 62), (4, .int i)]) [0, 1, 2, 3, 4] rfl ?_
    exact kk _ e5
  refine J_aload_n (pc := 332) dL_law_332 rfl 1 rfl ?_
  refine J_aload_n (pc := 333) dL_law_333 rfl 3 rfl ?_
  refine J_callSX (g := mi_L_dropLast) (pc := 334) [.ref 0, .ref 62] [] ms_L_dropLast w_736 (k_L_dropLast_0_62 _ e1) rfl rfl (rm_law (Nat.le_of_ble_eq_true rfl) (Nat.le_of_ble_eq_true rfl) (show k + 1 ≤ 601024 by omega) (show n + 6 ≤ 7293034 by omega)) (Nat.le_of_ble_eq_true rfl) dL_law_334 (Jk_vk (k + 1) (n + 6) rfl rfl fun _ => ?_)
  refine J_istore (pc := 337) (L' := [(0, .ref 63), (1, .ref 0), (2, .ref 53), (3, .ref 62), (4, .int i), (5, .int r)]) dL_law_337 (by decide) [1, 2, 3, 4, 5, 0] rfl ?_
  refine J_aload_n (pc := 339) dL_law_339 rfl 2 rfl ?_
  refine J_callV (g := mi_X4_dropLast) (ci := 4) (pc := 340) [] [] mv_X4_dropLast w_1135 (k_X4_dropLast _ e2) rfl (by decide) rfl rfl rfl (rm_law (Nat.le_of_ble_eq_true rfl) (Nat.le_of_ble_eq_true rfl) (show (k + 1) + 0 ≤ 601024 by omega) (show (n + 6) + 0 ≤ 7293034 by omega)) (Nat.le_of_ble_eq_true rfl) dL_law_340 (Jk_v rfl rfl fun _ => ?_)
  refine J_istore (pc := 343) (L' := [(0, .ref 63), (1, .ref 0), (2, .ref 53), (3, .ref 62), (4, .int i), (5, .int r), (6, .int b)]) dL_law_343 (by decide) [1, 2, 3, 4, 5, 6, 0] rfl ?_
  refine J_aload_n (pc := 345) dL_law_345 rfl 2 rfl ?_
  refine J_callV (g := mi_X4_thrown) (ci := 4) (pc := 346) [] [] mv_X4_thrown w_1091 (k_X4_thrown _) rfl (by decide) rfl rfl rfl (rm_law (Nat.le_of_ble_eq_true rfl) (Nat.le_of_ble_eq_true rfl) (show (k + 1) + 0 ≤ 601024 by omega) (show (n + 6) + 0 ≤ 7293034 by omega)) (Nat.le_of_ble_eq_true rfl) dL_law_346 (Jk_v rfl rfl fun _ => ?_)
  refine J_iload (pc := 349) dL_law_349 5 rfl ?_
  refine J_icmp_eq (pc := 351) (tgt := 356) dL_law_351 rfl (fun _ => ?_) (fun h => absurd e3 h)
  refine J_iload (pc := 356) dL_law_356 5 rfl ?_
  refine J_if_ne (pc := 358) (tgt := 373) dL_law_358 rfl (fun _ => hend) (fun hr => ?_)
  refine J_aload_n (pc := 361) dL_law_361 rfl 3 rfl ?_
  refine J_iconst (v := (0 : Int32)) (pc := 362) dL_law_362 (by decide) ?_
  refine J_lald (pc := 363) (i := (0 : Int32)) vin0 dL_law_363 ?_
  refine J_iload (pc := 364) dL_law_364 6 rfl ?_
  refine J_i2l (pc := 366) dL_law_366 ?_
  refine J_lcmp (pc := 367) dL_law_367 ?_
  exact J_if_eq (pc := 368) (tgt := 373) dL_law_368 rfl (fun _ => hend) (fun h => absurd (lg_self (e4 hr)) h)
theorem lw_c2 {κ : Kx} {E : En} {Q : State → Prop} {k n : Nat} {i : Int32} {M : Wd} (hi1 : vp_in (i + (1 : Int32)) E.2.2.2.2.1) (hi2 : vp_in (i + (2 : Int32)) E.2.2.2.2.1) (hi3 : vp_in (i + (3 : Int32)) E.2.2.2.2.1) (hM : Inv M) (hk : k + 2 ≤ 601024) (hn : n + 12 ≤ 7293034) (kk : ∀ M', Inv M' → J κ E mi_law Q (k + 2) (n + 12) [(0, .ref 63), (1, .ref 0), (2, .ref 53), (3, .ref 62), (4, .int i)] M' 1976 []) : J κ E mi_law Q k n [(0, .ref 63), (1, .ref 0), (2, .ref 53), (3, .ref 62), (4, .int i)] M 376 [] := by
  obtain ⟨r, M1, b, M2, e1, e2, e3, e4, -, e5⟩ := t_toggleWall (E.2.2.2.2.2 (i + (1 : Int32)).toNatClampNeg) M hM
  have hend : J κ E mi_law Q (k + 1) (n + 6) [(0, .ref 63), (1, .ref 0), (2, .ref 53), (3, .ref 62), (4, .int i), (5, .int r), (6, .int b)] M2 436 [] := by
    refine J_goto (pc := 436) (tgt := 1976) dL_law_436 rfl ?_
    refine J_wide (k' := k + 2) (n' := n + 12) (by omega) (by omega) ?_
    refine J_sub (L' := [(0, .ref 63), (1, .ref 0), (2, .ref 53), (3, .ref 62), (4, .int i)]) [0, 1, 2, 3, 4] rfl ?_
    exact kk _ e5
  refine J_aload_n (pc := 376) dL_law_376 rfl 1 rfl ?_
  refine J_aload_n (pc := 377) dL_law_377 rfl 0 rfl ?_
  refine J_iload (pc := 378) dL_law_378 4 rfl ?_
  refine J_iconst (v := (1 : Int32)) (pc := 380) dL_law_380 (by decide) ?_
  refine J_iadd (pc := 381) dL_law_381 ?_
  refine J_sld (pc := 382) hi1 dL_law_382 ?_
  refine J_aload_n (pc := 383) dL_law_383 rfl 3 rfl ?_
  refine J_callSX (g := mi_L_toggleWall) (pc := 384) [.ref 0, .int (E.2.2.2.2.2 (i + (1 : Int32)).toNatClampNeg), .ref 62] [] ms_L_toggleWall w_748 (k_L_toggleWall_0_62 (E.2.2.2.2.2 (i + (1 : Int32)).toNatClampNeg) _ e1) rfl rfl (rm_law (Nat.le_of_ble_eq_true rfl) (Nat.le_of_ble_eq_true rfl) (show k + 1 ≤ 601024 by omega) (show n + 6 ≤ 7293034 by omega)) (Nat.le_of_ble_eq_true rfl) dL_law_384 (Jk_vk (k + 1) (n + 6) rfl rfl fun _ => ?_)
  refine J_istore (pc := 387) (L' := [(0, .ref 63), (1, .ref 0), (2, .ref 53), (3, .ref 62), (4, .int i), (5, .int r)]) dL_law_387 (by decide) [1, 2, 3, 4, 5, 0] rfl ?_
  refine J_aload_n (pc := 389) dL_law_389 rfl 2 rfl ?_
  refine J_aload_n (pc := 390) dL_law_390 rfl 0 rfl ?_
  refine J_iload (pc := 391) dL_law_391 4 rfl ?_
  refine J_iconst (v := (1 : Int32)) (pc := 393) dL_law_393 (by decide) ?_
  refine J_iadd (pc := 394) dL_law_394 ?_
  refine J_sld (pc := 395) hi1 dL_law_395 ?_
  refine J_callV (g := mi_X4_toggleWall) (ci := 4) (pc := 396) [.int (E.2.2.2.2.2 (i + (1 : Int32)).toNatClampNeg)] [] mv_X4_toggleWall w_1139 (k_X4_toggleWall (E.2.2.2.2.2 (i + (1 : Int32)).toNatClampNeg) _ e2) rfl (by decide) rfl rfl rfl (rm_law (Nat.le_of_ble_eq_true rfl) (Nat.le_of_ble_eq_true rfl) (show (k + 1) + 0 ≤ 601024 by omega) (show (n + 6) + 0 ≤ 7293034 by omega)) (Nat.le_of_ble_eq_true rfl) dL_law_396 (Jk_v rfl rfl fun _ => ?_)
  refine J_istore (pc := 399) (L' := [(0, .ref 63), (1, .ref 0), (2, .ref 53), (3, .ref 62), (4, .int i), (5, .int r), (6, .int b)]) dL_law_399 (by decide) [1, 2, 3, 4, 5, 6, 0] rfl ?_
  refine J_aload_n (pc := 401) dL_law_401 rfl 2 rfl ?_
  refine J_callV (g := mi_X4_thrown) (ci := 4) (pc := 402) [] [] mv_X4_thrown w_1091 (k_X4_thrown _) rfl (by decide) rfl rfl rfl (rm_law (Nat.le_of_ble_eq_true rfl) (Nat.le_of_ble_eq_true rfl) (show (k + 1) + 0 ≤ 601024 by omega) (show (n + 6) + 0 ≤ 7293034 by omega)) (Nat.le_of_ble_eq_true rfl) dL_law_402 (Jk_v rfl rfl fun _ => ?_)
  refine J_iload (pc := 405) dL_law_405 5 rfl ?_
  refine J_icmp_eq (pc := 407) (tgt := 412) dL_law_407 rfl (fun _ => ?_) (fun h => absurd e3 h)
  refine J_iload (pc := 412) dL_law_412 5 rfl ?_
  refine J_if_ne (pc := 414) (tgt := 436) dL_law_414 rfl (fun _ => hend) (fun hr => ?_)
  refine J_aload_n (pc := 417) dL_law_417 rfl 3 rfl ?_
  refine J_iconst (v := (0 : Int32)) (pc := 418) dL_law_418 (by decide) ?_
  refine J_lald (pc := 419) (i := (0 : Int32)) vin0 dL_law_419 ?_
  refine J_iload (pc := 420) dL_law_420 6 rfl ?_
  refine J_if_eq (pc := 422) (tgt := 429) dL_law_422 rfl (fun hb => ?_) (fun hb => ?_)
  · refine J_lconst (v := (0 : Int64)) (pc := 429) dL_law_429 (by decide) ?_
    refine J_lcmp (pc := 430) dL_law_430 ?_
    exact J_if_eq (pc := 431) (tgt := 436) dL_law_431 rfl (fun _ => hend) (fun h => absurd (lg_self ((e4 hr).trans (if_pos hb))) h)
  · refine J_lconst (v := (1 : Int64)) (pc := 425) dL_law_425 (by decide) ?_
    refine J_goto (pc := 426) (tgt := 430) dL_law_426 rfl ?_
    refine J_lcmp (pc := 430) dL_law_430 ?_
    exact J_if_eq (pc := 431) (tgt := 436) dL_law_431 rfl (fun _ => hend) (fun h => absurd (lg_self ((e4 hr).trans (if_neg hb))) h)
theorem lw_c3 {κ : Kx} {E : En} {Q : State → Prop} {k n : Nat} {i : Int32} {M : Wd} (hi1 : vp_in (i + (1 : Int32)) E.2.2.2.2.1) (hi2 : vp_in (i + (2 : Int32)) E.2.2.2.2.1) (hi3 : vp_in (i + (3 : Int32)) E.2.2.2.2.1) (hM : Inv M) (hk : k + 2 ≤ 601024) (hn : n + 12 ≤ 7293034) (kk : ∀ M', Inv M' → J κ E mi_law Q (k + 2) (n + 12) [(0, .ref 63), (1, .ref 0), (2, .ref 53), (3, .ref 62), (4, .int i)] M' 1976 []) : J κ E mi_law Q k n [(0, .ref 63), (1, .ref 0), (2, .ref 53), (3, .ref 62), (4, .int i)] M 439 [] := by
  obtain ⟨r, M1, b, M2, e1, e2, e3, e4, e5⟩ := t_slide (E.2.2.2.2.2 (i + (1 : Int32)).toNatClampNeg) (E.2.2.2.2.2 (i + (2 : Int32)).toNatClampNeg) M hM
  have hend : J κ E mi_law Q (k + 2) (n + 12) [(0, .ref 63), (1, .ref 0), (2, .ref 53), (3, .ref 62), (4, .int i), (5, .int r), (6, .int b)] M2 504 [] := by
    refine J_goto (pc := 504) (tgt := 1976) dL_law_504 rfl ?_
    refine J_wide (k' := k + 2) (n' := n + 12) (by omega) (by omega) ?_
    refine J_sub (L' := [(0, .ref 63), (1, .ref 0), (2, .ref 53), (3, .ref 62), (4, .int i)]) [0, 1, 2, 3, 4] rfl ?_
    exact kk _ e5
  refine J_aload_n (pc := 439) dL_law_439 rfl 1 rfl ?_
  refine J_aload_n (pc := 440) dL_law_440 rfl 0 rfl ?_
  refine J_iload (pc := 441) dL_law_441 4 rfl ?_
  refine J_iconst (v := (1 : Int32)) (pc := 443) dL_law_443 (by decide) ?_
  refine J_iadd (pc := 444) dL_law_444 ?_
  refine J_sld (pc := 445) hi1 dL_law_445 ?_
  refine J_aload_n (pc := 446) dL_law_446 rfl 0 rfl ?_
  refine J_iload (pc := 447) dL_law_447 4 rfl ?_
  refine J_iconst (v := (2 : Int32)) (pc := 449) dL_law_449 (by decide) ?_
  refine J_iadd (pc := 450) dL_law_450 ?_
  refine J_sld (pc := 451) hi2 dL_law_451 ?_
  refine J_aload_n (pc := 452) dL_law_452 rfl 3 rfl ?_
  refine J_callSX (g := mi_L_slide) (pc := 453) [.ref 0, .int (E.2.2.2.2.2 (i + (1 : Int32)).toNatClampNeg), .int (E.2.2.2.2.2 (i + (2 : Int32)).toNatClampNeg), .ref 62] [] ms_L_slide w_769 (k_L_slide_0_62 (E.2.2.2.2.2 (i + (1 : Int32)).toNatClampNeg) (E.2.2.2.2.2 (i + (2 : Int32)).toNatClampNeg) _ e1) rfl rfl (rm_law (Nat.le_of_ble_eq_true rfl) (Nat.le_of_ble_eq_true rfl) (show k + 2 ≤ 601024 by omega) (show n + 12 ≤ 7293034 by omega)) (Nat.le_of_ble_eq_true rfl) dL_law_453 (Jk_vk (k + 2) (n + 12) rfl rfl fun _ => ?_)
  refine J_istore (pc := 456) (L' := [(0, .ref 63), (1, .ref 0), (2, .ref 53), (3, .ref 62), (4, .int i), (5, .int r)]) dL_law_456 (by decide) [1, 2, 3, 4, 5, 0] rfl ?_
  refine J_aload_n (pc := 458) dL_law_458 rfl 2 rfl ?_
  refine J_aload_n (pc := 459) dL_law_459 rfl 0 rfl ?_
  refine J_iload (pc := 460) dL_law_460 4 rfl ?_
  refine J_iconst (v := (1 : Int32)) (pc := 462) dL_law_462 (by decide) ?_
  refine J_iadd (pc := 463) dL_law_463 ?_
  refine J_sld (pc := 464) hi1 dL_law_464 ?_
  refine J_aload_n (pc := 465) dL_law_465 rfl 0 rfl ?_
  refine J_iload (pc := 466) dL_law_466 4 rfl ?_
  refine J_iconst (v := (2 : Int32)) (pc := 468) dL_law_468 (by decide) ?_
  refine J_iadd (pc := 469) dL_law_469 ?_
  refine J_sld (pc := 470) hi2 dL_law_470 ?_
  refine J_callV (g := mi_X4_slide) (ci := 4) (pc := 471) [.int (E.2.2.2.2.2 (i + (1 : Int32)).toNatClampNeg), .int (E.2.2.2.2.2 (i + (2 : Int32)).toNatClampNeg)] [] mv_X4_slide w_1162 (k_X4_slide (E.2.2.2.2.2 (i + (1 : Int32)).toNatClampNeg) (E.2.2.2.2.2 (i + (2 : Int32)).toNatClampNeg) _ e2) rfl (by decide) rfl rfl rfl (rm_law (Nat.le_of_ble_eq_true rfl) (Nat.le_of_ble_eq_true rfl) (show (k + 2) + 0 ≤ 601024 by omega) (show (n + 12) + 0 ≤ 7293034 by omega)) (Nat.le_of_ble_eq_true rfl) dL_law_471 (Jk_v rfl rfl fun _ => ?_)
  refine J_istore (pc := 474) (L' := [(0, .ref 63), (1, .ref 0), (2, .ref 53), (3, .ref 62), (4, .int i), (5, .int r), (6, .int b)]) dL_law_474 (by decide) [1, 2, 3, 4, 5, 6, 0] rfl ?_
  refine J_aload_n (pc := 476) dL_law_476 rfl 2 rfl ?_
  refine J_callV (g := mi_X4_thrown) (ci := 4) (pc := 477) [] [] mv_X4_thrown w_1091 (k_X4_thrown _) rfl (by decide) rfl rfl rfl (rm_law (Nat.le_of_ble_eq_true rfl) (Nat.le_of_ble_eq_true rfl) (show (k + 2) + 0 ≤ 601024 by omega) (show (n + 12) + 0 ≤ 7293034 by omega)) (Nat.le_of_ble_eq_true rfl) dL_law_477 (Jk_v rfl rfl fun _ => ?_)
  refine J_iload (pc := 480) dL_law_480 5 rfl ?_
  refine J_icmp_eq (pc := 482) (tgt := 487) dL_law_482 rfl (fun _ => ?_) (fun h => absurd e3 h)
  refine J_iload (pc := 487) dL_law_487 5 rfl ?_
  refine J_if_ne (pc := 489) (tgt := 504) dL_law_489 rfl (fun _ => hend) (fun hr => ?_)
  refine J_aload_n (pc := 492) dL_law_492 rfl 3 rfl ?_
  refine J_iconst (v := (0 : Int32)) (pc := 493) dL_law_493 (by decide) ?_
  refine J_lald (pc := 494) (i := (0 : Int32)) vin0 dL_law_494 ?_
  refine J_iload (pc := 495) dL_law_495 6 rfl ?_
  refine J_i2l (pc := 497) dL_law_497 ?_
  refine J_lcmp (pc := 498) dL_law_498 ?_
  exact J_if_eq (pc := 499) (tgt := 504) dL_law_499 rfl (fun _ => hend) (fun h => absurd (lg_self (e4 hr)) h)
theorem lw_c4 {κ : Kx} {E : En} {Q : State → Prop} {k n : Nat} {i : Int32} {M : Wd} (hi1 : vp_in (i + (1 : Int32)) E.2.2.2.2.1) (hi2 : vp_in (i + (2 : Int32)) E.2.2.2.2.1) (hi3 : vp_in (i + (3 : Int32)) E.2.2.2.2.1) (hM : Inv M) (hk : k + 2 ≤ 601024) (hn : n + 12 ≤ 7293034) (kk : ∀ M', Inv M' → J κ E mi_law Q (k + 2) (n + 12) [(0, .ref 63), (1, .ref 0), (2, .ref 53), (3, .ref 62), (4, .int i)] M' 1976 []) : J κ E mi_law Q k n [(0, .ref 63), (1, .ref 0), (2, .ref 53), (3, .ref 62), (4, .int i)] M 507 [] := by
  obtain ⟨r, M1, b, M2, e1, e2, e3, e4, e5⟩ := t_takeBack M hM
  have hend : J κ E mi_law Q (k + 1) (n + 6) [(0, .ref 63), (1, .ref 0), (2, .ref 53), (3, .ref 62), (4, .int i), (5, .int r), (6, .int b)] M2 548 [] := by
    refine J_goto (pc := 548) (tgt := 1976) dL_law_548 rfl ?_
    refine J_wide (k' := k + 2) (n' := n + 12) (by omega) (by omega) ?_
    refine J_sub (L' := [(0, .ref 63), (1, .ref 0), (2, .ref 53), (3, .ref 62), (4, .int i)]) [0, 1, 2, 3, 4] rfl ?_
    exact kk _ e5
  refine J_aload_n (pc := 507) dL_law_507 rfl 1 rfl ?_
  refine J_aload_n (pc := 508) dL_law_508 rfl 3 rfl ?_
  refine J_callSX (g := mi_L_takeBack) (pc := 509) [.ref 0, .ref 62] [] ms_L_takeBack w_786 (k_L_takeBack_0_62 _ e1) rfl rfl (rm_law (Nat.le_of_ble_eq_true rfl) (Nat.le_of_ble_eq_true rfl) (show k + 1 ≤ 601024 by omega) (show n + 6 ≤ 7293034 by omega)) (Nat.le_of_ble_eq_true rfl) dL_law_509 (Jk_vk (k + 1) (n + 6) rfl rfl fun _ => ?_)
  refine J_istore (pc := 512) (L' := [(0, .ref 63), (1, .ref 0), (2, .ref 53), (3, .ref 62), (4, .int i), (5, .int r)]) dL_law_512 (by decide) [1, 2, 3, 4, 5, 0] rfl ?_
  refine J_aload_n (pc := 514) dL_law_514 rfl 2 rfl ?_
  refine J_callV (g := mi_X4_takeBack) (ci := 4) (pc := 515) [] [] mv_X4_takeBack w_1186 (k_X4_takeBack _ e2) rfl (by decide) rfl rfl rfl (rm_law (Nat.le_of_ble_eq_true rfl) (Nat.le_of_ble_eq_true rfl) (show (k + 1) + 0 ≤ 601024 by omega) (show (n + 6) + 0 ≤ 7293034 by omega)) (Nat.le_of_ble_eq_true rfl) dL_law_515 (Jk_v rfl rfl fun _ => ?_)
  refine J_istore (pc := 518) (L' := [(0, .ref 63), (1, .ref 0), (2, .ref 53), (3, .ref 62), (4, .int i), (5, .int r), (6, .int b)]) dL_law_518 (by decide) [1, 2, 3, 4, 5, 6, 0] rfl ?_
  refine J_aload_n (pc := 520) dL_law_520 rfl 2 rfl ?_
  refine J_callV (g := mi_X4_thrown) (ci := 4) (pc := 521) [] [] mv_X4_thrown w_1091 (k_X4_thrown _) rfl (by decide) rfl rfl rfl (rm_law (Nat.le_of_ble_eq_true rfl) (Nat.le_of_ble_eq_true rfl) (show (k + 1) + 0 ≤ 601024 by omega) (show (n + 6) + 0 ≤ 7293034 by omega)) (Nat.le_of_ble_eq_true rfl) dL_law_521 (Jk_v rfl rfl fun _ => ?_)
  refine J_iload (pc := 524) dL_law_524 5 rfl ?_
  refine J_icmp_eq (pc := 526) (tgt := 531) dL_law_526 rfl (fun _ => ?_) (fun h => absurd e3 h)
  refine J_iload (pc := 531) dL_law_531 5 rfl ?_
  refine J_if_ne (pc := 533) (tgt := 548) dL_law_533 rfl (fun _ => hend) (fun hr => ?_)
  refine J_aload_n (pc := 536) dL_law_536 rfl 3 rfl ?_
  refine J_iconst (v := (0 : Int32)) (pc := 537) dL_law_537 (by decide) ?_
  refine J_lald (pc := 538) (i := (0 : Int32)) vin0 dL_law_538 ?_
  refine J_iload (pc := 539) dL_law_539 6 rfl ?_
  refine J_i2l (pc := 541) dL_law_541 ?_
  refine J_lcmp (pc := 542) dL_law_542 ?_
  exact J_if_eq (pc := 543) (tgt := 548) dL_law_543 rfl (fun _ => hend) (fun h => absurd (lg_self (e4 hr)) h)
theorem lw_c5 {κ : Kx} {E : En} {Q : State → Prop} {k n : Nat} {i : Int32} {M : Wd} (hi1 : vp_in (i + (1 : Int32)) E.2.2.2.2.1) (hi2 : vp_in (i + (2 : Int32)) E.2.2.2.2.1) (hi3 : vp_in (i + (3 : Int32)) E.2.2.2.2.1) (hM : Inv M) (hk : k + 2 ≤ 601024) (hn : n + 12 ≤ 7293034) (kk : ∀ M', Inv M' → J κ E mi_law Q (k + 2) (n + 12) [(0, .ref 63), (1, .ref 0), (2, .ref 53), (3, .ref 62), (4, .int i)] M' 1976 []) : J κ E mi_law Q k n [(0, .ref 63), (1, .ref 0), (2, .ref 53), (3, .ref 62), (4, .int i)] M 551 [] := by
  obtain ⟨v, M1, M2, e1, e2, e3⟩ := t_rewind M hM
  refine J_aload_n (pc := 551) dL_law_551 rfl 1 rfl ?_
  refine J_callV (g := mi_X3_rewind) (ci := 3) (pc := 552) [] [] mv_X3_rewind w_238 (k_X3_rewind _ e1) rfl (by decide) rfl rfl rfl (rm_law (Nat.le_of_ble_eq_true rfl) (Nat.le_of_ble_eq_true rfl) (show k + 0 ≤ 601024 by omega) (show n + 0 ≤ 7293034 by omega)) (Nat.le_of_ble_eq_true rfl) dL_law_552 (Jk_v rfl rfl fun _ => ?_)
  refine J_aload_n (pc := 555) dL_law_555 rfl 2 rfl ?_
  refine J_callV (g := mi_X4_rewind) (ci := 4) (pc := 556) [] [.int v] mv_X4_rewind w_1202 (k_X4_rewind _ e2) rfl (by decide) rfl rfl rfl (rm_law (Nat.le_of_ble_eq_true rfl) (Nat.le_of_ble_eq_true rfl) (show k + 0 ≤ 601024 by omega) (show n + 0 ≤ 7293034 by omega)) (Nat.le_of_ble_eq_true rfl) dL_law_556 (Jk_v rfl rfl fun _ => ?_)
  refine J_icmp_eq (pc := 559) (tgt := 1976) dL_law_559 rfl (fun _ => ?_) (fun h => absurd rfl h)
  refine J_wide (k' := k + 2) (n' := n + 12) (by omega) (by omega) ?_
  exact kk _ e3
theorem lw_c6 {κ : Kx} {E : En} {Q : State → Prop} {k n : Nat} {i : Int32} {M : Wd} (hi1 : vp_in (i + (1 : Int32)) E.2.2.2.2.1) (hi2 : vp_in (i + (2 : Int32)) E.2.2.2.2.1) (hi3 : vp_in (i + (3 : Int32)) E.2.2.2.2.1) (hM : Inv M) (hk : k + 2 ≤ 601024) (hn : n + 12 ≤ 7293034) (kk : ∀ M', Inv M' → J κ E mi_law Q (k + 2) (n + 12) [(0, .ref 63), (1, .ref 0), (2, .ref 53), (3, .ref 62), (4, .int i)] M' 1976 []) : J κ E mi_law Q k n [(0, .ref 63), (1, .ref 0), (2, .ref 53), (3, .ref 62), (4, .int i)] M 564 [] := by
  obtain ⟨r, M1, b, M2, e1, e2, e3, e4, e5⟩ := t_driveOut M hM
  have hend : J κ E mi_law Q (k + 1) (n + 6) [(0, .ref 63), (1, .ref 0), (2, .ref 53), (3, .ref 62), (4, .int i), (5, .int r), (6, .int b)] M2 605 [] := by
    refine J_goto (pc := 605) (tgt := 1976) dL_law_605 rfl ?_
    refine J_wide (k' := k + 2) (n' := n + 12) (by omega) (by omega) ?_
    refine J_sub (L' := [(0, .ref 63), (1, .ref 0), (2, .ref 53), (3, .ref 62), (4, .int i)]) [0, 1, 2, 3, 4] rfl ?_
    exact kk _ e5
  refine J_aload_n (pc := 564) dL_law_564 rfl 1 rfl ?_
  refine J_aload_n (pc := 565) dL_law_565 rfl 3 rfl ?_
  refine J_callSX (g := mi_L_driveOut) (pc := 566) [.ref 0, .ref 62] [] ms_L_driveOut w_794 (k_L_driveOut_0_62 _ e1) rfl rfl (rm_law (Nat.le_of_ble_eq_true rfl) (Nat.le_of_ble_eq_true rfl) (show k + 1 ≤ 601024 by omega) (show n + 6 ≤ 7293034 by omega)) (Nat.le_of_ble_eq_true rfl) dL_law_566 (Jk_vk (k + 1) (n + 6) rfl rfl fun _ => ?_)
  refine J_istore (pc := 569) (L' := [(0, .ref 63), (1, .ref 0), (2, .ref 53), (3, .ref 62), (4, .int i), (5, .int r)]) dL_law_569 (by decide) [1, 2, 3, 4, 5, 0] rfl ?_
  refine J_aload_n (pc := 571) dL_law_571 rfl 2 rfl ?_
  refine J_callV (g := mi_X4_driveOut) (ci := 4) (pc := 572) [] [] mv_X4_driveOut w_1206 (k_X4_driveOut _ e2) rfl (by decide) rfl rfl rfl (rm_law (Nat.le_of_ble_eq_true rfl) (Nat.le_of_ble_eq_true rfl) (show (k + 1) + 0 ≤ 601024 by omega) (show (n + 6) + 0 ≤ 7293034 by omega)) (Nat.le_of_ble_eq_true rfl) dL_law_572 (Jk_v rfl rfl fun _ => ?_)
  refine J_istore (pc := 575) (L' := [(0, .ref 63), (1, .ref 0), (2, .ref 53), (3, .ref 62), (4, .int i), (5, .int r), (6, .int b)]) dL_law_575 (by decide) [1, 2, 3, 4, 5, 6, 0] rfl ?_
  refine J_aload_n (pc := 577) dL_law_577 rfl 2 rfl ?_
  refine J_callV (g := mi_X4_thrown) (ci := 4) (pc := 578) [] [] mv_X4_thrown w_1091 (k_X4_thrown _) rfl (by decide) rfl rfl rfl (rm_law (Nat.le_of_ble_eq_true rfl) (Nat.le_of_ble_eq_true rfl) (show (k + 1) + 0 ≤ 601024 by omega) (show (n + 6) + 0 ≤ 7293034 by omega)) (Nat.le_of_ble_eq_true rfl) dL_law_578 (Jk_v rfl rfl fun _ => ?_)
  refine J_iload (pc := 581) dL_law_581 5 rfl ?_
  refine J_icmp_eq (pc := 583) (tgt := 588) dL_law_583 rfl (fun _ => ?_) (fun h => absurd e3 h)
  refine J_iload (pc := 588) dL_law_588 5 rfl ?_
  refine J_if_ne (pc := 590) (tgt := 605) dL_law_590 rfl (fun _ => hend) (fun hr => ?_)
  refine J_aload_n (pc := 593) dL_law_593 rfl 3 rfl ?_
  refine J_iconst (v := (0 : Int32)) (pc := 594) dL_law_594 (by decide) ?_
  refine J_lald (pc := 595) (i := (0 : Int32)) vin0 dL_law_595 ?_
  refine J_iload (pc := 596) dL_law_596 6 rfl ?_
  refine J_i2l (pc := 598) dL_law_598 ?_
  refine J_lcmp (pc := 599) dL_law_599 ?_
  exact J_if_eq (pc := 600) (tgt := 605) dL_law_600 rfl (fun _ => hend) (fun h => absurd (lg_self (e4 hr)) h)
theorem lw_c7 {κ : Kx} {E : En} {Q : State → Prop} {k n : Nat} {i : Int32} {M : Wd} (hi1 : vp_in (i + (1 : Int32)) E.2.2.2.2.1) (hi2 : vp_in (i + (2 : Int32)) E.2.2.2.2.1) (hi3 : vp_in (i + (3 : Int32)) E.2.2.2.2.1) (hM : Inv M) (hk : k + 2 ≤ 601024) (hn : n + 12 ≤ 7293034) (kk : ∀ M', Inv M' → J κ E mi_law Q (k + 2) (n + 12) [(0, .ref 63), (1, .ref 0), (2, .ref 53), (3, .ref 62), (4, .int i)] M' 1976 []) : J κ E mi_law Q k n [(0, .ref 63), (1, .ref 0), (2, .ref 53), (3, .ref 62), (4, .int i)] M 608 [] := by
  obtain ⟨r, M1, b, M2, e1, e2, e3, e4, e5⟩ := t_append (E.2.2.2.2.2 (i + (1 : Int32)).toNatClampNeg) M hM
  have hend : J κ E mi_law Q (k + 1) (n + 6) [(0, .ref 63), (1, .ref 0), (2, .ref 53), (3, .ref 62), (4, .int i), (5, .int r), (6, .int b)] M2 661 [] := by
    refine J_goto (pc := 661) (tgt := 1976) dL_law_661 rfl ?_
    refine J_wide (k' := k + 2) (n' := n + 12) (by omega) (by omega) ?_
    refine J_sub (L' := [(0, .ref 63), (1, .ref 0), (2, .ref 53), (3, .ref 62), (4, .int i)]) [0, 1, 2, 3, 4] rfl ?_
    exact kk _ e5
  refine J_aload_n (pc := 608) dL_law_608 rfl 1 rfl ?_
  refine J_aload_n (pc := 609) dL_law_609 rfl 0 rfl ?_
  refine J_iload (pc := 610) dL_law_610 4 rfl ?_
  refine J_iconst (v := (1 : Int32)) (pc := 612) dL_law_612 (by decide) ?_
  refine J_iadd (pc := 613) dL_law_613 ?_
  refine J_sld (pc := 614) hi1 dL_law_614 ?_
  refine J_aload_n (pc := 615) dL_law_615 rfl 3 rfl ?_
  refine J_callSX (g := mi_L_append) (pc := 616) [.ref 0, .int (E.2.2.2.2.2 (i + (1 : Int32)).toNatClampNeg), .ref 62] [] ms_L_append w_820 (k_L_append_0_62 (E.2.2.2.2.2 (i + (1 : Int32)).toNatClampNeg) _ e1) rfl rfl (rm_law (Nat.le_of_ble_eq_true rfl) (Nat.le_of_ble_eq_true rfl) (show k + 1 ≤ 601024 by omega) (show n + 6 ≤ 7293034 by omega)) (Nat.le_of_ble_eq_true rfl) dL_law_616 (Jk_vk (k + 1) (n + 6) rfl rfl fun _ => ?_)
  refine J_istore (pc := 619) (L' := [(0, .ref 63), (1, .ref 0), (2, .ref 53), (3, .ref 62), (4, .int i), (5, .int r)]) dL_law_619 (by decide) [1, 2, 3, 4, 5, 0] rfl ?_
  refine J_aload_n (pc := 621) dL_law_621 rfl 2 rfl ?_
  refine J_aload_n (pc := 622) dL_law_622 rfl 0 rfl ?_
  refine J_iload (pc := 623) dL_law_623 4 rfl ?_
  refine J_iconst (v := (1 : Int32)) (pc := 625) dL_law_625 (by decide) ?_
  refine J_iadd (pc := 626) dL_law_626 ?_
  refine J_sld (pc := 627) hi1 dL_law_627 ?_
  refine J_callV (g := mi_X4_append) (ci := 4) (pc := 628) [.int (E.2.2.2.2.2 (i + (1 : Int32)).toNatClampNeg)] [] mv_X4_append w_1266 (k_X4_append (E.2.2.2.2.2 (i + (1 : Int32)).toNatClampNeg) _ e2) rfl (by decide) rfl rfl rfl (rm_law (Nat.le_of_ble_eq_true rfl) (Nat.le_of_ble_eq_true rfl) (show (k + 1) + 0 ≤ 601024 by omega) (show (n + 6) + 0 ≤ 7293034 by omega)) (Nat.le_of_ble_eq_true rfl) dL_law_628 (Jk_v rfl rfl fun _ => ?_)
  refine J_istore (pc := 631) (L' := [(0, .ref 63), (1, .ref 0), (2, .ref 53), (3, .ref 62), (4, .int i), (5, .int r), (6, .int b)]) dL_law_631 (by decide) [1, 2, 3, 4, 5, 6, 0] rfl ?_
  refine J_aload_n (pc := 633) dL_law_633 rfl 2 rfl ?_
  refine J_callV (g := mi_X4_thrown) (ci := 4) (pc := 634) [] [] mv_X4_thrown w_1091 (k_X4_thrown _) rfl (by decide) rfl rfl rfl (rm_law (Nat.le_of_ble_eq_true rfl) (Nat.le_of_ble_eq_true rfl) (show (k + 1) + 0 ≤ 601024 by omega) (show (n + 6) + 0 ≤ 7293034 by omega)) (Nat.le_of_ble_eq_true rfl) dL_law_634 (Jk_v rfl rfl fun _ => ?_)
  refine J_iload (pc := 637) dL_law_637 5 rfl ?_
  refine J_icmp_eq (pc := 639) (tgt := 644) dL_law_639 rfl (fun _ => ?_) (fun h => absurd e3 h)
  refine J_iload (pc := 644) dL_law_644 5 rfl ?_
  refine J_if_ne (pc := 646) (tgt := 661) dL_law_646 rfl (fun _ => hend) (fun hr => ?_)
  refine J_aload_n (pc := 649) dL_law_649 rfl 3 rfl ?_
  refine J_iconst (v := (0 : Int32)) (pc := 650) dL_law_650 (by decide) ?_
  refine J_lald (pc := 651) (i := (0 : Int32)) vin0 dL_law_651 ?_
  refine J_iload (pc := 652) dL_law_652 6 rfl ?_
  refine J_i2l (pc := 654) dL_law_654 ?_
  refine J_lcmp (pc := 655) dL_law_655 ?_
  exact J_if_eq (pc := 656) (tgt := 661) dL_law_656 rfl (fun _ => hend) (fun h => absurd (lg_self (e4 hr)) h)
theorem lw_c8 {κ : Kx} {E : En} {Q : State → Prop} {k n : Nat} {i : Int32} {M : Wd} (hi1 : vp_in (i + (1 : Int32)) E.2.2.2.2.1) (hi2 : vp_in (i + (2 : Int32)) E.2.2.2.2.1) (hi3 : vp_in (i + (3 : Int32)) E.2.2.2.2.1) (hM : Inv M) (hk : k + 2 ≤ 601024) (hn : n + 12 ≤ 7293034) (kk : ∀ M', Inv M' → J κ E mi_law Q (k + 2) (n + 12) [(0, .ref 63), (1, .ref 0), (2, .ref 53), (3, .ref 62), (4, .int i)] M' 1976 []) : J κ E mi_law Q k n [(0, .ref 63), (1, .ref 0), (2, .ref 53), (3, .ref 62), (4, .int i)] M 664 [] := by
  obtain ⟨v, M1, M2, e1, e2, e3⟩ := t_clearBuffer M hM
  refine J_aload_n (pc := 664) dL_law_664 rfl 1 rfl ?_
  refine J_callV (g := mi_X3_clearBuffer) (ci := 3) (pc := 665) [] [] mv_X3_clearBuffer w_272 (k_X3_clearBuffer _ e1) rfl (by decide) rfl rfl rfl (rm_law (Nat.le_of_ble_eq_true rfl) (Nat.le_of_ble_eq_true rfl) (show k + 0 ≤ 601024 by omega) (show n + 0 ≤ 7293034 by omega)) (Nat.le_of_ble_eq_true rfl) dL_law_665 (Jk_v rfl rfl fun _ => ?_)
  refine J_aload_n (pc := 668) dL_law_668 rfl 2 rfl ?_
  refine J_callV (g := mi_X4_clearBuffer) (ci := 4) (pc := 669) [] [.int v] mv_X4_clearBuffer w_1272 (k_X4_clearBuffer _ e2) rfl (by decide) rfl rfl rfl (rm_law (Nat.le_of_ble_eq_true rfl) (Nat.le_of_ble_eq_true rfl) (show k + 0 ≤ 601024 by omega) (show n + 0 ≤ 7293034 by omega)) (Nat.le_of_ble_eq_true rfl) dL_law_669 (Jk_v rfl rfl fun _ => ?_)
  refine J_icmp_eq (pc := 672) (tgt := 1976) dL_law_672 rfl (fun _ => ?_) (fun h => absurd rfl h)
  refine J_wide (k' := k + 2) (n' := n + 12) (by omega) (by omega) ?_
  exact kk _ e3
theorem lw_c9 {κ : Kx} {E : En} {Q : State → Prop} {k n : Nat} {i : Int32} {M : Wd} (hi1 : vp_in (i + (1 : Int32)) E.2.2.2.2.1) (hi2 : vp_in (i + (2 : Int32)) E.2.2.2.2.1) (hi3 : vp_in (i + (3 : Int32)) E.2.2.2.2.1) (hM : Inv M) (hk : k + 2 ≤ 601024) (hn : n + 12 ≤ 7293034) (kk : ∀ M', Inv M' → J κ E mi_law Q (k + 2) (n + 12) [(0, .ref 63), (1, .ref 0), (2, .ref 53), (3, .ref 62), (4, .int i)] M' 1976 []) : J κ E mi_law Q k n [(0, .ref 63), (1, .ref 0), (2, .ref 53), (3, .ref 62), (4, .int i)] M 677 [] := by
  obtain ⟨v, M1, M2, e1, e2, e3⟩ := t_firstError M hM
  have e1' : (obind (F_X3_firstError M) fun v => some (v, M)) = some (v, M1) := e1
  obtain ⟨u, e4, e5⟩ := obind_e e1'
  obtain ⟨rfl, rfl⟩ := Prod.mk.inj (Option.some.inj e5)
  refine J_aload_n (pc := 677) dL_law_677 rfl 1 rfl ?_
  refine J_callV (g := mi_X3_firstError) (ci := 3) (pc := 678) [] [] mv_X3_firstError w_280 (k_X3_firstError _ e4) rfl (by decide) rfl rfl rfl (rm_law (Nat.le_of_ble_eq_true rfl) (Nat.le_of_ble_eq_true rfl) (show k + 0 ≤ 601024 by omega) (show n + 0 ≤ 7293034 by omega)) (Nat.le_of_ble_eq_true rfl) dL_law_678 (Jk_v rfl rfl fun _ => ?_)
  refine J_aload_n (pc := 681) dL_law_681 rfl 2 rfl ?_
  refine J_callV (g := mi_X4_firstError) (ci := 4) (pc := 682) [] [.int u] mv_X4_firstError w_1276 (k_X4_firstError _ e2) rfl (by decide) rfl rfl rfl (rm_law (Nat.le_of_ble_eq_true rfl) (Nat.le_of_ble_eq_true rfl) (show k + 0 ≤ 601024 by omega) (show n + 0 ≤ 7293034 by omega)) (Nat.le_of_ble_eq_true rfl) dL_law_682 (Jk_v rfl rfl fun _ => ?_)
  refine J_icmp_eq (pc := 685) (tgt := 1976) dL_law_685 rfl (fun _ => ?_) (fun h => absurd rfl h)
  refine J_wide (k' := k + 2) (n' := n + 12) (by omega) (by omega) ?_
  exact kk _ e3
theorem lw_c10 {κ : Kx} {E : En} {Q : State → Prop} {k n : Nat} {i : Int32} {M : Wd} (hi1 : vp_in (i + (1 : Int32)) E.2.2.2.2.1) (hi2 : vp_in (i + (2 : Int32)) E.2.2.2.2.1) (hi3 : vp_in (i + (3 : Int32)) E.2.2.2.2.1) (hM : Inv M) (hk : k + 2 ≤ 601024) (hn : n + 12 ≤ 7293034) (kk : ∀ M', Inv M' → J κ E mi_law Q (k + 2) (n + 12) [(0, .ref 63), (1, .ref 0), (2, .ref 53), (3, .ref 62), (4, .int i)] M' 1976 []) : J κ E mi_law Q k n [(0, .ref 63), (1, .ref 0), (2, .ref 53), (3, .ref 62), (4, .int i)] M 690 [] := by
  obtain ⟨r, M1, b, M2, e1, e2, e3, e4, e5⟩ := t_work M hM
  have hend : J κ E mi_law Q (k + 1) (n + 6) [(0, .ref 63), (1, .ref 0), (2, .ref 53), (3, .ref 62), (4, .int i), (5, .int r), (6, .int b)] M2 731 [] := by
    refine J_goto (pc := 731) (tgt := 1976) dL_law_731 rfl ?_
    refine J_wide (k' := k + 2) (n' := n + 12) (by omega) (by omega) ?_
    refine J_sub (L' := [(0, .ref 63), (1, .ref 0), (2, .ref 53), (3, .ref 62), (4, .int i)]) [0, 1, 2, 3, 4] rfl ?_
    exact kk _ e5
  refine J_aload_n (pc := 690) dL_law_690 rfl 1 rfl ?_
  refine J_aload_n (pc := 691) dL_law_691 rfl 3 rfl ?_
  refine J_callSX (g := mi_L_work) (pc := 692) [.ref 0, .ref 62] [] ms_L_work w_833 (k_L_work_0_62 _ e1) rfl rfl (rm_law (Nat.le_of_ble_eq_true rfl) (Nat.le_of_ble_eq_true rfl) (show k + 1 ≤ 601024 by omega) (show n + 6 ≤ 7293034 by omega)) (Nat.le_of_ble_eq_true rfl) dL_law_692 (Jk_vk (k + 1) (n + 6) rfl rfl fun _ => ?_)
  refine J_istore (pc := 695) (L' := [(0, .ref 63), (1, .ref 0), (2, .ref 53), (3, .ref 62), (4, .int i), (5, .int r)]) dL_law_695 (by decide) [1, 2, 3, 4, 5, 0] rfl ?_
  refine J_aload_n (pc := 697) dL_law_697 rfl 2 rfl ?_
  refine J_callV (g := mi_X4_work) (ci := 4) (pc := 698) [] [] mv_X4_work w_1317 (k_X4_work _ e2) rfl (by decide) rfl rfl rfl (rm_law (Nat.le_of_ble_eq_true rfl) (Nat.le_of_ble_eq_true rfl) (show (k + 1) + 0 ≤ 601024 by omega) (show (n + 6) + 0 ≤ 7293034 by omega)) (Nat.le_of_ble_eq_true rfl) dL_law_698 (Jk_v rfl rfl fun _ => ?_)
  refine J_istore (pc := 701) (L' := [(0, .ref 63), (1, .ref 0), (2, .ref 53), (3, .ref 62), (4, .int i), (5, .int r), (6, .int b)]) dL_law_701 (by decide) [1, 2, 3, 4, 5, 6, 0] rfl ?_
  refine J_aload_n (pc := 703) dL_law_703 rfl 2 rfl ?_
  refine J_callV (g := mi_X4_thrown) (ci := 4) (pc := 704) [] [] mv_X4_thrown w_1091 (k_X4_thrown _) rfl (by decide) rfl rfl rfl (rm_law (Nat.le_of_ble_eq_true rfl) (Nat.le_of_ble_eq_true rfl) (show (k + 1) + 0 ≤ 601024 by omega) (show (n + 6) + 0 ≤ 7293034 by omega)) (Nat.le_of_ble_eq_true rfl) dL_law_704 (Jk_v rfl rfl fun _ => ?_)
  refine J_iload (pc := 707) dL_law_707 5 rfl ?_
  refine J_icmp_eq (pc := 709) (tgt := 714) dL_law_709 rfl (fun _ => ?_) (fun h => absurd e3 h)
  refine J_iload (pc := 714) dL_law_714 5 rfl ?_
  refine J_if_ne (pc := 716) (tgt := 731) dL_law_716 rfl (fun _ => hend) (fun hr => ?_)
  refine J_aload_n (pc := 719) dL_law_719 rfl 3 rfl ?_
  refine J_iconst (v := (0 : Int32)) (pc := 720) dL_law_720 (by decide) ?_
  refine J_lald (pc := 721) (i := (0 : Int32)) vin0 dL_law_721 ?_
  refine J_iload (pc := 722) dL_law_722 6 rfl ?_
  refine J_i2l (pc := 724) dL_law_724 ?_
  refine J_lcmp (pc := 725) dL_law_725 ?_
  exact J_if_eq (pc := 726) (tgt := 731) dL_law_726 rfl (fun _ => hend) (fun h => absurd (lg_self (e4 hr)) h)
theorem lw_c11 {κ : Kx} {E : En} {Q : State → Prop} {k n : Nat} {i : Int32} {M : Wd} (hi1 : vp_in (i + (1 : Int32)) E.2.2.2.2.1) (hi2 : vp_in (i + (2 : Int32)) E.2.2.2.2.1) (hi3 : vp_in (i + (3 : Int32)) E.2.2.2.2.1) (hM : Inv M) (hk : k + 2 ≤ 601024) (hn : n + 12 ≤ 7293034) (kk : ∀ M', Inv M' → J κ E mi_law Q (k + 2) (n + 12) [(0, .ref 63), (1, .ref 0), (2, .ref 53), (3, .ref 62), (4, .int i)] M' 1976 []) : J κ E mi_law Q k n [(0, .ref 63), (1, .ref 0), (2, .ref 53), (3, .ref 62), (4, .int i)] M 734 [] := by
  obtain ⟨v, M1, M2, e1, e2, e3⟩ := t_hasStopped M hM
  have e1' : (obind (F_X3_hasStopped M) fun v => some (v, M)) = some (v, M1) := e1
  obtain ⟨u, e4, e5⟩ := obind_e e1'
  obtain ⟨rfl, rfl⟩ := Prod.mk.inj (Option.some.inj e5)
  refine J_aload_n (pc := 734) dL_law_734 rfl 1 rfl ?_
  refine J_callV (g := mi_X3_hasStopped) (ci := 3) (pc := 735) [] [] mv_X3_hasStopped w_307 (k_X3_hasStopped _ e4) rfl (by decide) rfl rfl rfl (rm_law (Nat.le_of_ble_eq_true rfl) (Nat.le_of_ble_eq_true rfl) (show k + 0 ≤ 601024 by omega) (show n + 0 ≤ 7293034 by omega)) (Nat.le_of_ble_eq_true rfl) dL_law_735 (Jk_v rfl rfl fun _ => ?_)
  refine J_aload_n (pc := 738) dL_law_738 rfl 2 rfl ?_
  refine J_callV (g := mi_X4_hasStopped) (ci := 4) (pc := 739) [] [.int u] mv_X4_hasStopped w_1321 (k_X4_hasStopped _ e2) rfl (by decide) rfl rfl rfl (rm_law (Nat.le_of_ble_eq_true rfl) (Nat.le_of_ble_eq_true rfl) (show k + 0 ≤ 601024 by omega) (show n + 0 ≤ 7293034 by omega)) (Nat.le_of_ble_eq_true rfl) dL_law_739 (Jk_v rfl rfl fun _ => ?_)
  refine J_icmp_eq (pc := 742) (tgt := 1976) dL_law_742 rfl (fun _ => ?_) (fun h => absurd rfl h)
  refine J_wide (k' := k + 2) (n' := n + 12) (by omega) (by omega) ?_
  exact kk _ e3
theorem lw_c12 {κ : Kx} {E : En} {Q : State → Prop} {k n : Nat} {i : Int32} {M : Wd} (hi1 : vp_in (i + (1 : Int32)) E.2.2.2.2.1) (hi2 : vp_in (i + (2 : Int32)) E.2.2.2.2.1) (hi3 : vp_in (i + (3 : Int32)) E.2.2.2.2.1) (hM : Inv M) (hk : k + 2 ≤ 601024) (hn : n + 12 ≤ 7293034) (kk : ∀ M', Inv M' → J κ E mi_law Q (k + 2) (n + 12) [(0, .ref 63), (1, .ref 0), (2, .ref 53), (3, .ref 62), (4, .int i)] M' 1976 []) : J κ E mi_law Q k n [(0, .ref 63), (1, .ref 0), (2, .ref 53), (3, .ref 62), (4, .int i)] M 747 [] := by
  obtain ⟨r, M1, b, M2, e1, e2, e3, e4, e5⟩ := t_stoppedPart M hM
  have hend : J κ E mi_law Q (k + 1) (n + 6) [(0, .ref 63), (1, .ref 0), (2, .ref 53), (3, .ref 62), (4, .int i), (5, .int r), (6, .int b)] M2 788 [] := by
    refine J_goto (pc := 788) (tgt := 1976) dL_law_788 rfl ?_
    refine J_wide (k' := k + 2) (n' := n + 12) (by omega) (by omega) ?_
    refine J_sub (L' := [(0, .ref 63), (1, .ref 0), (2, .ref 53), (3, .ref 62), (4, .int i)]) [0, 1, 2, 3, 4] rfl ?_
    exact kk _ e5
  refine J_aload_n (pc := 747) dL_law_747 rfl 1 rfl ?_
  refine J_aload_n (pc := 748) dL_law_748 rfl 3 rfl ?_
  refine J_callSX (g := mi_L_stoppedPart) (pc := 749) [.ref 0, .ref 62] [] ms_L_stoppedPart w_882 (k_L_stoppedPart_0_62 _ e1) rfl rfl (rm_law (Nat.le_of_ble_eq_true rfl) (Nat.le_of_ble_eq_true rfl) (show k + 1 ≤ 601024 by omega) (show n + 6 ≤ 7293034 by omega)) (Nat.le_of_ble_eq_true rfl) dL_law_749 (Jk_vk (k + 1) (n + 6) rfl rfl fun _ => ?_)
  refine J_istore (pc := 752) (L' := [(0, .ref 63), (1, .ref 0), (2, .ref 53), (3, .ref 62), (4, .int i), (5, .int r)]) dL_law_752 (by decide) [1, 2, 3, 4, 5, 0] rfl ?_
  refine J_aload_n (pc := 754) dL_law_754 rfl 2 rfl ?_
  refine J_callV (g := mi_X4_stoppedPart) (ci := 4) (pc := 755) [] [] mv_X4_stoppedPart w_1325 (k_X4_stoppedPart _ e2) rfl (by decide) rfl rfl rfl (rm_law (Nat.le_of_ble_eq_true rfl) (Nat.le_of_ble_eq_true rfl) (show (k + 1) + 0 ≤ 601024 by omega) (show (n + 6) + 0 ≤ 7293034 by omega)) (Nat.le_of_ble_eq_true rfl) dL_law_755 (Jk_v rfl rfl fun _ => ?_)
  refine J_istore (pc := 758) (L' := [(0, .ref 63), (1, .ref 0), (2, .ref 53), (3, .ref 62), (4, .int i), (5, .int r), (6, .int b)]) dL_law_758 (by decide) [1, 2, 3, 4, 5, 6, 0] rfl ?_
  refine J_aload_n (pc := 760) dL_law_760 rfl 2 rfl ?_
  refine J_callV (g := mi_X4_thrown) (ci := 4) (pc := 761) [] [] mv_X4_thrown w_1091 (k_X4_thrown _) rfl (by decide) rfl rfl rfl (rm_law (Nat.le_of_ble_eq_true rfl) (Nat.le_of_ble_eq_true rfl) (show (k + 1) + 0 ≤ 601024 by omega) (show (n + 6) + 0 ≤ 7293034 by omega)) (Nat.le_of_ble_eq_true rfl) dL_law_761 (Jk_v rfl rfl fun _ => ?_)
  refine J_iload (pc := 764) dL_law_764 5 rfl ?_
  refine J_icmp_eq (pc := 766) (tgt := 771) dL_law_766 rfl (fun _ => ?_) (fun h => absurd e3 h)
  refine J_iload (pc := 771) dL_law_771 5 rfl ?_
  refine J_if_ne (pc := 773) (tgt := 788) dL_law_773 rfl (fun _ => hend) (fun hr => ?_)
  refine J_aload_n (pc := 776) dL_law_776 rfl 3 rfl ?_
  refine J_iconst (v := (0 : Int32)) (pc := 777) dL_law_777 (by decide) ?_
  refine J_lald (pc := 778) (i := (0 : Int32)) vin0 dL_law_778 ?_
  refine J_iload (pc := 779) dL_law_779 6 rfl ?_
  refine J_i2l (pc := 781) dL_law_781 ?_
  refine J_lcmp (pc := 782) dL_law_782 ?_
  exact J_if_eq (pc := 783) (tgt := 788) dL_law_783 rfl (fun _ => hend) (fun h => absurd (lg_self (e4 hr)) h)
